set_option maxHeartbeats 4000000 in
set_option maxRecDepth 100000 in
theorem qX2_addSample (l : Launch) (D : va_G) (cI cL : ClassId) (th : Nat) (th_row : Nat) (c_length : Int32) (f_row : Nat → Int32) (a1 : Int32) (res : Int32 × (Nat → Int32)) (hf : fX2_addSample a1 c_length f_row = some res) : pq_CV l yX2_addSample qsX2_addSample 1 21 D cI cL [.ref th, .int a1] (wX2_addSample cI th th_row c_length f_row) (wX2_addSample cI th th_row res.1 res.2) := by
  refine pq_mkV (cc := cX2_addSample) (maxL := 2) (by decide) rfl (Nat.le_of_ble_eq_true rfl) ?_
  intro p e s m args below meth c Q A C hh hret ls hl
  have hx := C.1
  have hb := C.2.1
  have hml := C.2.2.1
  have hown : s.vm.findClass RX2 = some m.cls := C.2.2.2.1
  have hs : ∀ w ∈ wsL_law, w ∈ qsX2_addSample := fun _ h => List.mem_cons_of_mem _ h
  have htw : ∀ w ∈ wsL_law, w.before args s = true := fun w h => C.2.2.2.2.1 w (hs w h)
  have hl : lv_has ls 2 [(0, .ref th), (1, .int a1)] := hl
  rw [fX2_addSample] at hf
  refine lv_aload_n hx hb dX2_addSample_0 rfl (lv_at hl 0 rfl) ?_
  refine lv_iload_n hx hb dX2_addSample_1 rfl (lv_at hl 1 rfl) ?_
  refine lv_bipush (v := (8 : Int32)) hx hb dX2_addSample_2 (by decide) ?_
  refine lv_ishr hx hb dX2_addSample_4 ?_
  obtain ⟨⟨c1, f2⟩, hu3, hf⟩ := pq_clx hf
  have hf := pq_nmx hf c1 rfl
  have hf := pq_nmx hf f2 rfl
  refine pq_cvV (n := 1) (As := [.int (a1 >>> ((8 : Int32) &&& 31))]) C hh (qX2_add l D cI cL th th_row c_length f_row (a1 >>> ((8 : Int32) &&& 31)) (c1, f2) hu3) (gvX2_add hs (pq_m25 _ (List.mem_of_getElem? (i := 23) rfl))) rfl (by decide +kernel) ⟨Nat.le_of_ble_eq_true rfl, Nat.le_of_ble_eq_true rfl⟩ 0 2 rfl rfl rfl hl.1 rfl rfl (Nat.le_of_ble_eq_true rfl) dX2_addSample_5 ⟨Nat.zero_le _, Nat.zero_le _⟩ [0, 1] [] [0, 1] rfl rfl (by decide) (by decide) (by decide) rfl (fun H locs (hh : pq_H D A s (wX2_addSample cI th th_row c1 f2) H locs) => ?_)
  refine lv_aload_n hx hb dX2_addSample_8 rfl (lv_at hl 0 rfl) ?_
  refine lv_iload_n hx hb dX2_addSample_9 rfl (lv_at hl 1 rfl) ?_
  obtain ⟨⟨c5, f6⟩, hu7, hf⟩ := pq_clx hf
  have hf := pq_nmx hf c5 rfl
  have hf := pq_nmx hf f6 rfl
  refine pq_cvV (n := 1) (As := [.int a1]) C hh (qX2_add l D cI cL th th_row c1 f2 a1 (c5, f6) hu7) (gvX2_add hs (pq_m25 _ (List.mem_of_getElem? (i := 23) rfl))) rfl (by decide +kernel) ⟨Nat.le_of_ble_eq_true rfl, Nat.le_of_ble_eq_true rfl⟩ 0 2 rfl rfl rfl hl.1 rfl rfl (Nat.le_of_ble_eq_true rfl) dX2_addSample_10 ⟨Nat.zero_le _, Nat.zero_le _⟩ [0, 1] [] [0, 1] rfl rfl (by decide) (by decide) (by decide) rfl (fun H locs (hh : pq_H D A s (wX2_addSample cI th th_row c5 f6) H locs) => ?_)
  obtain rfl := Option.some.inj hf
  exact hret _ _ _ ls hh dX2_addSample_13
set_option maxHeartbeats 4000000 in
set_option maxRecDepth 100000 in
theorem qX2_sampleAt (l : Launch) (D : va_G) (cI cL : ClassId) (th : Nat) (th_row : Nat) (c_length : Int32) (f_row : Nat → Int32) (a1 : Int32) (res : Int32) (hf : fX2_sampleAt a1 c_length f_row = some res) : pq_CI l yX2_sampleAt qsX2_sampleAt 1 21 D cI cL [.ref th, .int a1] (wX2_sampleAt cI th th_row c_length f_row) (wX2_sampleAt cI th th_row c_length f_row) res := by
  refine pq_mkI (cc := cX2_sampleAt) (maxL := 2) (RT := .int) (by decide) rfl (Nat.le_of_ble_eq_true rfl) ?_
  intro p e s m args below meth c Q A C hh hret ls hl
  have hx := C.1
  have hb := C.2.1
  have hml := C.2.2.1
  have hown : s.vm.findClass RX2 = some m.cls := C.2.2.2.1
  have hs : ∀ w ∈ wsL_law, w ∈ qsX2_sampleAt := fun _ h => List.mem_cons_of_mem _ h
  have htw : ∀ w ∈ wsL_law, w.before args s = true := fun w h => C.2.2.2.2.1 w (hs w h)
  have hl : lv_has ls 2 [(0, .ref th), (1, .int a1)] := hl
  have kiRX6 := htw (.initialized RX6) (pq_m1 _ (List.mem_of_getElem? (i := 2) rfl))
  have ks28 := htw (.static yX6_wrapped) (pq_m12 _ (List.mem_of_getElem? (i := 5) rfl))
  rw [fX2_sampleAt] at hf
  refine lv_aload_n hx hb dX2_sampleAt_0 rfl (lv_at hl 0 rfl) ?_
  refine lv_iload_n hx hb dX2_sampleAt_1 rfl (lv_at hl 1 rfl) ?_
  obtain ⟨r1, hu2, hf⟩ := pq_clx hf
  refine pq_cvI (n := 1) (As := [.int a1]) C hh (qX2_byteAt l D cI cL th th_row c_length f_row a1 r1 hu2) (gvX2_byteAt hs (pq_m28 _ (List.mem_of_getElem? (i := 15) rfl))) rfl (by decide +kernel) ⟨Nat.le_of_ble_eq_true rfl, Nat.le_of_ble_eq_true rfl⟩ 0 2 rfl rfl rfl hl.1 rfl rfl (Nat.le_of_ble_eq_true rfl) dX2_sampleAt_2 ⟨Nat.zero_le _, Nat.zero_le _⟩ [0, 1] [] [0, 1] rfl rfl (by decide) (by decide) (by decide) rfl (fun H locs (hh : pq_H D A s (wX2_sampleAt cI th th_row c_length f_row) H locs) => ?_)
  refine lv_bipush (v := (8 : Int32)) hx hb dX2_sampleAt_5 (by decide) ?_
  refine lv_ishl hx hb dX2_sampleAt_7 ?_
  refine lv_aload_n hx hb dX2_sampleAt_8 rfl (lv_at hl 0 rfl) ?_
  refine lv_iload_n hx hb dX2_sampleAt_9 rfl (lv_at hl 1 rfl) ?_
  refine lv_iconst (v := (1 : Int32)) hx hb dX2_sampleAt_10 (by decide) ?_
  refine lv_iadd hx hb dX2_sampleAt_11 ?_
  obtain ⟨r3, hu4, hf⟩ := pq_clx hf
  refine pq_cvI (n := 1) (As := [.int (a1 + (1 : Int32))]) C hh (qX2_byteAt l D cI cL th th_row c_length f_row (a1 + (1 : Int32)) r3 hu4) (gvX2_byteAt hs (pq_m28 _ (List.mem_of_getElem? (i := 15) rfl))) rfl (by decide +kernel) ⟨Nat.le_of_ble_eq_true rfl, Nat.le_of_ble_eq_true rfl⟩ 0 2 rfl rfl rfl hl.1 rfl rfl (Nat.le_of_ble_eq_true rfl) dX2_sampleAt_12 ⟨Nat.zero_le _, Nat.zero_le _⟩ [0, 1] [] [0, 1] rfl rfl (by decide) (by decide) (by decide) rfl (fun H locs (hh : pq_H D A s (wX2_sampleAt cI th th_row c_length f_row) H locs) => ?_)
  refine lv_ior hx hb dX2_sampleAt_15 ?_
  obtain ⟨r5, hu6, hf⟩ := pq_clx hf
  refine pq_cnI (n := 1) (As := [.int ((r1 <<< ((8 : Int32) &&& 31)) ||| r3)]) C hh (qX6_wrapped l D cI cL ((r1 <<< ((8 : Int32) &&& 31)) ||| r3) r5 hu6) (gnX6_wrapped hs) rfl (List.mem_of_getElem? (i := 13) rfl) ks28 kiRX6 (by decide +kernel) ⟨Nat.le_of_ble_eq_true rfl, Nat.le_of_ble_eq_true rfl⟩ hl.1 rfl rfl (Nat.le_of_ble_eq_true rfl) dX2_sampleAt_16 ⟨Nat.zero_le _, Nat.zero_le _⟩ [] [0, 1] [0, 1] rfl rfl (by decide) (by decide) (by decide) rfl (fun H locs (hh : pq_H D A s (wX2_sampleAt cI th th_row c_length f_row) H locs) => ?_)
  obtain rfl := Option.some.inj hf
  exact hret _ _ _ ls hh dX2_sampleAt_19 rfl
set_option maxHeartbeats 4000000 in
set_option maxRecDepth 100000 in
theorem qX2_copyFrom (l : Launch) (D : va_G) (cI cL : ClassId) (th : Nat) (th_row : Nat) (ot : Nat) (ot_row : Nat) (c_length : Int32) (f_row : Nat → Int32) (c_ot_length : Int32) (f_ot_row : Nat → Int32) (res : Int32 × (Nat → Int32)) (hf : fX2_copyFrom c_ot_length f_ot_row c_length f_row = some res) : pq_CV l yX2_copyFrom qsX2_copyFrom 0 0 D cI cL [.ref th, .ref ot] (wX2_copyFrom cI th th_row ot ot_row c_length f_row c_ot_length f_ot_row) (wX2_copyFrom cI th th_row ot ot_row res.1 res.2 c_ot_length f_ot_row) := by
  refine pq_mkV (cc := cX2_copyFrom) (maxL := 3) (by decide) rfl (Nat.le_of_ble_eq_true rfl) ?_
  intro p e s m args below meth c Q A C hh hret ls hl
  have hx := C.1
  have hb := C.2.1
  have hml := C.2.2.1
  have hown : s.vm.findClass RX2 = some m.cls := C.2.2.2.1
  have hs : ∀ w ∈ wsL_law, w ∈ qsX2_copyFrom := fun _ h => List.mem_cons_of_mem _ h
  have htw : ∀ w ∈ wsL_law, w.before args s = true := fun w h => C.2.2.2.2.1 w (hs w h)
  have hl : lv_has ls 3 [(0, .ref th), (1, .ref ot)] := hl
  have i2 : ∀ w ∈ wsX20, w ∈ qsX2_copyFrom := fun w h => hs w (pq_i2 w h)
  have kf11 := htw (.fieldLink RX2 11 "VoiceDesk$Bytes" "row" "[I") (pq_m3 _ (List.mem_of_getElem? (i := 14) rfl))
  have kf15 := htw (.fieldLink RX2 15 "VoiceDesk$Bytes" "length" "I") (pq_m3 _ (List.mem_of_getElem? (i := 15) rfl))
  have J10 : ∀ (fuel10 : Nat) (x2 : Int32) (c_length : Int32) (f_row : Nat → Int32) (H : Heap) (locs : List Loc), pq_H D A s (wX2_copyFrom cI th th_row ot ot_row c_length f_row c_ot_length f_ot_row) H locs → ∀ ls : Array Slot, lv_has ls 3 [(0, .ref th), (1, .ref ot), (2, .int x2)] → fX2_copyFrom_b10  c_ot_length f_ot_row fuel10 x2 c_length f_row = some res → W p l e (pq_rm 0 0) s m args below meth c H locs 0 0 Q (F0 m 10 ls []) := by
    intro fuel10
    induction fuel10 with
    | zero => intro x2 c_length f_row H locs hh ls hl hf; rw [fX2_copyFrom_b10] at hf; cases hf
    | succ fuel10 ih10 =>
      intro x2 c_length f_row H locs hh ls hl hf
      rw [fX2_copyFrom_b10] at hf
      refine lv_iload_n hx hb dX2_copyFrom_10 rfl (lv_at hl 2 rfl) ?_
      refine lv_aload_n hx hb dX2_copyFrom_11 rfl (lv_at hl 0 rfl) ?_
      refine pq_get C hh i2 0 2 rfl rfl 1 (by decide) kf15 rfl rfl dX2_copyFrom_12 ?_
      refine lv_icmp_ge (tgt := 36) hx hb dX2_copyFrom_15 (by decide) (fun h1 => ?_) (fun h1 => ?_)
      · have hf := pq_brt hf h1
        obtain rfl := Option.some.inj hf
        exact hret _ _ _ ls hh dX2_copyFrom_36
      · have hf := pq_brf hf h1
        refine lv_aload_n hx hb dX2_copyFrom_18 rfl (lv_at hl 0 rfl) ?_
        refine pq_get C hh i2 0 2 rfl rfl 0 (by decide) kf11 rfl rfl dX2_copyFrom_19 ?_
        refine lv_iload_n hx hb dX2_copyFrom_22 rfl (lv_at hl 2 rfl) ?_
        refine lv_aload_n hx hb dX2_copyFrom_23 rfl (lv_at hl 1 rfl) ?_
        refine pq_get C hh i2 2 2 rfl rfl 0 (by decide) kf11 rfl rfl dX2_copyFrom_24 ?_
        refine lv_iload_n hx hb dX2_copyFrom_27 rfl (lv_at hl 2 rfl) ?_
        obtain ⟨h2, hf⟩ := pq_rdx hf
        refine pq_iald C hh 3 rfl h2 dX2_copyFrom_28 (fun v3 e4 => ?_)
        have hf := hf v3 e4
        obtain ⟨h5, hf⟩ := pq_wrx hf
        refine pq_iast C hh 1 rfl h5 dX2_copyFrom_29 (fun H locs f6 e7 (hh : pq_H D A s (wX2_copyFrom cI th th_row ot ot_row c_length f6 c_ot_length f_ot_row) H locs) => ?_)
        have hf := hf f6 e7
        obtain ⟨v8, e9⟩ : ∃ y : Int32, y = x2 + (1 : Int32) := ⟨_, rfl⟩
        refine lv_iinc (v := v8) (lv' := [(2, .int v8), (0, .ref th), (1, .ref ot)]) hx hb dX2_copyFrom_30 hl (k := 2) rfl (by rw [e9]; rfl) (by decide) rfl (fun ls hl => ?_)
        have hf := pq_nmx hf v8 e9
        refine lv_goto (tgt := 10) hx hb dX2_copyFrom_33 (by decide) ?_
        exact ih10 v8 c_length f6 _ _ hh ls (lv_sub hl [1, 2, 0] rfl) hf
  rw [fX2_copyFrom] at hf
  refine lv_aload_n hx hb dX2_copyFrom_0 rfl (lv_at hl 0 rfl) ?_
  refine lv_aload_n hx hb dX2_copyFrom_1 rfl (lv_at hl 1 rfl) ?_
  refine pq_get C hh i2 2 2 rfl rfl 1 (by decide) kf15 rfl rfl dX2_copyFrom_2 ?_
  refine pq_put (ty := .int) (v := .int c_ot_length) C hh i2 tyX2 tyX2_ok nmX2 0 2 rfl rfl 1 (by decide) kf15 rfl rfl (by decide +kernel) rfl rfl (Nat.le_of_ble_eq_true rfl) dX2_copyFrom_5 (fun H locs (hh : pq_H D A s (wX2_copyFrom cI th th_row ot ot_row c_ot_length f_row c_ot_length f_ot_row) H locs) => ?_)
  refine lv_iconst (v := (0 : Int32)) hx hb dX2_copyFrom_8 (by decide) ?_
  refine lv_istore_n (lv' := [(2, .int (0 : Int32)), (0, .ref th), (1, .ref ot)]) hx hb dX2_copyFrom_9 rfl hl (by decide) rfl (fun ls hl => ?_)
  exact J10 1100 (0 : Int32) c_ot_length f_row _ _ hh ls (lv_sub hl [1, 2, 0] rfl) hf
set_option maxHeartbeats 4000000 in
set_option maxRecDepth 100000 in
theorem qX2_clearFor (l : Launch) (D : va_G) (cI cL : ClassId) (th : Nat) (th_row : Nat) (c_length : Int32) (f_row : Nat → Int32) (a1 : Int32) (res : Int32 × (Nat → Int32)) (hf : fX2_clearFor a1 c_length f_row = some res) : pq_CV l yX2_clearFor qsX2_clearFor 1 20 D cI cL [.ref th, .int a1] (wX2_clearFor cI th th_row c_length f_row) (wX2_clearFor cI th th_row res.1 res.2) := by
  refine pq_mkV (cc := cX2_clearFor) (maxL := 3) (by decide) rfl (Nat.le_of_ble_eq_true rfl) ?_
  intro p e s m args below meth c Q A C hh hret ls hl
  have hx := C.1
  have hb := C.2.1
  have hml := C.2.2.1
  have hown : s.vm.findClass RX2 = some m.cls := C.2.2.2.1
  have hs : ∀ w ∈ wsL_law, w ∈ qsX2_clearFor := fun _ h => List.mem_cons_of_mem _ h
  have htw : ∀ w ∈ wsL_law, w.before args s = true := fun w h => C.2.2.2.2.1 w (hs w h)
  have hl : lv_has ls 3 [(0, .ref th), (1, .int a1)] := hl
  have i2 : ∀ w ∈ wsX20, w ∈ qsX2_clearFor := fun w h => hs w (pq_i2 w h)
  have kf11 := htw (.fieldLink RX2 11 "VoiceDesk$Bytes" "row" "[I") (pq_m3 _ (List.mem_of_getElem? (i := 14) rfl))
  have kf15 := htw (.fieldLink RX2 15 "VoiceDesk$Bytes" "length" "I") (pq_m3 _ (List.mem_of_getElem? (i := 15) rfl))
  have kim := htw (.initialized "java/lang/Math") (pq_m10 _ (List.mem_of_getElem? (i := 17) rfl))
  have kk34 := htw (.code Lib.Math.min.name Lib.Math.min.code 2 (some .int)) (pq_m10 _ (List.mem_of_getElem? (i := 18) rfl))
  have km34 := htw (.methodLink RX2 34 Lib.Math.min.name) (pq_m28 _ (List.mem_of_getElem? (i := 7) rfl))
  have ks34 := htw (.static Lib.Math.min.name) (pq_m10 _ (List.mem_of_getElem? (i := 16) rfl))
  have J16 : ∀ (fuel16 : Nat) (x2 : Int32) (c_length : Int32) (f_row : Nat → Int32) (H : Heap) (locs : List Loc), pq_H D A s (wX2_clearFor cI th th_row c_length f_row) H locs → ∀ ls : Array Slot, lv_has ls 3 [(0, .ref th), (2, .int x2)] → fX2_clearFor_b16   fuel16 x2 c_length f_row = some res → W p l e (pq_rm 1 20) s m args below meth c H locs 0 0 Q (F0 m 16 ls []) := by
    intro fuel16
    induction fuel16 with
    | zero => intro x2 c_length f_row H locs hh ls hl hf; rw [fX2_clearFor_b16] at hf; cases hf
    | succ fuel16 ih16 =>
      intro x2 c_length f_row H locs hh ls hl hf
      rw [fX2_clearFor_b16] at hf
      refine lv_iload_n hx hb dX2_clearFor_16 rfl (lv_at hl 1 rfl) ?_
      refine lv_aload_n hx hb dX2_clearFor_17 rfl (lv_at hl 0 rfl) ?_
      refine pq_get C hh i2 0 2 rfl rfl 1 (by decide) kf15 rfl rfl dX2_clearFor_18 ?_
      refine lv_icmp_ge (tgt := 37) hx hb dX2_clearFor_21 (by decide) (fun h5 => ?_) (fun h5 => ?_)
      · have hf := pq_brt hf h5
        obtain rfl := Option.some.inj hf
        exact hret _ _ _ ls hh dX2_clearFor_37
      · have hf := pq_brf hf h5
        refine lv_aload_n hx hb dX2_clearFor_24 rfl (lv_at hl 0 rfl) ?_
        refine pq_get C hh i2 0 2 rfl rfl 0 (by decide) kf11 rfl rfl dX2_clearFor_25 ?_
        refine lv_iload_n hx hb dX2_clearFor_28 rfl (lv_at hl 1 rfl) ?_
        refine lv_iconst (v := (0 : Int32)) hx hb dX2_clearFor_29 (by decide) ?_
        obtain ⟨h6, hf⟩ := pq_wrx hf
        refine pq_iast C hh 1 rfl h6 dX2_clearFor_30 (fun H locs f7 e8 (hh : pq_H D A s (wX2_clearFor cI th th_row c_length f7) H locs) => ?_)
        have hf := hf f7 e8
        obtain ⟨v9, e10⟩ : ∃ y : Int32, y = x2 + (1 : Int32) := ⟨_, rfl⟩
        refine lv_iinc (v := v9) (lv' := [(2, .int v9), (0, .ref th)]) hx hb dX2_clearFor_31 hl (k := 1) rfl (by rw [e10]; rfl) (by decide) rfl (fun ls hl => ?_)
        have hf := pq_nmx hf v9 e10
        refine lv_goto (tgt := 16) hx hb dX2_clearFor_34 (by decide) ?_
        exact ih16 v9 c_length f7 _ _ hh ls (lv_sub hl [1, 0] rfl) hf
  rw [fX2_clearFor] at hf
  refine lv_aload_n hx hb dX2_clearFor_0 rfl (lv_at hl 0 rfl) ?_
  refine lv_sipush (v := (1000 : Int32)) hx hb dX2_clearFor_1 (by decide) ?_
  refine lv_iload_n hx hb dX2_clearFor_4 rfl (lv_at hl 1 rfl) ?_
  obtain ⟨r1, hu2, hf⟩ := pq_clx hf
  refine pq_csI (n := 1) (As := [.int a1]) C hh (qX2_needed l D cI cL a1 r1 hu2) (gsX2_needed hs (pq_m28 _ (List.mem_of_getElem? (i := 8) rfl))) rfl (by decide +kernel) ⟨Nat.le_of_ble_eq_true rfl, Nat.le_of_ble_eq_true rfl⟩ hl.1 rfl rfl (Nat.le_of_ble_eq_true rfl) dX2_clearFor_5 ⟨Nat.zero_le _, Nat.zero_le _⟩ [] [0, 1] [0, 1] rfl rfl (by decide) (by decide) (by decide) rfl (fun H locs (hh : pq_H D A s (wX2_clearFor cI th th_row c_length f_row) H locs) => ?_)
  refine va_mmin hx hb (by rw [hml]; exact hl.1.symm) hown km34 ks34 kim kk34 (Nat.le_of_ble_eq_true rfl) (Nat.le_of_ble_eq_true rfl) (Nat.zero_le _) (Nat.zero_le _) dX2_clearFor_8 ?_
  refine lv_topi (fun v3 e4 => ?_)
  have hf := pq_nmx hf v3 e4
  refine pq_put (ty := .int) (v := .int v3) C hh i2 tyX2 tyX2_ok nmX2 0 2 rfl rfl 1 (by decide) kf15 rfl rfl (by decide +kernel) rfl rfl (Nat.le_of_ble_eq_true rfl) dX2_clearFor_11 (fun H locs (hh : pq_H D A s (wX2_clearFor cI th th_row v3 f_row) H locs) => ?_)
  refine lv_iconst (v := (0 : Int32)) hx hb dX2_clearFor_14 (by decide) ?_
  refine lv_istore_n (lv' := [(2, .int (0 : Int32)), (0, .ref th), (1, .int a1)]) hx hb dX2_clearFor_15 rfl hl (by decide) rfl (fun ls hl => ?_)
  exact J16 1100 (0 : Int32) v3 f_row _ _ hh ls (lv_sub hl [1, 0] rfl) hf
set_option maxHeartbeats 4000000 in
set_option maxRecDepth 100000 in
theorem qX2_codeBit (l : Launch) (D : va_G) (cI cL : ClassId) (a0 : Int32) (a1 : Int32) (a2 : Int32) (res : Int32) (hf : fX2_codeBit a0 a1 a2 = some res) : pq_CI l yX2_codeBit qsX2_codeBit 0 0 D cI cL [.int a0, .int a1, .int a2] [] [] res := by
  refine pq_mkI (cc := cX2_codeBit) (maxL := 3) (RT := .int) (by decide) rfl (Nat.le_of_ble_eq_true rfl) ?_
  intro p e s m args below meth c Q A C hh hret ls hl
  have hx := C.1
  have hb := C.2.1
  have hml := C.2.2.1
  have hown : s.vm.findClass RX2 = some m.cls := C.2.2.2.1
  have hs : ∀ w ∈ wsL_law, w ∈ qsX2_codeBit := fun _ h => List.mem_cons_of_mem _ h
  have htw : ∀ w ∈ wsL_law, w.before args s = true := fun w h => C.2.2.2.2.1 w (hs w h)
  have hl : lv_has ls 3 [(0, .int a0), (1, .int a1), (2, .int a2)] := hl
  rw [fX2_codeBit] at hf
  refine lv_iload_n hx hb dX2_codeBit_0 rfl (lv_at hl 2 rfl) ?_
  refine lv_if_eq (tgt := 12) hx hb dX2_codeBit_1 (by decide) (fun h1 => ?_) (fun h1 => ?_)
  · have hf := pq_brt hf h1
    refine lv_iload_n hx hb dX2_codeBit_12 rfl (lv_at hl 0 rfl) ?_
    obtain rfl := Option.some.inj hf
    exact hret _ _ _ ls hh dX2_codeBit_13 rfl
  · have hf := pq_brf hf h1
    refine lv_iload_n hx hb dX2_codeBit_4 rfl (lv_at hl 1 rfl) ?_
    refine lv_iconst (v := (1 : Int32)) hx hb dX2_codeBit_5 (by decide) ?_
    refine lv_isub hx hb dX2_codeBit_6 ?_
    refine lv_iload_n hx hb dX2_codeBit_7 rfl (lv_at hl 0 rfl) ?_
    refine lv_isub hx hb dX2_codeBit_8 ?_
    refine lv_goto (tgt := 13) hx hb dX2_codeBit_9 (by decide) ?_
    obtain rfl := Option.some.inj hf
    exact hret _ _ _ ls hh dX2_codeBit_13 rfl
set_option maxHeartbeats 4000000 in
set_option maxRecDepth 100000 in
theorem qX2_byteBit (l : Launch) (D : va_G) (cI cL : ClassId) (a0 : Int32) (a1 : Int32) (res : Int32) (hf : fX2_byteBit a0 a1 = some res) : pq_CI l yX2_byteBit qsX2_byteBit 0 0 D cI cL [.int a0, .int a1] [] [] res := by
  refine pq_mkI (cc := cX2_byteBit) (maxL := 2) (RT := .int) (by decide) rfl (Nat.le_of_ble_eq_true rfl) ?_
  intro p e s m args below meth c Q A C hh hret ls hl
  have hx := C.1
  have hb := C.2.1
  have hml := C.2.2.1
  have hown : s.vm.findClass RX2 = some m.cls := C.2.2.2.1
  have hs : ∀ w ∈ wsL_law, w ∈ qsX2_byteBit := fun _ h => List.mem_cons_of_mem _ h
  have htw : ∀ w ∈ wsL_law, w.before args s = true := fun w h => C.2.2.2.2.1 w (hs w h)
  have hl : lv_has ls 2 [(0, .int a0), (1, .int a1)] := hl
  rw [fX2_byteBit] at hf
  refine lv_iload_n hx hb dX2_byteBit_0 rfl (lv_at hl 1 rfl) ?_
  refine lv_if_eq (tgt := 14) hx hb dX2_byteBit_1 (by decide) (fun h1 => ?_) (fun h1 => ?_)
  · have hf := pq_brt hf h1
    refine lv_iload_n hx hb dX2_byteBit_14 rfl (lv_at hl 0 rfl) ?_
    refine lv_bipush (v := (7 : Int32)) hx hb dX2_byteBit_15 (by decide) ?_
    refine lv_iand hx hb dX2_byteBit_17 ?_
    obtain rfl := Option.some.inj hf
    exact hret _ _ _ ls hh dX2_byteBit_18 rfl
  · have hf := pq_brf hf h1
    refine lv_bipush (v := (7 : Int32)) hx hb dX2_byteBit_4 (by decide) ?_
    refine lv_iload_n hx hb dX2_byteBit_6 rfl (lv_at hl 0 rfl) ?_
    refine lv_bipush (v := (7 : Int32)) hx hb dX2_byteBit_7 (by decide) ?_
    refine lv_iand hx hb dX2_byteBit_9 ?_
    refine lv_isub hx hb dX2_byteBit_10 ?_
    refine lv_goto (tgt := 18) hx hb dX2_byteBit_11 (by decide) ?_
    obtain rfl := Option.some.inj hf
    exact hret _ _ _ ls hh dX2_byteBit_18 rfl
set_option maxHeartbeats 4000000 in
set_option maxRecDepth 100000 in
theorem qX2_putCode (l : Launch) (D : va_G) (cI cL : ClassId) (th : Nat) (th_row : Nat) (c_length : Int32) (f_row : Nat → Int32) (a1 : Int32) (a2 : Int32) (a3 : Int32) (a4 : Int32) (res : (Nat → Int32)) (hf : fX2_putCode a1 a2 a3 a4 c_length f_row = some res) : pq_CV l yX2_putCode qsX2_putCode 1 22 D cI cL [.ref th, .int a1, .int a2, .int a3, .int a4] (wX2_putCode cI th th_row c_length f_row) (wX2_putCode cI th th_row c_length res) := by
  refine pq_mkV (cc := cX2_putCode) (maxL := 9) (by decide) rfl (Nat.le_of_ble_eq_true rfl) ?_
  intro p e s m args below meth c Q A C hh hret ls hl
  have hx := C.1
  have hb := C.2.1
  have hml := C.2.2.1
  have hown : s.vm.findClass RX2 = some m.cls := C.2.2.2.1
  have hs : ∀ w ∈ wsL_law, w ∈ qsX2_putCode := fun _ h => List.mem_cons_of_mem _ h
  have htw : ∀ w ∈ wsL_law, w.before args s = true := fun w h => C.2.2.2.2.1 w (hs w h)
  have hl : lv_has ls 9 [(0, .ref th), (1, .int a1), (2, .int a2), (3, .int a3), (4, .int a4)] := hl
  have i2 : ∀ w ∈ wsX20, w ∈ qsX2_putCode := fun w h => hs w (pq_i2 w h)
  have kf11 := htw (.fieldLink RX2 11 "VoiceDesk$Bytes" "row" "[I") (pq_m3 _ (List.mem_of_getElem? (i := 14) rfl))
  have kf15 := htw (.fieldLink RX2 15 "VoiceDesk$Bytes" "length" "I") (pq_m3 _ (List.mem_of_getElem? (i := 15) rfl))
  have J3 : ∀ (fuel3 : Nat) (x1 : Int32) (x2 : Int32) (x3 : Int32) (x4 : Int32) (x5 : Int32) (f_row : Nat → Int32) (H : Heap) (locs : List Loc), pq_H D A s (wX2_putCode cI th th_row c_length f_row) H locs → ∀ ls : Array Slot, lv_has ls 9 [(0, .ref th), (1, .int x1), (2, .int x2), (3, .int x3), (4, .int x4), (5, .int x5)] → fX2_putCode_b3  c_length fuel3 x1 x2 x3 x4 x5 f_row = some res → W p l e (pq_rm 1 22) s m args below meth c H locs 0 0 Q (F0 m 3 ls []) := by
    intro fuel3
    induction fuel3 with
    | zero => intro x1 x2 x3 x4 x5 f_row H locs hh ls hl hf; rw [fX2_putCode_b3] at hf; cases hf
    | succ fuel3 ih3 =>
      have J70 : ∀ (x1 : Int32) (x2 : Int32) (x3 : Int32) (x4 : Int32) (x5 : Int32) (f_row : Nat → Int32) (H : Heap) (locs : List Loc), pq_H D A s (wX2_putCode cI th th_row c_length f_row) H locs → ∀ ls : Array Slot, lv_has ls 9 [(0, .ref th), (1, .int x1), (2, .int x2), (3, .int x3), (4, .int x4), (5, .int x5)] → fX2_putCode_b70 (fX2_putCode_b3  c_length fuel3) c_length x1 x2 x3 x4 x5 f_row = some res → W p l e (pq_rm 1 22) s m args below meth c H locs 0 0 Q (F0 m 70 ls []) := by
        intro x1 x2 x3 x4 x5 f_row H locs hh ls hl hf
        rw [fX2_putCode_b70] at hf
        obtain ⟨v20, e21⟩ : ∃ y : Int32, y = x5 + (1 : Int32) := ⟨_, rfl⟩
        refine lv_iinc (v := v20) (lv' := [(5, .int v20), (0, .ref th), (1, .int x1), (2, .int x2), (3, .int x3), (4, .int x4)]) hx hb dX2_putCode_70 hl (k := 5) rfl (by rw [e21]; rfl) (by decide) rfl (fun ls hl => ?_)
        have hf := pq_nmx hf v20 e21
        refine lv_goto (tgt := 3) hx hb dX2_putCode_73 (by decide) ?_
        exact ih3 x1 x2 x3 x4 v20 f_row _ _ hh ls (lv_sub hl [1, 2, 3, 4, 5, 0] rfl) hf
      intro x1 x2 x3 x4 x5 f_row H locs hh ls hl hf
      rw [fX2_putCode_b3] at hf
      refine lv_iload hx hb dX2_putCode_3 (lv_at hl 5 rfl) ?_
      refine lv_iload_n hx hb dX2_putCode_5 rfl (lv_at hl 2 rfl) ?_
      refine lv_icmp_ge (tgt := 76) hx hb dX2_putCode_6 (by decide) (fun h1 => ?_) (fun h1 => ?_)
      · have hf := pq_brt hf h1
        obtain rfl := Option.some.inj hf
        exact hret _ _ _ ls hh dX2_putCode_76
      · have hf := pq_brf hf h1
        refine lv_iload_n hx hb dX2_putCode_9 rfl (lv_at hl 1 rfl) ?_
        refine lv_iload_n hx hb dX2_putCode_10 rfl (lv_at hl 2 rfl) ?_
        refine lv_imul hx hb dX2_putCode_11 ?_
        refine lv_iload hx hb dX2_putCode_12 (lv_at hl 5 rfl) ?_
        refine lv_iadd hx hb dX2_putCode_14 ?_
        refine lv_topi (fun v2 e3 => ?_)
        have hf := pq_nmx hf v2 e3
        refine lv_istore (lv' := [(6, .int v2), (0, .ref th), (1, .int x1), (2, .int x2), (3, .int x3), (4, .int x4), (5, .int x5)]) hx hb dX2_putCode_15 hl (by decide) rfl (fun ls hl => ?_)
        refine lv_iload hx hb dX2_putCode_17 (lv_at hl 0 rfl) ?_
        refine lv_iconst (v := (3 : Int32)) hx hb dX2_putCode_19 (by decide) ?_
        refine lv_ishr hx hb dX2_putCode_20 ?_
        refine lv_topi (fun v4 e5 => ?_)
        have hf := pq_nmx hf v4 e5
        refine lv_istore (lv' := [(7, .int v4), (6, .int v2), (0, .ref th), (1, .int x1), (2, .int x2), (3, .int x3), (4, .int x4), (5, .int x5)]) hx hb dX2_putCode_21 hl (by decide) rfl (fun ls hl => ?_)
        refine lv_iload hx hb dX2_putCode_23 (lv_at hl 6 rfl) ?_
        refine lv_iload hx hb dX2_putCode_25 (lv_at hl 7 rfl) ?_
        refine lv_iload_n hx hb dX2_putCode_27 rfl (lv_at hl 4 rfl) ?_
        refine lv_iload_n hx hb dX2_putCode_28 rfl (lv_at hl 5 rfl) ?_
        obtain ⟨r6, hu7, hf⟩ := pq_clx hf
        refine pq_csI (n := 3) (As := [.int x5, .int x2, .int x3]) C hh (qX2_codeBit l D cI cL x5 x2 x3 r6 hu7) (gsX2_codeBit hs (pq_m28 _ (List.mem_of_getElem? (i := 20) rfl))) rfl (by decide +kernel) ⟨Nat.le_of_ble_eq_true rfl, Nat.le_of_ble_eq_true rfl⟩ hl.1 rfl rfl (Nat.le_of_ble_eq_true rfl) dX2_putCode_29 ⟨Nat.zero_le _, Nat.zero_le _⟩ [] [0, 1] [0, 1] rfl rfl (by decide) (by decide) (by decide) rfl (fun H locs (hh : pq_H D A s (wX2_putCode cI th th_row c_length f_row) H locs) => ?_)
        refine lv_ishr hx hb dX2_putCode_32 ?_
        refine lv_iconst (v := (1 : Int32)) hx hb dX2_putCode_33 (by decide) ?_
        refine lv_iand hx hb dX2_putCode_34 ?_
        refine lv_topi (fun v8 e9 => ?_)
        have hf := pq_nmx hf v8 e9
        refine lv_istore (lv' := [(8, .int v8), (7, .int v4), (6, .int v2), (0, .ref th), (1, .int x1), (2, .int x2), (3, .int x3), (4, .int x4), (5, .int x5)]) hx hb dX2_putCode_35 hl (by decide) rfl (fun ls hl => ?_)
        refine lv_iload hx hb dX2_putCode_37 (lv_at hl 1 rfl) ?_
        refine lv_if_lt (tgt := 70) hx hb dX2_putCode_39 (by decide) (fun h10 => ?_) (fun h10 => ?_)
        · have hf := pq_brt hf h10
          exact J70 x1 x2 x3 x4 x5 f_row _ _ hh ls (lv_sub hl [3, 4, 5, 6, 7, 8] rfl) hf
        · have hf := pq_brf hf h10
          refine lv_iload hx hb dX2_putCode_42 (lv_at hl 1 rfl) ?_
          refine lv_aload_n hx hb dX2_putCode_44 rfl (lv_at hl 3 rfl) ?_
          refine pq_get C hh i2 0 2 rfl rfl 1 (by decide) kf15 rfl rfl dX2_putCode_45 ?_
          refine lv_icmp_ge (tgt := 70) hx hb dX2_putCode_48 (by decide) (fun h11 => ?_) (fun h11 => ?_)
          · have hf := pq_brt hf h11
            exact J70 x1 x2 x3 x4 x5 f_row _ _ hh ls (lv_sub hl [3, 4, 5, 6, 7, 8] rfl) hf
          · have hf := pq_brf hf h11
            refine lv_aload_n hx hb dX2_putCode_51 rfl (lv_at hl 3 rfl) ?_
            refine pq_get C hh i2 0 2 rfl rfl 0 (by decide) kf11 rfl rfl dX2_putCode_52 ?_
            refine lv_iload hx hb dX2_putCode_55 (lv_at hl 1 rfl) ?_
            refine lv_dup2_11 hx hb dX2_putCode_57 rfl rfl ?_
            obtain ⟨h12, hf⟩ := pq_rdx hf
            refine pq_iald C hh 1 rfl h12 dX2_putCode_58 (fun v13 e14 => ?_)
            have hf := hf v13 e14
            refine lv_iload hx hb dX2_putCode_59 (lv_at hl 0 rfl) ?_
            refine lv_iload hx hb dX2_putCode_61 (lv_at hl 2 rfl) ?_
            refine lv_iload_n hx hb dX2_putCode_63 rfl (lv_at hl 6 rfl) ?_
            obtain ⟨r15, hu16, hf⟩ := pq_clx hf
            refine pq_csI (n := 2) (As := [.int v2, .int x3]) C hh (qX2_byteBit l D cI cL v2 x3 r15 hu16) (gsX2_byteBit hs (pq_m28 _ (List.mem_of_getElem? (i := 23) rfl))) rfl (by decide +kernel) ⟨Nat.le_of_ble_eq_true rfl, Nat.le_of_ble_eq_true rfl⟩ hl.1 rfl rfl (Nat.le_of_ble_eq_true rfl) dX2_putCode_64 ⟨Nat.zero_le _, Nat.zero_le _⟩ [] [0, 1] [0, 1] rfl rfl (by decide) (by decide) (by decide) rfl (fun H locs (hh : pq_H D A s (wX2_putCode cI th th_row c_length f_row) H locs) => ?_)
            refine lv_ishl hx hb dX2_putCode_67 ?_
            refine lv_ior hx hb dX2_putCode_68 ?_
            obtain ⟨h17, hf⟩ := pq_wrx hf
            refine pq_iast C hh 1 rfl h17 dX2_putCode_69 (fun H locs f18 e19 (hh : pq_H D A s (wX2_putCode cI th th_row c_length f18) H locs) => ?_)
            have hf := hf f18 e19
            exact J70 x1 x2 x3 x4 x5 f18 _ _ hh ls (lv_sub hl [3, 4, 5, 6, 7, 8] rfl) hf
  rw [fX2_putCode] at hf
  refine lv_iconst (v := (0 : Int32)) hx hb dX2_putCode_0 (by decide) ?_
  refine lv_istore (lv' := [(5, .int (0 : Int32)), (0, .ref th), (1, .int a1), (2, .int a2), (3, .int a3), (4, .int a4)]) hx hb dX2_putCode_1 hl (by decide) rfl (fun ls hl => ?_)
  exact J3 1100 a1 a2 a3 a4 (0 : Int32) f_row _ _ hh ls (lv_sub hl [1, 2, 3, 4, 5, 0] rfl) hf
set_option maxHeartbeats 4000000 in
set_option maxRecDepth 100000 in
theorem qX2_codeAt (l : Launch) (D : va_G) (cI cL : ClassId) (th : Nat) (th_row : Nat) (c_length : Int32) (f_row : Nat → Int32) (a1 : Int32) (a2 : Int32) (a3 : Int32) (res : Int32) (hf : fX2_codeAt a1 a2 a3 c_length f_row = some res) : pq_CI l yX2_codeAt qsX2_codeAt 1 22 D cI cL [.ref th, .int a1, .int a2, .int a3] (wX2_codeAt cI th th_row c_length f_row) (wX2_codeAt cI th th_row c_length f_row) res := by
  refine pq_mkI (cc := cX2_codeAt) (maxL := 8) (RT := .int) (by decide) rfl (Nat.le_of_ble_eq_true rfl) ?_
  intro p e s m args below meth c Q A C hh hret ls hl
  have hx := C.1
  have hb := C.2.1
  have hml := C.2.2.1
  have hown : s.vm.findClass RX2 = some m.cls := C.2.2.2.1
  have hs : ∀ w ∈ wsL_law, w ∈ qsX2_codeAt := fun _ h => List.mem_cons_of_mem _ h
  have htw : ∀ w ∈ wsL_law, w.before args s = true := fun w h => C.2.2.2.2.1 w (hs w h)
  have hl : lv_has ls 8 [(0, .ref th), (1, .int a1), (2, .int a2), (3, .int a3)] := hl
  have J6 : ∀ (fuel6 : Nat) (x1 : Int32) (x2 : Int32) (x3 : Int32) (x4 : Int32) (x5 : Int32) (H : Heap) (locs : List Loc), pq_H D A s (wX2_codeAt cI th th_row c_length f_row) H locs → ∀ ls : Array Slot, lv_has ls 8 [(0, .ref th), (1, .int x1), (2, .int x2), (3, .int x3), (4, .int x4), (5, .int x5)] → fX2_codeAt_b6  c_length f_row fuel6 x1 x2 x3 x4 x5 = some res → W p l e (pq_rm 1 22) s m args below meth c H locs 0 0 Q (F0 m 6 ls []) := by
    intro fuel6
    induction fuel6 with
    | zero => intro x1 x2 x3 x4 x5 H locs hh ls hl hf; rw [fX2_codeAt_b6] at hf; cases hf
    | succ fuel6 ih6 =>
      intro x1 x2 x3 x4 x5 H locs hh ls hl hf
      rw [fX2_codeAt_b6] at hf
      refine lv_iload hx hb dX2_codeAt_6 (lv_at hl 5 rfl) ?_
      refine lv_iload_n hx hb dX2_codeAt_8 rfl (lv_at hl 2 rfl) ?_
      refine lv_icmp_ge (tgt := 60) hx hb dX2_codeAt_9 (by decide) (fun h1 => ?_) (fun h1 => ?_)
      · have hf := pq_brt hf h1
        refine lv_iload hx hb dX2_codeAt_60 (lv_at hl 4 rfl) ?_
        obtain rfl := Option.some.inj hf
        exact hret _ _ _ ls hh dX2_codeAt_62 rfl
      · have hf := pq_brf hf h1
        refine lv_iload_n hx hb dX2_codeAt_12 rfl (lv_at hl 1 rfl) ?_
        refine lv_iload_n hx hb dX2_codeAt_13 rfl (lv_at hl 2 rfl) ?_
        refine lv_imul hx hb dX2_codeAt_14 ?_
        refine lv_iload hx hb dX2_codeAt_15 (lv_at hl 5 rfl) ?_
        refine lv_iadd hx hb dX2_codeAt_17 ?_
        refine lv_topi (fun v2 e3 => ?_)
        have hf := pq_nmx hf v2 e3
        refine lv_istore (lv' := [(6, .int v2), (0, .ref th), (1, .int x1), (2, .int x2), (3, .int x3), (4, .int x4), (5, .int x5)]) hx hb dX2_codeAt_18 hl (by decide) rfl (fun ls hl => ?_)
        refine lv_aload_n hx hb dX2_codeAt_20 rfl (lv_at hl 1 rfl) ?_
        refine lv_iload hx hb dX2_codeAt_21 (lv_at hl 0 rfl) ?_
        refine lv_iconst (v := (3 : Int32)) hx hb dX2_codeAt_23 (by decide) ?_
        refine lv_ishr hx hb dX2_codeAt_24 ?_
        obtain ⟨r4, hu5, hf⟩ := pq_clx hf
        refine pq_cvI (n := 1) (As := [.int (v2 >>> ((3 : Int32) &&& 31))]) C hh (qX2_byteAt l D cI cL th th_row c_length f_row (v2 >>> ((3 : Int32) &&& 31)) r4 hu5) (gvX2_byteAt hs (pq_m28 _ (List.mem_of_getElem? (i := 15) rfl))) rfl (by decide +kernel) ⟨Nat.le_of_ble_eq_true rfl, Nat.le_of_ble_eq_true rfl⟩ 0 2 rfl rfl rfl hl.1 rfl rfl (Nat.le_of_ble_eq_true rfl) dX2_codeAt_25 ⟨Nat.zero_le _, Nat.zero_le _⟩ [0, 1] [] [0, 1] rfl rfl (by decide) (by decide) (by decide) rfl (fun H locs (hh : pq_H D A s (wX2_codeAt cI th th_row c_length f_row) H locs) => ?_)
        refine lv_iload hx hb dX2_codeAt_28 (lv_at hl 0 rfl) ?_
        refine lv_iload_n hx hb dX2_codeAt_30 rfl (lv_at hl 4 rfl) ?_
        obtain ⟨r6, hu7, hf⟩ := pq_clx hf
        refine pq_csI (n := 2) (As := [.int v2, .int x3]) C hh (qX2_byteBit l D cI cL v2 x3 r6 hu7) (gsX2_byteBit hs (pq_m28 _ (List.mem_of_getElem? (i := 23) rfl))) rfl (by decide +kernel) ⟨Nat.le_of_ble_eq_true rfl, Nat.le_of_ble_eq_true rfl⟩ hl.1 rfl rfl (Nat.le_of_ble_eq_true rfl) dX2_codeAt_31 ⟨Nat.zero_le _, Nat.zero_le _⟩ [] [0, 1] [0, 1] rfl rfl (by decide) (by decide) (by decide) rfl (fun H locs (hh : pq_H D A s (wX2_codeAt cI th th_row c_length f_row) H locs) => ?_)
        refine lv_ishr hx hb dX2_codeAt_34 ?_
        refine lv_iconst (v := (1 : Int32)) hx hb dX2_codeAt_35 (by decide) ?_
        refine lv_iand hx hb dX2_codeAt_36 ?_
        refine lv_topi (fun v8 e9 => ?_)
        have hf := pq_nmx hf v8 e9
        refine lv_istore (lv' := [(7, .int v8), (6, .int v2), (0, .ref th), (1, .int x1), (2, .int x2), (3, .int x3), (4, .int x4), (5, .int x5)]) hx hb dX2_codeAt_37 hl (by decide) rfl (fun ls hl => ?_)
        refine lv_iload hx hb dX2_codeAt_39 (lv_at hl 6 rfl) ?_
        refine lv_iload hx hb dX2_codeAt_41 (lv_at hl 0 rfl) ?_
        refine lv_iload hx hb dX2_codeAt_43 (lv_at hl 7 rfl) ?_
        refine lv_iload_n hx hb dX2_codeAt_45 rfl (lv_at hl 4 rfl) ?_
        refine lv_iload_n hx hb dX2_codeAt_46 rfl (lv_at hl 5 rfl) ?_
        obtain ⟨r10, hu11, hf⟩ := pq_clx hf
        refine pq_csI (n := 3) (As := [.int x5, .int x2, .int x3]) C hh (qX2_codeBit l D cI cL x5 x2 x3 r10 hu11) (gsX2_codeBit hs (pq_m28 _ (List.mem_of_getElem? (i := 20) rfl))) rfl (by decide +kernel) ⟨Nat.le_of_ble_eq_true rfl, Nat.le_of_ble_eq_true rfl⟩ hl.1 rfl rfl (Nat.le_of_ble_eq_true rfl) dX2_codeAt_47 ⟨Nat.zero_le _, Nat.zero_le _⟩ [] [0, 1] [0, 1] rfl rfl (by decide) (by decide) (by decide) rfl (fun H locs (hh : pq_H D A s (wX2_codeAt cI th th_row c_length f_row) H locs) => ?_)
        refine lv_ishl hx hb dX2_codeAt_50 ?_
        refine lv_ior hx hb dX2_codeAt_51 ?_
        refine lv_topi (fun v12 e13 => ?_)
        have hf := pq_nmx hf v12 e13
        refine lv_istore (lv' := [(4, .int v12), (7, .int v8), (6, .int v2), (0, .ref th), (1, .int x1), (2, .int x2), (3, .int x3), (5, .int x5)]) hx hb dX2_codeAt_52 hl (by decide) rfl (fun ls hl => ?_)
        obtain ⟨v14, e15⟩ : ∃ y : Int32, y = x5 + (1 : Int32) := ⟨_, rfl⟩
        refine lv_iinc (v := v14) (lv' := [(5, .int v14), (4, .int v12), (7, .int v8), (6, .int v2), (0, .ref th), (1, .int x1), (2, .int x2), (3, .int x3)]) hx hb dX2_codeAt_54 hl (k := 7) rfl (by rw [e15]; rfl) (by decide) rfl (fun ls hl => ?_)
        have hf := pq_nmx hf v14 e15
        refine lv_goto (tgt := 6) hx hb dX2_codeAt_57 (by decide) ?_
        exact ih6 x1 x2 x3 v12 v14 _ _ hh ls (lv_sub hl [4, 5, 6, 7, 1, 0] rfl) hf
  rw [fX2_codeAt] at hf
  refine lv_iconst (v := (0 : Int32)) hx hb dX2_codeAt_0 (by decide) ?_
  refine lv_istore (lv' := [(4, .int (0 : Int32)), (0, .ref th), (1, .int a1), (2, .int a2), (3, .int a3)]) hx hb dX2_codeAt_1 hl (by decide) rfl (fun ls hl => ?_)
  refine lv_iconst (v := (0 : Int32)) hx hb dX2_codeAt_3 (by decide) ?_
  refine lv_istore (lv' := [(5, .int (0 : Int32)), (4, .int (0 : Int32)), (0, .ref th), (1, .int a1), (2, .int a2), (3, .int a3)]) hx hb dX2_codeAt_4 hl (by decide) rfl (fun ls hl => ?_)
  exact J6 1100 a1 a2 a3 (0 : Int32) (0 : Int32) _ _ hh ls (lv_sub hl [2, 3, 4, 5, 1, 0] rfl) hf
set_option maxHeartbeats 4000000 in
set_option maxRecDepth 100000 in
theorem qX3_segment (l : Launch) (D : va_G) (cI cL : ClassId) (a0 : Int32) (a1 : Int32) (res : Int32) (hf : fX3_segment a0 a1 = some res) : pq_CI l yX3_segment qsX3_segment 0 0 D cI cL [.int a0, .int a1] [] [] res := by
  refine pq_mkI (cc := cX3_segment) (maxL := 3) (RT := .int) (by decide) rfl (Nat.le_of_ble_eq_true rfl) ?_
  intro p e s m args below meth c Q A C hh hret ls hl
  have hx := C.1
  have hb := C.2.1
  have hml := C.2.2.1
  have hown : s.vm.findClass RX3 = some m.cls := C.2.2.2.1
  have hs : ∀ w ∈ wsL_law, w ∈ qsX3_segment := fun _ h => List.mem_cons_of_mem _ h
  have htw : ∀ w ∈ wsL_law, w.before args s = true := fun w h => C.2.2.2.2.1 w (hs w h)
  have hl : lv_has ls 3 [(0, .int a0), (1, .int a1)] := hl
  have J2 : ∀ (fuel2 : Nat) (x0 : Int32) (x1 : Int32) (x2 : Int32) (H : Heap) (locs : List Loc), pq_H D A s [] H locs → ∀ ls : Array Slot, lv_has ls 3 [(0, .int x0), (1, .int x1), (2, .int x2)] → fX3_segment_b2   fuel2 x0 x1 x2 = some res → W p l e (pq_rm 0 0) s m args below meth c H locs 0 0 Q (F0 m 2 ls []) := by
    intro fuel2
    induction fuel2 with
    | zero => intro x0 x1 x2 H locs hh ls hl hf; rw [fX3_segment_b2] at hf; cases hf
    | succ fuel2 ih2 =>
      intro x0 x1 x2 H locs hh ls hl hf
      rw [fX3_segment_b2] at hf
      refine lv_iload_n hx hb dX3_segment_2 rfl (lv_at hl 2 rfl) ?_
      refine lv_bipush (v := (7 : Int32)) hx hb dX3_segment_3 (by decide) ?_
      refine lv_icmp_ge (tgt := 21) hx hb dX3_segment_5 (by decide) (fun h1 => ?_) (fun h1 => ?_)
      · have hf := pq_brt hf h1
        refine lv_iload_n hx hb dX3_segment_21 rfl (lv_at hl 2 rfl) ?_
        obtain rfl := Option.some.inj hf
        exact hret _ _ _ ls hh dX3_segment_22 rfl
      · have hf := pq_brf hf h1
        refine lv_iload_n hx hb dX3_segment_8 rfl (lv_at hl 0 rfl) ?_
        refine lv_iload_n hx hb dX3_segment_9 rfl (lv_at hl 1 rfl) ?_
        refine lv_iload_n hx hb dX3_segment_10 rfl (lv_at hl 2 rfl) ?_
        refine lv_ishl hx hb dX3_segment_11 ?_
        refine lv_icmp_lt (tgt := 21) hx hb dX3_segment_12 (by decide) (fun h2 => ?_) (fun h2 => ?_)
        · have hf := pq_brt hf h2
          refine lv_iload_n hx hb dX3_segment_21 rfl (lv_at hl 2 rfl) ?_
          obtain rfl := Option.some.inj hf
          exact hret _ _ _ ls hh dX3_segment_22 rfl
        · have hf := pq_brf hf h2
          obtain ⟨v3, e4⟩ : ∃ y : Int32, y = x2 + (1 : Int32) := ⟨_, rfl⟩
          refine lv_iinc (v := v3) (lv' := [(2, .int v3), (0, .int x0), (1, .int x1)]) hx hb dX3_segment_15 hl (k := 2) rfl (by rw [e4]; rfl) (by decide) rfl (fun ls hl => ?_)
          have hf := pq_nmx hf v3 e4
          refine lv_goto (tgt := 2) hx hb dX3_segment_18 (by decide) ?_
          exact ih2 x0 x1 v3 _ _ hh ls (lv_sub hl [1, 2, 0] rfl) hf
  rw [fX3_segment] at hf
  refine lv_iconst (v := (0 : Int32)) hx hb dX3_segment_0 (by decide) ?_
  refine lv_istore_n (lv' := [(2, .int (0 : Int32)), (0, .int a0), (1, .int a1)]) hx hb dX3_segment_1 rfl hl (by decide) rfl (fun ls hl => ?_)
  exact J2 1100 a0 a1 (0 : Int32) _ _ hh ls (lv_sub hl [1, 2, 0] rfl) hf
set_option maxHeartbeats 4000000 in
set_option maxRecDepth 100000 in
theorem qX3_muCode (l : Launch) (D : va_G) (cI cL : ClassId) (a0 : Int32) (res : Int32) (hf : fX3_muCode a0 = some res) : pq_CI l yX3_muCode qsX3_muCode 1 22 D cI cL [.int a0] [] [] res := by
  refine pq_mkI (cc := cX3_muCode) (maxL := 5) (RT := .int) (by decide) rfl (Nat.le_of_ble_eq_true rfl) ?_
  intro p e s m args below meth c Q A C hh hret ls hl
  have hx := C.1
  have hb := C.2.1
  have hml := C.2.2.1
  have hown : s.vm.findClass RX3 = some m.cls := C.2.2.2.1
  have hs : ∀ w ∈ wsL_law, w ∈ qsX3_muCode := fun _ h => List.mem_cons_of_mem _ h
  have htw : ∀ w ∈ wsL_law, w.before args s = true := fun w h => C.2.2.2.2.1 w (hs w h)
  have hl : lv_has ls 5 [(0, .int a0)] := hl
  have kim := htw (.initialized "java/lang/Math") (pq_m10 _ (List.mem_of_getElem? (i := 17) rfl))
  have kk17 := htw (.code Lib.Math.min.name Lib.Math.min.code 2 (some .int)) (pq_m10 _ (List.mem_of_getElem? (i := 18) rfl))
  have kk9 := htw (.code Lib.Math.abs.name Lib.Math.abs.code 1 (some .int)) (pq_m11 _ (List.mem_of_getElem? (i := 22) rfl))
  have km17 := htw (.methodLink RX3 17 Lib.Math.min.name) (pq_m15 _ (List.mem_of_getElem? (i := 2) rfl))
  have km9 := htw (.methodLink RX3 9 Lib.Math.abs.name) (pq_m15 _ (List.mem_of_getElem? (i := 1) rfl))
  have ks17 := htw (.static Lib.Math.min.name) (pq_m10 _ (List.mem_of_getElem? (i := 16) rfl))
  have ks9 := htw (.static Lib.Math.abs.name) (pq_m11 _ (List.mem_of_getElem? (i := 21) rfl))
  have J37 : ∀ (x2 : Int32) (x3 : Int32) (s0 : Int32) (H : Heap) (locs : List Loc), pq_H D A s [] H locs → ∀ ls : Array Slot, lv_has ls 5 [(2, .int x2), (3, .int x3)] → fX3_muCode_b37   x2 x3 s0 = some res → W p l e (pq_rm 1 22) s m args below meth c H locs 0 0 Q (F0 m 37 ls [.int s0]) := by
    intro x2 x3 s0 H locs hh ls hl hf
    rw [fX3_muCode_b37] at hf
    refine lv_istore (lv' := [(4, .int s0), (2, .int x2), (3, .int x3)]) hx hb dX3_muCode_37 hl (by decide) rfl (fun ls hl => ?_)
    refine lv_iload hx hb dX3_muCode_39 (lv_at hl 0 rfl) ?_
    refine lv_bipush (v := (16 : Int32)) hx hb dX3_muCode_41 (by decide) ?_
    refine lv_iload_n hx hb dX3_muCode_43 rfl (lv_at hl 2 rfl) ?_
    refine lv_imul hx hb dX3_muCode_44 ?_
    refine lv_iload_n hx hb dX3_muCode_45 rfl (lv_at hl 1 rfl) ?_
    refine lv_iload_n hx hb dX3_muCode_46 rfl (lv_at hl 2 rfl) ?_
    refine lv_iconst (v := (1 : Int32)) hx hb dX3_muCode_47 (by decide) ?_
    refine lv_iadd hx hb dX3_muCode_48 ?_
    refine lv_ishr hx hb dX3_muCode_49 ?_
    refine lv_bipush (v := (15 : Int32)) hx hb dX3_muCode_50 (by decide) ?_
    refine lv_iand hx hb dX3_muCode_52 ?_
    refine lv_iadd hx hb dX3_muCode_53 ?_
    refine lv_isub hx hb dX3_muCode_54 ?_
    obtain rfl := Option.some.inj hf
    exact hret _ _ _ ls hh dX3_muCode_55 rfl
  rw [fX3_muCode] at hf
  refine lv_iload_n hx hb dX3_muCode_0 rfl (lv_at hl 0 rfl) ?_
  refine lv_iconst (v := (2 : Int32)) hx hb dX3_muCode_1 (by decide) ?_
  refine lv_ishr hx hb dX3_muCode_2 ?_
  refine lv_topi (fun v1 e2 => ?_)
  have hf := pq_nmx hf v1 e2
  refine lv_istore_n (lv' := [(1, .int v1), (0, .int a0)]) hx hb dX3_muCode_3 rfl hl (by decide) rfl (fun ls hl => ?_)
  refine lv_iload_n hx hb dX3_muCode_4 rfl (lv_at hl 0 rfl) ?_
  refine va_mabs hx hb (by rw [hml]; exact hl.1.symm) hown km9 ks9 kim kk9 (Nat.le_of_ble_eq_true rfl) (Nat.le_of_ble_eq_true rfl) (Nat.zero_le _) (Nat.zero_le _) dX3_muCode_5 ?_
  refine lv_topi (fun v3 e4 => ?_)
  have hf := pq_nmx hf v3 e4
  refine lv_sipush (v := (8158 : Int32)) hx hb dX3_muCode_8 (by decide) ?_
  refine va_mmin hx hb (by rw [hml]; exact hl.1.symm) hown km17 ks17 kim kk17 (Nat.le_of_ble_eq_true rfl) (Nat.le_of_ble_eq_true rfl) (Nat.zero_le _) (Nat.zero_le _) dX3_muCode_11 ?_
  refine lv_topi (fun v5 e6 => ?_)
  have hf := pq_nmx hf v5 e6
  refine lv_bipush (v := (33 : Int32)) hx hb dX3_muCode_14 (by decide) ?_
  refine lv_iadd hx hb dX3_muCode_16 ?_
  refine lv_topi (fun v7 e8 => ?_)
  have hf := pq_nmx hf v7 e8
  refine lv_istore_n (lv' := [(2, .int v7), (1, .int v1), (0, .int a0)]) hx hb dX3_muCode_17 rfl hl (by decide) rfl (fun ls hl => ?_)
  refine lv_iload_n hx hb dX3_muCode_18 rfl (lv_at hl 0 rfl) ?_
  refine lv_bipush (v := (64 : Int32)) hx hb dX3_muCode_19 (by decide) ?_
  obtain ⟨r9, hu10, hf⟩ := pq_clx hf
  refine pq_csI (n := 2) (As := [.int v7, .int (64 : Int32)]) C hh (qX3_segment l D cI cL v7 (64 : Int32) r9 hu10) (gsX3_segment hs (pq_m15 _ (List.mem_of_getElem? (i := 3) rfl))) rfl (by decide +kernel) ⟨Nat.le_of_ble_eq_true rfl, Nat.le_of_ble_eq_true rfl⟩ hl.1 rfl rfl (Nat.le_of_ble_eq_true rfl) dX3_muCode_21 ⟨Nat.zero_le _, Nat.zero_le _⟩ [] [] [] rfl rfl (by decide) (by decide) (by decide) rfl (fun H locs (hh : pq_H D A s [] H locs) => ?_)
  refine lv_istore_n (lv' := [(3, .int r9), (2, .int v7), (1, .int v1), (0, .int a0)]) hx hb dX3_muCode_24 rfl hl (by decide) rfl (fun ls hl => ?_)
  refine lv_iload_n hx hb dX3_muCode_25 rfl (lv_at hl 2 rfl) ?_
  refine lv_if_ge (tgt := 34) hx hb dX3_muCode_26 (by decide) (fun h11 => ?_) (fun h11 => ?_)
  · have hf := pq_brt hf h11
    refine lv_sipush (v := (255 : Int32)) hx hb dX3_muCode_34 (by decide) ?_
    exact J37 v7 r9 (255 : Int32) _ _ hh ls (lv_sub hl [1, 0] rfl) hf
  · have hf := pq_brf hf h11
    refine lv_bipush (v := (127 : Int32)) hx hb dX3_muCode_29 (by decide) ?_
    refine lv_goto (tgt := 37) hx hb dX3_muCode_31 (by decide) ?_
    exact J37 v7 r9 (127 : Int32) _ _ hh ls (lv_sub hl [1, 0] rfl) hf
set_option maxHeartbeats 4000000 in
set_option maxRecDepth 100000 in
theorem qX3_muSample (l : Launch) (D : va_G) (cI cL : ClassId) (a0 : Int32) (res : Int32) (hf : fX3_muSample a0 = some res) : pq_CI l yX3_muSample qsX3_muSample 0 0 D cI cL [.int a0] [] [] res := by
  refine pq_mkI (cc := cX3_muSample) (maxL := 3) (RT := .int) (by decide) rfl (Nat.le_of_ble_eq_true rfl) ?_
  intro p e s m args below meth c Q A C hh hret ls hl
  have hx := C.1
  have hb := C.2.1
  have hml := C.2.2.1
  have hown : s.vm.findClass RX3 = some m.cls := C.2.2.2.1
  have hs : ∀ w ∈ wsL_law, w ∈ qsX3_muSample := fun _ h => List.mem_cons_of_mem _ h
  have htw : ∀ w ∈ wsL_law, w.before args s = true := fun w h => C.2.2.2.2.1 w (hs w h)
  have hl : lv_has ls 3 [(0, .int a0)] := hl
  rw [fX3_muSample] at hf
  refine lv_sipush (v := (255 : Int32)) hx hb dX3_muSample_0 (by decide) ?_
  refine lv_iload_n hx hb dX3_muSample_3 rfl (lv_at hl 0 rfl) ?_
  refine lv_isub hx hb dX3_muSample_4 ?_
  refine lv_topi (fun v1 e2 => ?_)
  have hf := pq_nmx hf v1 e2
  refine lv_istore_n (lv' := [(1, .int v1), (0, .int a0)]) hx hb dX3_muSample_5 rfl hl (by decide) rfl (fun ls hl => ?_)
  refine lv_bipush (v := (8 : Int32)) hx hb dX3_muSample_6 (by decide) ?_
  refine lv_iload_n hx hb dX3_muSample_8 rfl (lv_at hl 0 rfl) ?_
  refine lv_bipush (v := (15 : Int32)) hx hb dX3_muSample_9 (by decide) ?_
  refine lv_iand hx hb dX3_muSample_11 ?_
  refine lv_imul hx hb dX3_muSample_12 ?_
  refine lv_sipush (v := (132 : Int32)) hx hb dX3_muSample_13 (by decide) ?_
  refine lv_iadd hx hb dX3_muSample_16 ?_
  refine lv_iload_n hx hb dX3_muSample_17 rfl (lv_at hl 0 rfl) ?_
  refine lv_iconst (v := (4 : Int32)) hx hb dX3_muSample_18 (by decide) ?_
  refine lv_ishr hx hb dX3_muSample_19 ?_
  refine lv_bipush (v := (7 : Int32)) hx hb dX3_muSample_20 (by decide) ?_
  refine lv_iand hx hb dX3_muSample_22 ?_
  refine lv_ishl hx hb dX3_muSample_23 ?_
  refine lv_sipush (v := (132 : Int32)) hx hb dX3_muSample_24 (by decide) ?_
  refine lv_isub hx hb dX3_muSample_27 ?_
  refine lv_topi (fun v3 e4 => ?_)
  have hf := pq_nmx hf v3 e4
  refine lv_istore_n (lv' := [(2, .int v3), (1, .int v1), (0, .int a0)]) hx hb dX3_muSample_28 rfl hl (by decide) rfl (fun ls hl => ?_)
  refine lv_iload_n hx hb dX3_muSample_29 rfl (lv_at hl 1 rfl) ?_
  refine lv_sipush (v := (128 : Int32)) hx hb dX3_muSample_30 (by decide) ?_
  refine lv_iand hx hb dX3_muSample_33 ?_
  refine lv_if_ne (tgt := 41) hx hb dX3_muSample_34 (by decide) (fun h5 => ?_) (fun h5 => ?_)
  · have hf := pq_brf hf h5
    refine lv_iload_n hx hb dX3_muSample_41 rfl (lv_at hl 0 rfl) ?_
    refine lv_ineg hx hb dX3_muSample_42 ?_
    obtain rfl := Option.some.inj hf
    exact hret _ _ _ ls hh dX3_muSample_43 rfl
  · have hf := pq_brt hf h5
    refine lv_iload_n hx hb dX3_muSample_37 rfl (lv_at hl 0 rfl) ?_
    refine lv_goto (tgt := 43) hx hb dX3_muSample_38 (by decide) ?_
    obtain rfl := Option.some.inj hf
    exact hret _ _ _ ls hh dX3_muSample_43 rfl
set_option maxHeartbeats 4000000 in
set_option maxRecDepth 100000 in
theorem qX3_aCode (l : Launch) (D : va_G) (cI cL : ClassId) (a0 : Int32) (res : Int32) (hf : fX3_aCode a0 = some res) : pq_CI l yX3_aCode qsX3_aCode 1 22 D cI cL [.int a0] [] [] res := by
  refine pq_mkI (cc := cX3_aCode) (maxL := 5) (RT := .int) (by decide) rfl (Nat.le_of_ble_eq_true rfl) ?_
  intro p e s m args below meth c Q A C hh hret ls hl
  have hx := C.1
  have hb := C.2.1
  have hml := C.2.2.1
  have hown : s.vm.findClass RX3 = some m.cls := C.2.2.2.1
  have hs : ∀ w ∈ wsL_law, w ∈ qsX3_aCode := fun _ h => List.mem_cons_of_mem _ h
  have htw : ∀ w ∈ wsL_law, w.before args s = true := fun w h => C.2.2.2.2.1 w (hs w h)
  have hl : lv_has ls 5 [(0, .int a0)] := hl
  have kim := htw (.initialized "java/lang/Math") (pq_m10 _ (List.mem_of_getElem? (i := 17) rfl))
  have kk24 := htw (.code Lib.Math.max.name Lib.Math.max.code 2 (some .int)) (pq_m15 _ (List.mem_of_getElem? (i := 11) rfl))
  have km24 := htw (.methodLink RX3 24 Lib.Math.max.name) (pq_m15 _ (List.mem_of_getElem? (i := 9) rfl))
  have ks24 := htw (.static Lib.Math.max.name) (pq_m15 _ (List.mem_of_getElem? (i := 10) rfl))
  have J16 : ∀ (x0 : Int32) (s0 : Int32) (H : Heap) (locs : List Loc), pq_H D A s [] H locs → ∀ ls : Array Slot, lv_has ls 5 [(0, .int x0)] → fX3_aCode_b16   x0 s0 = some res → W p l e (pq_rm 1 22) s m args below meth c H locs 0 0 Q (F0 m 16 ls [.int s0]) := by
    intro x0 s0 H locs hh ls hl hf
    rw [fX3_aCode_b16] at hf
    refine lv_istore_n (lv' := [(2, .int s0), (0, .int x0)]) hx hb dX3_aCode_16 rfl hl (by decide) rfl (fun ls hl => ?_)
    refine lv_iload_n hx hb dX3_aCode_17 rfl (lv_at hl 0 rfl) ?_
    refine lv_bipush (v := (32 : Int32)) hx hb dX3_aCode_18 (by decide) ?_
    obtain ⟨r4, hu5, hf⟩ := pq_clx hf
    refine pq_csI (n := 2) (As := [.int s0, .int (32 : Int32)]) C hh (qX3_segment l D cI cL s0 (32 : Int32) r4 hu5) (gsX3_segment hs (pq_m15 _ (List.mem_of_getElem? (i := 3) rfl))) rfl (by decide +kernel) ⟨Nat.le_of_ble_eq_true rfl, Nat.le_of_ble_eq_true rfl⟩ hl.1 rfl rfl (Nat.le_of_ble_eq_true rfl) dX3_aCode_20 ⟨Nat.zero_le _, Nat.zero_le _⟩ [] [] [] rfl rfl (by decide) (by decide) (by decide) rfl (fun H locs (hh : pq_H D A s [] H locs) => ?_)
    refine lv_istore_n (lv' := [(3, .int r4), (2, .int s0), (0, .int x0)]) hx hb dX3_aCode_23 rfl hl (by decide) rfl (fun ls hl => ?_)
    refine lv_bipush (v := (16 : Int32)) hx hb dX3_aCode_24 (by decide) ?_
    refine lv_iload_n hx hb dX3_aCode_26 rfl (lv_at hl 0 rfl) ?_
    refine lv_imul hx hb dX3_aCode_27 ?_
    refine lv_iload_n hx hb dX3_aCode_28 rfl (lv_at hl 1 rfl) ?_
    refine lv_iload_n hx hb dX3_aCode_29 rfl (lv_at hl 0 rfl) ?_
    refine lv_iconst (v := (1 : Int32)) hx hb dX3_aCode_30 (by decide) ?_
    refine va_mmax hx hb (by rw [hml]; exact hl.1.symm) hown km24 ks24 kim kk24 (Nat.le_of_ble_eq_true rfl) (Nat.le_of_ble_eq_true rfl) (Nat.zero_le _) (Nat.zero_le _) dX3_aCode_31 ?_
    refine lv_topi (fun v6 e7 => ?_)
    have hf := pq_nmx hf v6 e7
    refine lv_ishr hx hb dX3_aCode_34 ?_
    refine lv_bipush (v := (15 : Int32)) hx hb dX3_aCode_35 (by decide) ?_
    refine lv_iand hx hb dX3_aCode_37 ?_
    refine lv_iadd hx hb dX3_aCode_38 ?_
    refine lv_topi (fun v8 e9 => ?_)
    have hf := pq_nmx hf v8 e9
    refine lv_istore (lv' := [(4, .int v8), (3, .int r4), (2, .int s0), (0, .int x0)]) hx hb dX3_aCode_39 hl (by decide) rfl (fun ls hl => ?_)
    refine lv_iload hx hb dX3_aCode_41 (lv_at hl 0 rfl) ?_
    refine lv_iload_n hx hb dX3_aCode_43 rfl (lv_at hl 3 rfl) ?_
    refine lv_if_ge (tgt := 52) hx hb dX3_aCode_44 (by decide) (fun h10 => ?_) (fun h10 => ?_)
    · have hf := pq_brt hf h10
      refine lv_sipush (v := (213 : Int32)) hx hb dX3_aCode_52 (by decide) ?_
      refine lv_ixor hx hb dX3_aCode_55 ?_
      obtain rfl := Option.some.inj hf
      exact hret _ _ _ ls hh dX3_aCode_56 rfl
    · have hf := pq_brf hf h10
      refine lv_bipush (v := (85 : Int32)) hx hb dX3_aCode_47 (by decide) ?_
      refine lv_goto (tgt := 55) hx hb dX3_aCode_49 (by decide) ?_
      refine lv_ixor hx hb dX3_aCode_55 ?_
      obtain rfl := Option.some.inj hf
      exact hret _ _ _ ls hh dX3_aCode_56 rfl
  rw [fX3_aCode] at hf
  refine lv_iload_n hx hb dX3_aCode_0 rfl (lv_at hl 0 rfl) ?_
  refine lv_iconst (v := (3 : Int32)) hx hb dX3_aCode_1 (by decide) ?_
  refine lv_ishr hx hb dX3_aCode_2 ?_
  refine lv_topi (fun v1 e2 => ?_)
  have hf := pq_nmx hf v1 e2
  refine lv_istore_n (lv' := [(1, .int v1), (0, .int a0)]) hx hb dX3_aCode_3 rfl hl (by decide) rfl (fun ls hl => ?_)
  refine lv_iload_n hx hb dX3_aCode_4 rfl (lv_at hl 0 rfl) ?_
  refine lv_if_ge (tgt := 15) hx hb dX3_aCode_5 (by decide) (fun h3 => ?_) (fun h3 => ?_)
  · have hf := pq_brt hf h3
    refine lv_iload_n hx hb dX3_aCode_15 rfl (lv_at hl 0 rfl) ?_
    exact J16 a0 v1 _ _ hh ls (lv_sub hl [1] rfl) hf
  · have hf := pq_brf hf h3
    refine lv_iload_n hx hb dX3_aCode_8 rfl (lv_at hl 0 rfl) ?_
    refine lv_ineg hx hb dX3_aCode_9 ?_
    refine lv_iconst (v := (1 : Int32)) hx hb dX3_aCode_10 (by decide) ?_
    refine lv_isub hx hb dX3_aCode_11 ?_
    refine lv_goto (tgt := 16) hx hb dX3_aCode_12 (by decide) ?_
    exact J16 a0 ((-v1) - (1 : Int32)) _ _ hh ls (lv_sub hl [1] rfl) hf
set_option maxHeartbeats 4000000 in
set_option maxRecDepth 100000 in
theorem qX3_aSample (l : Launch) (D : va_G) (cI cL : ClassId) (a0 : Int32) (res : Int32) (hf : fX3_aSample a0 = some res) : pq_CI l yX3_aSample qsX3_aSample 0 0 D cI cL [.int a0] [] [] res := by
  refine pq_mkI (cc := cX3_aSample) (maxL := 4) (RT := .int) (by decide) rfl (Nat.le_of_ble_eq_true rfl) ?_
  intro p e s m args below meth c Q A C hh hret ls hl
  have hx := C.1
  have hb := C.2.1
  have hml := C.2.2.1
  have hown : s.vm.findClass RX3 = some m.cls := C.2.2.2.1
  have hs : ∀ w ∈ wsL_law, w ∈ qsX3_aSample := fun _ h => List.mem_cons_of_mem _ h
  have htw : ∀ w ∈ wsL_law, w.before args s = true := fun w h => C.2.2.2.2.1 w (hs w h)
  have hl : lv_has ls 4 [(0, .int a0)] := hl
  have J37 : ∀ (x1 : Int32) (x2 : Int32) (H : Heap) (locs : List Loc), pq_H D A s [] H locs → ∀ ls : Array Slot, lv_has ls 4 [(1, .int x1), (2, .int x2)] → fX3_aSample_b37   x1 x2 = some res → W p l e (pq_rm 0 0) s m args below meth c H locs 0 0 Q (F0 m 37 ls []) := by
    intro x1 x2 H locs hh ls hl hf
    rw [fX3_aSample_b37] at hf
    refine lv_iload_n hx hb dX3_aSample_37 rfl (lv_at hl 0 rfl) ?_
    refine lv_sipush (v := (128 : Int32)) hx hb dX3_aSample_38 (by decide) ?_
    refine lv_iand hx hb dX3_aSample_41 ?_
    refine lv_if_ne (tgt := 50) hx hb dX3_aSample_42 (by decide) (fun h10 => ?_) (fun h10 => ?_)
    · have hf := pq_brf hf h10
      refine lv_iload_n hx hb dX3_aSample_50 rfl (lv_at hl 1 rfl) ?_
      obtain rfl := Option.some.inj hf
      exact hret _ _ _ ls hh dX3_aSample_51 rfl
    · have hf := pq_brt hf h10
      refine lv_iload_n hx hb dX3_aSample_45 rfl (lv_at hl 1 rfl) ?_
      refine lv_ineg hx hb dX3_aSample_46 ?_
      refine lv_goto (tgt := 51) hx hb dX3_aSample_47 (by decide) ?_
      obtain rfl := Option.some.inj hf
      exact hret _ _ _ ls hh dX3_aSample_51 rfl
  rw [fX3_aSample] at hf
  refine lv_iload_n hx hb dX3_aSample_0 rfl (lv_at hl 0 rfl) ?_
  refine lv_bipush (v := (85 : Int32)) hx hb dX3_aSample_1 (by decide) ?_
  refine lv_ixor hx hb dX3_aSample_3 ?_
  refine lv_topi (fun v1 e2 => ?_)
  have hf := pq_nmx hf v1 e2
  refine lv_istore_n (lv' := [(1, .int v1), (0, .int a0)]) hx hb dX3_aSample_4 rfl hl (by decide) rfl (fun ls hl => ?_)
  refine lv_bipush (v := (16 : Int32)) hx hb dX3_aSample_5 (by decide) ?_
  refine lv_iload_n hx hb dX3_aSample_7 rfl (lv_at hl 0 rfl) ?_
  refine lv_bipush (v := (15 : Int32)) hx hb dX3_aSample_8 (by decide) ?_
  refine lv_iand hx hb dX3_aSample_10 ?_
  refine lv_imul hx hb dX3_aSample_11 ?_
  refine lv_bipush (v := (8 : Int32)) hx hb dX3_aSample_12 (by decide) ?_
  refine lv_iadd hx hb dX3_aSample_14 ?_
  refine lv_topi (fun v3 e4 => ?_)
  have hf := pq_nmx hf v3 e4
  refine lv_istore_n (lv' := [(2, .int v3), (1, .int v1), (0, .int a0)]) hx hb dX3_aSample_15 rfl hl (by decide) rfl (fun ls hl => ?_)
  refine lv_iload_n hx hb dX3_aSample_16 rfl (lv_at hl 1 rfl) ?_
  refine lv_iconst (v := (4 : Int32)) hx hb dX3_aSample_17 (by decide) ?_
  refine lv_ishr hx hb dX3_aSample_18 ?_
  refine lv_bipush (v := (7 : Int32)) hx hb dX3_aSample_19 (by decide) ?_
  refine lv_iand hx hb dX3_aSample_21 ?_
  refine lv_topi (fun v5 e6 => ?_)
  have hf := pq_nmx hf v5 e6
  refine lv_istore_n (lv' := [(3, .int v5), (2, .int v3), (1, .int v1), (0, .int a0)]) hx hb dX3_aSample_22 rfl hl (by decide) rfl (fun ls hl => ?_)
  refine lv_iload_n hx hb dX3_aSample_23 rfl (lv_at hl 0 rfl) ?_
  refine lv_if_le (tgt := 37) hx hb dX3_aSample_24 (by decide) (fun h7 => ?_) (fun h7 => ?_)
  · have hf := pq_brt hf h7
    exact J37 v1 v3 _ _ hh ls (lv_sub hl [2, 1] rfl) hf
  · have hf := pq_brf hf h7
    refine lv_iload_n hx hb dX3_aSample_27 rfl (lv_at hl 1 rfl) ?_
    refine lv_sipush (v := (256 : Int32)) hx hb dX3_aSample_28 (by decide) ?_
    refine lv_iadd hx hb dX3_aSample_31 ?_
    refine lv_iload_n hx hb dX3_aSample_32 rfl (lv_at hl 0 rfl) ?_
    refine lv_iconst (v := (1 : Int32)) hx hb dX3_aSample_33 (by decide) ?_
    refine lv_isub hx hb dX3_aSample_34 ?_
    refine lv_ishl hx hb dX3_aSample_35 ?_
    refine lv_topi (fun v8 e9 => ?_)
    have hf := pq_nmx hf v8 e9
    refine lv_istore_n (lv' := [(2, .int v8), (3, .int v5), (1, .int v1), (0, .int a0)]) hx hb dX3_aSample_36 rfl hl (by decide) rfl (fun ls hl => ?_)
    exact J37 v1 v8 _ _ hh ls (lv_sub hl [2, 0] rfl) hf
set_option maxHeartbeats 4000000 in
set_option maxRecDepth 100000 in
theorem qX3_muEdge (l : Launch) (D : va_G) (cI cL : ClassId) (a0 : Int32) (a1 : Int32) (res : Int32) (hf : fX3_muEdge a0 a1 = some res) : pq_CI l yX3_muEdge qsX3_muEdge 1 13 D cI cL [.int a0, .int a1] [] [] res := by
  refine pq_mkI (cc := cX3_muEdge) (maxL := 8) (RT := .int) (by decide) rfl (Nat.le_of_ble_eq_true rfl) ?_
  intro p e s m args below meth c Q A C hh hret ls hl
  have hx := C.1
  have hb := C.2.1
  have hml := C.2.2.1
  have hown : s.vm.findClass RX3 = some m.cls := C.2.2.2.1
  have hs : ∀ w ∈ wsL_law, w ∈ qsX3_muEdge := fun _ h => List.mem_cons_of_mem _ h
  have htw : ∀ w ∈ wsL_law, w.before args s = true := fun w h => C.2.2.2.2.1 w (hs w h)
  have hl : lv_has ls 8 [(0, .int a0), (1, .int a1)] := hl
  have kc27 := htw (.constant RX3 27 (-100000)) (pq_m31 _ (List.mem_of_getElem? (i := 2) rfl))
  have kim := htw (.initialized "java/lang/Math") (pq_m10 _ (List.mem_of_getElem? (i := 17) rfl))
  have kk24 := htw (.code Lib.Math.max.name Lib.Math.max.code 2 (some .int)) (pq_m15 _ (List.mem_of_getElem? (i := 11) rfl))
  have km24 := htw (.methodLink RX3 24 Lib.Math.max.name) (pq_m15 _ (List.mem_of_getElem? (i := 9) rfl))
  have ks24 := htw (.static Lib.Math.max.name) (pq_m15 _ (List.mem_of_getElem? (i := 10) rfl))
  have J95 : ∀ (x1 : Int32) (x5 : Int32) (x6 : Int32) (s0 : Int32) (s1 : Int32) (H : Heap) (locs : List Loc), pq_H D A s [] H locs → ∀ ls : Array Slot, lv_has ls 8 [(1, .int x1), (5, .int x5), (6, .int x6)] → fX3_muEdge_b95   x1 x5 x6 s0 s1 = some res → W p l e (pq_rm 1 13) s m args below meth c H locs 0 0 Q (F0 m 95 ls [.int s1, .int s0]) := by
    intro x1 x5 x6 s0 s1 H locs hh ls hl hf
    rw [fX3_muEdge_b95] at hf
    refine va_mmax hx hb (by rw [hml]; exact hl.1.symm) hown km24 ks24 kim kk24 (Nat.le_of_ble_eq_true rfl) (Nat.le_of_ble_eq_true rfl) (Nat.zero_le _) (Nat.zero_le _) dX3_muEdge_95 ?_
    refine lv_topi (fun v13 e14 => ?_)
    have hf := pq_nmx hf v13 e14
    refine lv_istore (lv' := [(7, .int v13), (1, .int x1), (5, .int x5), (6, .int x6)]) hx hb dX3_muEdge_98 hl (by decide) rfl (fun ls hl => ?_)
    refine lv_iload hx hb dX3_muEdge_100 (lv_at hl 0 rfl) ?_
    refine lv_iload hx hb dX3_muEdge_102 (lv_at hl 3 rfl) ?_
    refine lv_icmp_le (tgt := 110) hx hb dX3_muEdge_104 (by decide) (fun h15 => ?_) (fun h15 => ?_)
    · have hf := pq_brt hf h15
      refine lv_iload hx hb dX3_muEdge_110 (lv_at hl 2 rfl) ?_
      refine lv_if_eq (tgt := 134) hx hb dX3_muEdge_112 (by decide) (fun h16 => ?_) (fun h16 => ?_)
      · have hf := pq_brt hf h16
        refine lv_iload_n hx hb dX3_muEdge_134 rfl (lv_at hl 1 rfl) ?_
        refine lv_if_eq (tgt := 147) hx hb dX3_muEdge_135 (by decide) (fun h17 => ?_) (fun h17 => ?_)
        · have hf := pq_brt hf h17
          refine lv_iconst (v := (4 : Int32)) hx hb dX3_muEdge_147 (by decide) ?_
          refine lv_iload hx hb dX3_muEdge_148 (lv_at hl 0 rfl) ?_
          refine lv_imul hx hb dX3_muEdge_150 ?_
          obtain rfl := Option.some.inj hf
          exact hret _ _ _ ls hh dX3_muEdge_151 rfl
        · have hf := pq_brf hf h17
          refine lv_iconst (v := (4 : Int32)) hx hb dX3_muEdge_138 (by decide) ?_
          refine lv_iload hx hb dX3_muEdge_139 (lv_at hl 3 rfl) ?_
          refine lv_imul hx hb dX3_muEdge_141 ?_
          refine lv_iconst (v := (3 : Int32)) hx hb dX3_muEdge_142 (by decide) ?_
          refine lv_iadd hx hb dX3_muEdge_143 ?_
          refine lv_goto (tgt := 151) hx hb dX3_muEdge_144 (by decide) ?_
          obtain rfl := Option.some.inj hf
          exact hret _ _ _ ls hh dX3_muEdge_151 rfl
      · have hf := pq_brf hf h16
        refine lv_iload_n hx hb dX3_muEdge_115 rfl (lv_at hl 1 rfl) ?_
        refine lv_if_eq (tgt := 128) hx hb dX3_muEdge_116 (by decide) (fun h18 => ?_) (fun h18 => ?_)
        · have hf := pq_brt hf h18
          refine lv_bipush (v := (-4 : Int32)) hx hb dX3_muEdge_128 (by decide) ?_
          refine lv_iload hx hb dX3_muEdge_130 (lv_at hl 3 rfl) ?_
          refine lv_imul hx hb dX3_muEdge_132 ?_
          obtain rfl := Option.some.inj hf
          exact hret _ _ _ ls hh dX3_muEdge_133 rfl
        · have hf := pq_brf hf h18
          refine lv_iconst (v := (3 : Int32)) hx hb dX3_muEdge_119 (by decide) ?_
          refine lv_iconst (v := (4 : Int32)) hx hb dX3_muEdge_120 (by decide) ?_
          refine lv_iload hx hb dX3_muEdge_121 (lv_at hl 0 rfl) ?_
          refine lv_imul hx hb dX3_muEdge_123 ?_
          refine lv_isub hx hb dX3_muEdge_124 ?_
          refine lv_goto (tgt := 133) hx hb dX3_muEdge_125 (by decide) ?_
          obtain rfl := Option.some.inj hf
          exact hret _ _ _ ls hh dX3_muEdge_133 rfl
    · have hf := pq_brf hf h15
      refine lv_ldc (v := (-100000 : Int32)) hx hb hown kc27 dX3_muEdge_107 ?_
      obtain rfl := Option.some.inj hf
      exact hret _ _ _ ls hh dX3_muEdge_109 rfl
  have J76 : ∀ (x1 : Int32) (x3 : Int32) (x4 : Int32) (x5 : Int32) (x6 : Int32) (H : Heap) (locs : List Loc), pq_H D A s [] H locs → ∀ ls : Array Slot, lv_has ls 8 [(1, .int x1), (3, .int x3), (4, .int x4), (5, .int x5), (6, .int x6)] → fX3_muEdge_b76   x1 x3 x4 x5 x6 = some res → W p l e (pq_rm 1 13) s m args below meth c H locs 0 0 Q (F0 m 76 ls []) := by
    intro x1 x3 x4 x5 x6 H locs hh ls hl hf
    rw [fX3_muEdge_b76] at hf
    refine lv_iload hx hb dX3_muEdge_76 (lv_at hl 2 rfl) ?_
    refine lv_iload_n hx hb dX3_muEdge_78 rfl (lv_at hl 1 rfl) ?_
    refine lv_iconst (v := (1 : Int32)) hx hb dX3_muEdge_79 (by decide) ?_
    refine lv_iadd hx hb dX3_muEdge_80 ?_
    refine lv_ishl hx hb dX3_muEdge_81 ?_
    refine lv_bipush (v := (33 : Int32)) hx hb dX3_muEdge_82 (by decide) ?_
    refine lv_isub hx hb dX3_muEdge_84 ?_
    refine lv_iload hx hb dX3_muEdge_85 (lv_at hl 3 rfl) ?_
    refine lv_if_eq (tgt := 94) hx hb dX3_muEdge_87 (by decide) (fun h12 => ?_) (fun h12 => ?_)
    · have hf := pq_brt hf h12
      refine lv_iconst (v := (0 : Int32)) hx hb dX3_muEdge_94 (by decide) ?_
      exact J95 x1 x5 x6 ((x4 <<< ((x3 + (1 : Int32)) &&& 31)) - (33 : Int32)) (0 : Int32) _ _ hh ls (lv_sub hl [0, 3, 4] rfl) hf
    · have hf := pq_brf hf h12
      refine lv_iconst (v := (1 : Int32)) hx hb dX3_muEdge_90 (by decide) ?_
      refine lv_goto (tgt := 95) hx hb dX3_muEdge_91 (by decide) ?_
      exact J95 x1 x5 x6 ((x4 <<< ((x3 + (1 : Int32)) &&& 31)) - (33 : Int32)) (1 : Int32) _ _ hh ls (lv_sub hl [0, 3, 4] rfl) hf
  have J74 : ∀ (x1 : Int32) (x3 : Int32) (x4 : Int32) (x5 : Int32) (s0 : Int32) (H : Heap) (locs : List Loc), pq_H D A s [] H locs → ∀ ls : Array Slot, lv_has ls 8 [(1, .int x1), (3, .int x3), (4, .int x4), (5, .int x5)] → fX3_muEdge_b74   x1 x3 x4 x5 s0 = some res → W p l e (pq_rm 1 13) s m args below meth c H locs 0 0 Q (F0 m 74 ls [.int s0]) := by
    intro x1 x3 x4 x5 s0 H locs hh ls hl hf
    rw [fX3_muEdge_b74] at hf
    refine lv_istore (lv' := [(6, .int s0), (1, .int x1), (3, .int x3), (4, .int x4), (5, .int x5)]) hx hb dX3_muEdge_74 hl (by decide) rfl (fun ls hl => ?_)
    exact J76 x1 x3 x4 x5 s0 _ _ hh ls (lv_sub hl [1, 2, 3, 4, 0] rfl) hf
  have J35 : ∀ (x1 : Int32) (x3 : Int32) (x4 : Int32) (s0 : Int32) (H : Heap) (locs : List Loc), pq_H D A s [] H locs → ∀ ls : Array Slot, lv_has ls 8 [(1, .int x1), (3, .int x3), (4, .int x4)] → fX3_muEdge_b35   x1 x3 x4 s0 = some res → W p l e (pq_rm 1 13) s m args below meth c H locs 0 0 Q (F0 m 35 ls [.int s0]) := by
    intro x1 x3 x4 s0 H locs hh ls hl hf
    rw [fX3_muEdge_b35] at hf
    refine lv_istore (lv' := [(5, .int s0), (1, .int x1), (3, .int x3), (4, .int x4)]) hx hb dX3_muEdge_35 hl (by decide) rfl (fun ls hl => ?_)
    refine lv_iload hx hb dX3_muEdge_37 (lv_at hl 3 rfl) ?_
    refine lv_iconst (v := (1 : Int32)) hx hb dX3_muEdge_39 (by decide) ?_
    refine lv_iadd hx hb dX3_muEdge_40 ?_
    refine lv_iload_n hx hb dX3_muEdge_41 rfl (lv_at hl 2 rfl) ?_
    refine lv_iconst (v := (1 : Int32)) hx hb dX3_muEdge_42 (by decide) ?_
    refine lv_iadd hx hb dX3_muEdge_43 ?_
    refine lv_ishl hx hb dX3_muEdge_44 ?_
    refine lv_iconst (v := (1 : Int32)) hx hb dX3_muEdge_45 (by decide) ?_
    refine lv_isub hx hb dX3_muEdge_46 ?_
    refine lv_bipush (v := (33 : Int32)) hx hb dX3_muEdge_47 (by decide) ?_
    refine lv_isub hx hb dX3_muEdge_49 ?_
    refine lv_topi (fun v8 e9 => ?_)
    have hf := pq_nmx hf v8 e9
    refine lv_istore (lv' := [(6, .int v8), (5, .int s0), (1, .int x1), (3, .int x3), (4, .int x4)]) hx hb dX3_muEdge_50 hl (by decide) rfl (fun ls hl => ?_)
    refine lv_iload hx hb dX3_muEdge_52 (lv_at hl 0 rfl) ?_
    refine lv_sipush (v := (8158 : Int32)) hx hb dX3_muEdge_54 (by decide) ?_
    refine lv_icmp_ne (tgt := 76) hx hb dX3_muEdge_57 (by decide) (fun h10 => ?_) (fun h10 => ?_)
    · have hf := pq_brf hf h10
      exact J76 x1 x3 x4 s0 v8 _ _ hh ls (lv_sub hl [2, 3, 4, 1, 0] rfl) hf
    · have hf := pq_brt hf h10
      refine lv_iload hx hb dX3_muEdge_60 (lv_at hl 1 rfl) ?_
      refine lv_if_eq (tgt := 71) hx hb dX3_muEdge_62 (by decide) (fun h11 => ?_) (fun h11 => ?_)
      · have hf := pq_brt hf h11
        refine lv_sipush (v := (8191 : Int32)) hx hb dX3_muEdge_71 (by decide) ?_
        exact J74 x1 x3 x4 s0 (8191 : Int32) _ _ hh ls (lv_sub hl [2, 3, 4, 1] rfl) hf
      · have hf := pq_brf hf h11
        refine lv_sipush (v := (8192 : Int32)) hx hb dX3_muEdge_65 (by decide) ?_
        refine lv_goto (tgt := 74) hx hb dX3_muEdge_68 (by decide) ?_
        exact J74 x1 x3 x4 s0 (8192 : Int32) _ _ hh ls (lv_sub hl [2, 3, 4, 1] rfl) hf
  rw [fX3_muEdge] at hf
  refine lv_sipush (v := (255 : Int32)) hx hb dX3_muEdge_0 (by decide) ?_
  refine lv_iload_n hx hb dX3_muEdge_3 rfl (lv_at hl 0 rfl) ?_
  refine lv_isub hx hb dX3_muEdge_4 ?_
  refine lv_topi (fun v1 e2 => ?_)
  have hf := pq_nmx hf v1 e2
  refine lv_istore_n (lv' := [(2, .int v1), (0, .int a0), (1, .int a1)]) hx hb dX3_muEdge_5 rfl hl (by decide) rfl (fun ls hl => ?_)
  refine lv_iload_n hx hb dX3_muEdge_6 rfl (lv_at hl 0 rfl) ?_
  refine lv_iconst (v := (4 : Int32)) hx hb dX3_muEdge_7 (by decide) ?_
  refine lv_ishr hx hb dX3_muEdge_8 ?_
  refine lv_bipush (v := (7 : Int32)) hx hb dX3_muEdge_9 (by decide) ?_
  refine lv_iand hx hb dX3_muEdge_11 ?_
  refine lv_topi (fun v3 e4 => ?_)
  have hf := pq_nmx hf v3 e4
  refine lv_istore_n (lv' := [(3, .int v3), (2, .int v1), (0, .int a0), (1, .int a1)]) hx hb dX3_muEdge_12 rfl hl (by decide) rfl (fun ls hl => ?_)
  refine lv_bipush (v := (16 : Int32)) hx hb dX3_muEdge_13 (by decide) ?_
  refine lv_iload_n hx hb dX3_muEdge_15 rfl (lv_at hl 1 rfl) ?_
  refine lv_bipush (v := (15 : Int32)) hx hb dX3_muEdge_16 (by decide) ?_
  refine lv_iand hx hb dX3_muEdge_18 ?_
  refine lv_iadd hx hb dX3_muEdge_19 ?_
  refine lv_topi (fun v5 e6 => ?_)
  have hf := pq_nmx hf v5 e6
  refine lv_istore (lv' := [(4, .int v5), (3, .int v3), (2, .int v1), (0, .int a0), (1, .int a1)]) hx hb dX3_muEdge_20 hl (by decide) rfl (fun ls hl => ?_)
  refine lv_iload_n hx hb dX3_muEdge_22 rfl (lv_at hl 2 rfl) ?_
  refine lv_sipush (v := (128 : Int32)) hx hb dX3_muEdge_23 (by decide) ?_
  refine lv_iand hx hb dX3_muEdge_26 ?_
  refine lv_if_eq (tgt := 34) hx hb dX3_muEdge_27 (by decide) (fun h7 => ?_) (fun h7 => ?_)
  · have hf := pq_brt hf h7
    refine lv_iconst (v := (0 : Int32)) hx hb dX3_muEdge_34 (by decide) ?_
    exact J35 a1 v3 v5 (0 : Int32) _ _ hh ls (lv_sub hl [4, 1, 0] rfl) hf
  · have hf := pq_brf hf h7
    refine lv_iconst (v := (1 : Int32)) hx hb dX3_muEdge_30 (by decide) ?_
    refine lv_goto (tgt := 35) hx hb dX3_muEdge_31 (by decide) ?_
    exact J35 a1 v3 v5 (1 : Int32) _ _ hh ls (lv_sub hl [4, 1, 0] rfl) hf
set_option maxHeartbeats 4000000 in
set_option maxRecDepth 100000 in
theorem qX3_aEdge (l : Launch) (D : va_G) (cI cL : ClassId) (a0 : Int32) (a1 : Int32) (res : Int32) (hf : fX3_aEdge a0 a1 = some res) : pq_CI l yX3_aEdge qsX3_aEdge 1 13 D cI cL [.int a0, .int a1] [] [] res := by
  refine pq_mkI (cc := cX3_aEdge) (maxL := 8) (RT := .int) (by decide) rfl (Nat.le_of_ble_eq_true rfl) ?_
  intro p e s m args below meth c Q A C hh hret ls hl
  have hx := C.1
  have hb := C.2.1
  have hml := C.2.2.1
  have hown : s.vm.findClass RX3 = some m.cls := C.2.2.2.1
  have hs : ∀ w ∈ wsL_law, w ∈ qsX3_aEdge := fun _ h => List.mem_cons_of_mem _ h
  have htw : ∀ w ∈ wsL_law, w.before args s = true := fun w h => C.2.2.2.2.1 w (hs w h)
  have hl : lv_has ls 8 [(0, .int a0), (1, .int a1)] := hl
  have kim := htw (.initialized "java/lang/Math") (pq_m10 _ (List.mem_of_getElem? (i := 17) rfl))
  have kk24 := htw (.code Lib.Math.max.name Lib.Math.max.code 2 (some .int)) (pq_m15 _ (List.mem_of_getElem? (i := 11) rfl))
  have km24 := htw (.methodLink RX3 24 Lib.Math.max.name) (pq_m15 _ (List.mem_of_getElem? (i := 9) rfl))
  have ks24 := htw (.static Lib.Math.max.name) (pq_m15 _ (List.mem_of_getElem? (i := 10) rfl))
  have J30 : ∀ (x1 : Int32) (x2 : Int32) (x3 : Int32) (s0 : Int32) (H : Heap) (locs : List Loc), pq_H D A s [] H locs → ∀ ls : Array Slot, lv_has ls 8 [(1, .int x1), (2, .int x2), (3, .int x3)] → fX3_aEdge_b30   x1 x2 x3 s0 = some res → W p l e (pq_rm 1 13) s m args below meth c H locs 0 0 Q (F0 m 30 ls [.int s0]) := by
    intro x1 x2 x3 s0 H locs hh ls hl hf
    rw [fX3_aEdge_b30] at hf
    refine lv_istore (lv' := [(4, .int s0), (1, .int x1), (2, .int x2), (3, .int x3)]) hx hb dX3_aEdge_30 hl (by decide) rfl (fun ls hl => ?_)
    refine lv_iload_n hx hb dX3_aEdge_32 rfl (lv_at hl 3 rfl) ?_
    refine lv_iconst (v := (1 : Int32)) hx hb dX3_aEdge_33 (by decide) ?_
    refine va_mmax hx hb (by rw [hml]; exact hl.1.symm) hown km24 ks24 kim kk24 (Nat.le_of_ble_eq_true rfl) (Nat.le_of_ble_eq_true rfl) (Nat.zero_le _) (Nat.zero_le _) dX3_aEdge_34 ?_
    refine lv_topi (fun v6 e7 => ?_)
    have hf := pq_nmx hf v6 e7
    refine lv_istore (lv' := [(5, .int v6), (4, .int s0), (1, .int x1), (2, .int x2), (3, .int x3)]) hx hb dX3_aEdge_37 hl (by decide) rfl (fun ls hl => ?_)
    refine lv_iload hx hb dX3_aEdge_39 (lv_at hl 1 rfl) ?_
    refine lv_iload hx hb dX3_aEdge_41 (lv_at hl 0 rfl) ?_
    refine lv_ishl hx hb dX3_aEdge_43 ?_
    refine lv_topi (fun v8 e9 => ?_)
    have hf := pq_nmx hf v8 e9
    refine lv_istore (lv' := [(6, .int v8), (5, .int v6), (4, .int s0), (1, .int x1), (2, .int x2), (3, .int x3)]) hx hb dX3_aEdge_44 hl (by decide) rfl (fun ls hl => ?_)
    refine lv_iload hx hb dX3_aEdge_46 (lv_at hl 2 rfl) ?_
    refine lv_iconst (v := (1 : Int32)) hx hb dX3_aEdge_48 (by decide) ?_
    refine lv_iadd hx hb dX3_aEdge_49 ?_
    refine lv_iload hx hb dX3_aEdge_50 (lv_at hl 1 rfl) ?_
    refine lv_ishl hx hb dX3_aEdge_52 ?_
    refine lv_iconst (v := (1 : Int32)) hx hb dX3_aEdge_53 (by decide) ?_
    refine lv_isub hx hb dX3_aEdge_54 ?_
    refine lv_topi (fun v10 e11 => ?_)
    have hf := pq_nmx hf v10 e11
    refine lv_istore (lv' := [(7, .int v10), (6, .int v8), (5, .int v6), (4, .int s0), (1, .int x1), (2, .int x2), (3, .int x3)]) hx hb dX3_aEdge_55 hl (by decide) rfl (fun ls hl => ?_)
    refine lv_iload_n hx hb dX3_aEdge_57 rfl (lv_at hl 5 rfl) ?_
    refine lv_sipush (v := (128 : Int32)) hx hb dX3_aEdge_58 (by decide) ?_
    refine lv_iand hx hb dX3_aEdge_61 ?_
    refine lv_if_ne (tgt := 88) hx hb dX3_aEdge_62 (by decide) (fun h12 => ?_) (fun h12 => ?_)
    · have hf := pq_brf hf h12
      refine lv_iload_n hx hb dX3_aEdge_88 rfl (lv_at hl 4 rfl) ?_
      refine lv_if_eq (tgt := 103) hx hb dX3_aEdge_89 (by decide) (fun h13 => ?_) (fun h13 => ?_)
      · have hf := pq_brt hf h13
        refine lv_bipush (v := (8 : Int32)) hx hb dX3_aEdge_103 (by decide) ?_
        refine lv_iload hx hb dX3_aEdge_105 (lv_at hl 1 rfl) ?_
        refine lv_imul hx hb dX3_aEdge_107 ?_
        obtain rfl := Option.some.inj hf
        exact hret _ _ _ ls hh dX3_aEdge_108 rfl
      · have hf := pq_brf hf h13
        refine lv_bipush (v := (8 : Int32)) hx hb dX3_aEdge_92 (by decide) ?_
        refine lv_iload hx hb dX3_aEdge_94 (lv_at hl 0 rfl) ?_
        refine lv_imul hx hb dX3_aEdge_96 ?_
        refine lv_bipush (v := (7 : Int32)) hx hb dX3_aEdge_97 (by decide) ?_
        refine lv_iadd hx hb dX3_aEdge_99 ?_
        refine lv_goto (tgt := 108) hx hb dX3_aEdge_100 (by decide) ?_
        obtain rfl := Option.some.inj hf
        exact hret _ _ _ ls hh dX3_aEdge_108 rfl
    · have hf := pq_brt hf h12
      refine lv_iload_n hx hb dX3_aEdge_65 rfl (lv_at hl 4 rfl) ?_
      refine lv_if_eq (tgt := 79) hx hb dX3_aEdge_66 (by decide) (fun h14 => ?_) (fun h14 => ?_)
      · have hf := pq_brt hf h14
        refine lv_bipush (v := (-8 : Int32)) hx hb dX3_aEdge_79 (by decide) ?_
        refine lv_iload hx hb dX3_aEdge_81 (lv_at hl 0 rfl) ?_
        refine lv_imul hx hb dX3_aEdge_83 ?_
        refine lv_bipush (v := (8 : Int32)) hx hb dX3_aEdge_84 (by decide) ?_
        refine lv_isub hx hb dX3_aEdge_86 ?_
        obtain rfl := Option.some.inj hf
        exact hret _ _ _ ls hh dX3_aEdge_87 rfl
      · have hf := pq_brf hf h14
        refine lv_bipush (v := (-8 : Int32)) hx hb dX3_aEdge_69 (by decide) ?_
        refine lv_iload hx hb dX3_aEdge_71 (lv_at hl 1 rfl) ?_
        refine lv_imul hx hb dX3_aEdge_73 ?_
        refine lv_iconst (v := (1 : Int32)) hx hb dX3_aEdge_74 (by decide) ?_
        refine lv_isub hx hb dX3_aEdge_75 ?_
        refine lv_goto (tgt := 87) hx hb dX3_aEdge_76 (by decide) ?_
        obtain rfl := Option.some.inj hf
        exact hret _ _ _ ls hh dX3_aEdge_87 rfl
  rw [fX3_aEdge] at hf
  refine lv_iload_n hx hb dX3_aEdge_0 rfl (lv_at hl 0 rfl) ?_
  refine lv_bipush (v := (85 : Int32)) hx hb dX3_aEdge_1 (by decide) ?_
  refine lv_ixor hx hb dX3_aEdge_3 ?_
  refine lv_topi (fun v1 e2 => ?_)
  have hf := pq_nmx hf v1 e2
  refine lv_istore_n (lv' := [(2, .int v1), (0, .int a0), (1, .int a1)]) hx hb dX3_aEdge_4 rfl hl (by decide) rfl (fun ls hl => ?_)
  refine lv_iload_n hx hb dX3_aEdge_5 rfl (lv_at hl 0 rfl) ?_
  refine lv_iconst (v := (4 : Int32)) hx hb dX3_aEdge_6 (by decide) ?_
  refine lv_ishr hx hb dX3_aEdge_7 ?_
  refine lv_bipush (v := (7 : Int32)) hx hb dX3_aEdge_8 (by decide) ?_
  refine lv_iand hx hb dX3_aEdge_10 ?_
  refine lv_topi (fun v3 e4 => ?_)
  have hf := pq_nmx hf v3 e4
  refine lv_istore_n (lv' := [(3, .int v3), (2, .int v1), (0, .int a0), (1, .int a1)]) hx hb dX3_aEdge_11 rfl hl (by decide) rfl (fun ls hl => ?_)
  refine lv_iload_n hx hb dX3_aEdge_12 rfl (lv_at hl 0 rfl) ?_
  refine lv_if_ne (tgt := 23) hx hb dX3_aEdge_13 (by decide) (fun h5 => ?_) (fun h5 => ?_)
  · have hf := pq_brf hf h5
    refine lv_bipush (v := (16 : Int32)) hx hb dX3_aEdge_23 (by decide) ?_
    refine lv_iload_n hx hb dX3_aEdge_25 rfl (lv_at hl 1 rfl) ?_
    refine lv_bipush (v := (15 : Int32)) hx hb dX3_aEdge_26 (by decide) ?_
    refine lv_iand hx hb dX3_aEdge_28 ?_
    refine lv_iadd hx hb dX3_aEdge_29 ?_
    exact J30 a1 v1 v3 ((16 : Int32) + (v1 &&& (15 : Int32))) _ _ hh ls (lv_sub hl [3, 1, 0] rfl) hf
  · have hf := pq_brt hf h5
    refine lv_iload_n hx hb dX3_aEdge_16 rfl (lv_at hl 1 rfl) ?_
    refine lv_bipush (v := (15 : Int32)) hx hb dX3_aEdge_17 (by decide) ?_
    refine lv_iand hx hb dX3_aEdge_19 ?_
    refine lv_goto (tgt := 30) hx hb dX3_aEdge_20 (by decide) ?_
    exact J30 a1 v1 v3 (v1 &&& (15 : Int32)) _ _ hh ls (lv_sub hl [3, 1, 0] rfl) hf
set_option maxHeartbeats 4000000 in
set_option maxRecDepth 100000 in
theorem qX4_isAdpcm (l : Launch) (D : va_G) (cI cL : ClassId) (th : Nat) (th_adpcmSpeaker : Nat) (th_adpcmHearer : Nat) (th_wideSpeaker : Nat) (th_wideHearer : Nat) (c_kind : Int32) (res : Int32) (hf : fX4_isAdpcm c_kind = some res) : pq_CI l yX4_isAdpcm qsX4_isAdpcm 0 0 D cI cL [.ref th] (wX4_isAdpcm cI th th_adpcmSpeaker th_adpcmHearer th_wideSpeaker th_wideHearer c_kind) (wX4_isAdpcm cI th th_adpcmSpeaker th_adpcmHearer th_wideSpeaker th_wideHearer c_kind) res := by
  refine pq_mkI (cc := cX4_isAdpcm) (maxL := 1) (RT := .boolean) (by decide) rfl (Nat.le_of_ble_eq_true rfl) ?_
  intro p e s m args below meth c Q A C hh hret ls hl
  have hx := C.1
  have hb := C.2.1
  have hml := C.2.2.1
  have hown : s.vm.findClass RX4 = some m.cls := C.2.2.2.1
  have hs : ∀ w ∈ wsL_law, w ∈ qsX4_isAdpcm := fun _ h => List.mem_cons_of_mem _ h
  have htw : ∀ w ∈ wsL_law, w.before args s = true := fun w h => C.2.2.2.2.1 w (hs w h)
  have hl : lv_has ls 1 [(0, .ref th)] := hl
  have i4 : ∀ w ∈ wsX40, w ∈ qsX4_isAdpcm := fun w h => hs w (pq_i4 w h)
  have kf32 := htw (.fieldLink RX4 32 "VoiceDesk$Line" "kind" "I") (pq_m2 _ (List.mem_of_getElem? (i := 11) rfl))
  rw [fX4_isAdpcm] at hf
  refine lv_aload_n hx hb dX4_isAdpcm_0 rfl (lv_at hl 0 rfl) ?_
  refine pq_get C hh i4 0 3 rfl rfl 4 (by decide) kf32 rfl rfl dX4_isAdpcm_1 ?_
  refine lv_iconst (v := (2 : Int32)) hx hb dX4_isAdpcm_4 (by decide) ?_
  refine lv_icmp_lt (tgt := 20) hx hb dX4_isAdpcm_5 (by decide) (fun h1 => ?_) (fun h1 => ?_)
  · have hf := pq_brt hf h1
    refine lv_iconst (v := (0 : Int32)) hx hb dX4_isAdpcm_20 (by decide) ?_
    obtain rfl := Option.some.inj hf
    exact hret _ _ _ ls hh dX4_isAdpcm_21 (pq_nb0 rfl)
  · have hf := pq_brf hf h1
    refine lv_aload_n hx hb dX4_isAdpcm_8 rfl (lv_at hl 0 rfl) ?_
    refine pq_get C hh i4 0 3 rfl rfl 4 (by decide) kf32 rfl rfl dX4_isAdpcm_9 ?_
    refine lv_iconst (v := (5 : Int32)) hx hb dX4_isAdpcm_12 (by decide) ?_
    refine lv_icmp_gt (tgt := 20) hx hb dX4_isAdpcm_13 (by decide) (fun h2 => ?_) (fun h2 => ?_)
    · have hf := pq_brt hf h2
      refine lv_iconst (v := (0 : Int32)) hx hb dX4_isAdpcm_20 (by decide) ?_
      obtain rfl := Option.some.inj hf
      exact hret _ _ _ ls hh dX4_isAdpcm_21 (pq_nb0 rfl)
    · have hf := pq_brf hf h2
      refine lv_iconst (v := (1 : Int32)) hx hb dX4_isAdpcm_16 (by decide) ?_
      refine lv_goto (tgt := 21) hx hb dX4_isAdpcm_17 (by decide) ?_
      obtain rfl := Option.some.inj hf
      exact hret _ _ _ ls hh dX4_isAdpcm_21 (pq_nb1 rfl)
set_option maxHeartbeats 4000000 in
set_option maxRecDepth 100000 in
theorem qX4_isWide (l : Launch) (D : va_G) (cI cL : ClassId) (th : Nat) (th_adpcmSpeaker : Nat) (th_adpcmHearer : Nat) (th_wideSpeaker : Nat) (th_wideHearer : Nat) (c_kind : Int32) (res : Int32) (hf : fX4_isWide c_kind = some res) : pq_CI l yX4_isWide qsX4_isWide 0 0 D cI cL [.ref th] (wX4_isWide cI th th_adpcmSpeaker th_adpcmHearer th_wideSpeaker th_wideHearer c_kind) (wX4_isWide cI th th_adpcmSpeaker th_adpcmHearer th_wideSpeaker th_wideHearer c_kind) res := by
  refine pq_mkI (cc := cX4_isWide) (maxL := 1) (RT := .boolean) (by decide) rfl (Nat.le_of_ble_eq_true rfl) ?_
  intro p e s m args below meth c Q A C hh hret ls hl
  have hx := C.1
  have hb := C.2.1
  have hml := C.2.2.1
  have hown : s.vm.findClass RX4 = some m.cls := C.2.2.2.1
  have hs : ∀ w ∈ wsL_law, w ∈ qsX4_isWide := fun _ h => List.mem_cons_of_mem _ h
  have htw : ∀ w ∈ wsL_law, w.before args s = true := fun w h => C.2.2.2.2.1 w (hs w h)
  have hl : lv_has ls 1 [(0, .ref th)] := hl
  have i4 : ∀ w ∈ wsX40, w ∈ qsX4_isWide := fun w h => hs w (pq_i4 w h)
  have kf32 := htw (.fieldLink RX4 32 "VoiceDesk$Line" "kind" "I") (pq_m2 _ (List.mem_of_getElem? (i := 11) rfl))
  rw [fX4_isWide] at hf
  refine lv_aload_n hx hb dX4_isWide_0 rfl (lv_at hl 0 rfl) ?_
  refine pq_get C hh i4 0 3 rfl rfl 4 (by decide) kf32 rfl rfl dX4_isWide_1 ?_
  refine lv_bipush (v := (6 : Int32)) hx hb dX4_isWide_4 (by decide) ?_
  refine lv_icmp_lt (tgt := 13) hx hb dX4_isWide_6 (by decide) (fun h1 => ?_) (fun h1 => ?_)
  · have hf := pq_brt hf h1
    refine lv_iconst (v := (0 : Int32)) hx hb dX4_isWide_13 (by decide) ?_
    obtain rfl := Option.some.inj hf
    exact hret _ _ _ ls hh dX4_isWide_14 (pq_nb0 rfl)
  · have hf := pq_brf hf h1
    refine lv_iconst (v := (1 : Int32)) hx hb dX4_isWide_9 (by decide) ?_
    refine lv_goto (tgt := 14) hx hb dX4_isWide_10 (by decide) ?_
    obtain rfl := Option.some.inj hf
    exact hret _ _ _ ls hh dX4_isWide_14 (pq_nb1 rfl)
set_option maxHeartbeats 4000000 in
set_option maxRecDepth 100000 in
theorem qX5_begin (l : Launch) (D : va_G) (cI cL : ClassId) (th : Nat) (th_low : Nat) (th_low_numbers : Nat) (th_high : Nat) (th_high_numbers : Nat) (th_x : Nat) (c_secondHeard : Int32) (f_low_numbers : Nat → Int32) (f_high_numbers : Nat → Int32) (f_x : Nat → Int32) (res : Int32 × (Nat → Int32) × (Nat → Int32) × (Nat → Int32)) (hf : fX5_begin c_secondHeard f_low_numbers f_high_numbers f_x = some res) : pq_CV l yX5_begin qsX5_begin 1 22 D cI cL [.ref th] (wX5_begin cI th th_low th_low_numbers th_high th_high_numbers th_x c_secondHeard f_low_numbers f_high_numbers f_x) (wX5_begin cI th th_low th_low_numbers th_high th_high_numbers th_x res.1 res.2.1 res.2.2.1 res.2.2.2) := by
  refine pq_mkV (cc := cX5_begin) (maxL := 2) (by decide) rfl (Nat.le_of_ble_eq_true rfl) ?_
  intro p e s m args below meth c Q A C hh hret ls hl
  have hx := C.1
  have hb := C.2.1
  have hml := C.2.2.1
  have hown : s.vm.findClass RX5 = some m.cls := C.2.2.2.1
  have hs : ∀ w ∈ wsL_law, w ∈ qsX5_begin := fun _ h => List.mem_cons_of_mem _ h
  have htw : ∀ w ∈ wsL_law, w.before args s = true := fun w h => C.2.2.2.2.1 w (hs w h)
  have hl : lv_has ls 2 [(0, .ref th)] := hl
  have i5 : ∀ w ∈ wsX50, w ∈ qsX5_begin := fun w h => hs w (pq_i5 w h)
  have kf12 := htw (.fieldLink RX5 12 "VoiceDesk$Wideband" "low" "LVoiceDesk$Band;") (pq_m3 _ (List.mem_of_getElem? (i := 3) rfl))
  have kf18 := htw (.fieldLink RX5 18 "VoiceDesk$Wideband" "high" "LVoiceDesk$Band;") (pq_m3 _ (List.mem_of_getElem? (i := 4) rfl))
  have kf21 := htw (.fieldLink RX5 21 "VoiceDesk$Wideband" "x" "[I") (pq_m3 _ (List.mem_of_getElem? (i := 5) rfl))
  have kf25 := htw (.fieldLink RX5 25 "VoiceDesk$Wideband" "secondHeard" "I") (pq_m3 _ (List.mem_of_getElem? (i := 6) rfl))
  have J20 : ∀ (fuel20 : Nat) (x1 : Int32) (c_secondHeard : Int32) (f_low_numbers : Nat → Int32) (f_high_numbers : Nat → Int32) (f_x : Nat → Int32) (H : Heap) (locs : List Loc), pq_H D A s (wX5_begin cI th th_low th_low_numbers th_high th_high_numbers th_x c_secondHeard f_low_numbers f_high_numbers f_x) H locs → ∀ ls : Array Slot, lv_has ls 2 [(0, .ref th), (1, .int x1)] → fX5_begin_b20   fuel20 x1 c_secondHeard f_low_numbers f_high_numbers f_x = some res → W p l e (pq_rm 1 22) s m args below meth c H locs 0 0 Q (F0 m 20 ls []) := by
    intro fuel20
    induction fuel20 with
    | zero => intro x1 c_secondHeard f_low_numbers f_high_numbers f_x H locs hh ls hl hf; rw [fX5_begin_b20] at hf; cases hf
    | succ fuel20 ih20 =>
      intro x1 c_secondHeard f_low_numbers f_high_numbers f_x H locs hh ls hl hf
      rw [fX5_begin_b20] at hf
      refine lv_iload_n hx hb dX5_begin_20 rfl (lv_at hl 1 rfl) ?_
      refine lv_bipush (v := (24 : Int32)) hx hb dX5_begin_21 (by decide) ?_
      refine lv_icmp_ge (tgt := 39) hx hb dX5_begin_23 (by decide) (fun h5 => ?_) (fun h5 => ?_)
      · have hf := pq_brt hf h5
        refine lv_aload_n hx hb dX5_begin_39 rfl (lv_at hl 0 rfl) ?_
        refine lv_iconst (v := (0 : Int32)) hx hb dX5_begin_40 (by decide) ?_
        refine pq_put (ty := .int) (v := .int (0 : Int32)) C hh i5 tyX5 tyX5_ok nmX5 0 4 rfl rfl 3 (by decide) kf25 rfl rfl (by decide +kernel) rfl rfl (Nat.le_of_ble_eq_true rfl) dX5_begin_41 (fun H locs (hh : pq_H D A s (wX5_begin cI th th_low th_low_numbers th_high th_high_numbers th_x (0 : Int32) f_low_numbers f_high_numbers f_x) H locs) => ?_)
        obtain rfl := Option.some.inj hf
        exact hret _ _ _ ls hh dX5_begin_44
      · have hf := pq_brf hf h5
        refine lv_aload_n hx hb dX5_begin_26 rfl (lv_at hl 0 rfl) ?_
        refine pq_get C hh i5 0 4 rfl rfl 2 (by decide) kf21 rfl rfl dX5_begin_27 ?_
        refine lv_iload_n hx hb dX5_begin_30 rfl (lv_at hl 1 rfl) ?_
        refine lv_iconst (v := (0 : Int32)) hx hb dX5_begin_31 (by decide) ?_
        obtain ⟨h6, hf⟩ := pq_wrx hf
        refine pq_iast C hh 5 rfl h6 dX5_begin_32 (fun H locs f7 e8 (hh : pq_H D A s (wX5_begin cI th th_low th_low_numbers th_high th_high_numbers th_x c_secondHeard f_low_numbers f_high_numbers f7) H locs) => ?_)
        have hf := hf f7 e8
        obtain ⟨v9, e10⟩ : ∃ y : Int32, y = x1 + (1 : Int32) := ⟨_, rfl⟩
        refine lv_iinc (v := v9) (lv' := [(1, .int v9), (0, .ref th)]) hx hb dX5_begin_33 hl (k := 1) rfl (by rw [e10]; rfl) (by decide) rfl (fun ls hl => ?_)
        have hf := pq_nmx hf v9 e10
        refine lv_goto (tgt := 20) hx hb dX5_begin_36 (by decide) ?_
        exact ih20 v9 c_secondHeard f_low_numbers f_high_numbers f7 _ _ hh ls (lv_sub hl [1, 0] rfl) hf
  rw [fX5_begin] at hf
  refine lv_aload_n hx hb dX5_begin_0 rfl (lv_at hl 0 rfl) ?_
  refine pq_get C hh i5 0 4 rfl rfl 0 (by decide) kf12 rfl rfl dX5_begin_1 ?_
  refine lv_bipush (v := (32 : Int32)) hx hb dX5_begin_4 (by decide) ?_
  obtain ⟨f1, hu2, hf⟩ := pq_clx hf
  refine pq_cvV (n := 1) (As := [.int (32 : Int32)]) C hh (qX1_begin l D cI cL th_low th_low_numbers f_low_numbers (32 : Int32) f1 hu2) (gvX1_begin hs (pq_m6 _ (List.mem_of_getElem? (i := 9) rfl))) rfl (by decide +kernel) ⟨Nat.le_of_ble_eq_true rfl, Nat.le_of_ble_eq_true rfl⟩ 1 1 rfl rfl rfl hl.1 rfl rfl (Nat.le_of_ble_eq_true rfl) dX5_begin_6 ⟨Nat.zero_le _, Nat.zero_le _⟩ [1, 2] [0, 3, 4, 5] [0, 4, 5, 1, 2, 3] rfl rfl (by decide) (by decide) (by decide) rfl (fun H locs (hh : pq_H D A s (wX5_begin cI th th_low th_low_numbers th_high th_high_numbers th_x c_secondHeard f1 f_high_numbers f_x) H locs) => ?_)
  refine lv_aload_n hx hb dX5_begin_9 rfl (lv_at hl 0 rfl) ?_
  refine pq_get C hh i5 0 4 rfl rfl 1 (by decide) kf18 rfl rfl dX5_begin_10 ?_
  refine lv_bipush (v := (8 : Int32)) hx hb dX5_begin_13 (by decide) ?_
  obtain ⟨f3, hu4, hf⟩ := pq_clx hf
  refine pq_cvV (n := 1) (As := [.int (8 : Int32)]) C hh (qX1_begin l D cI cL th_high th_high_numbers f_high_numbers (8 : Int32) f3 hu4) (gvX1_begin hs (pq_m6 _ (List.mem_of_getElem? (i := 9) rfl))) rfl (by decide +kernel) ⟨Nat.le_of_ble_eq_true rfl, Nat.le_of_ble_eq_true rfl⟩ 3 1 rfl rfl rfl hl.1 rfl rfl (Nat.le_of_ble_eq_true rfl) dX5_begin_15 ⟨Nat.zero_le _, Nat.zero_le _⟩ [3, 4] [0, 1, 2, 5] [0, 1, 2, 4, 5, 3] rfl rfl (by decide) (by decide) (by decide) rfl (fun H locs (hh : pq_H D A s (wX5_begin cI th th_low th_low_numbers th_high th_high_numbers th_x c_secondHeard f1 f3 f_x) H locs) => ?_)
  refine lv_iconst (v := (0 : Int32)) hx hb dX5_begin_18 (by decide) ?_
  refine lv_istore_n (lv' := [(1, .int (0 : Int32)), (0, .ref th)]) hx hb dX5_begin_19 rfl hl (by decide) rfl (fun ls hl => ?_)
  exact J20 1100 (0 : Int32) c_secondHeard f1 f3 f_x _ _ hh ls (lv_sub hl [1, 0] rfl) hf
