set_option maxHeartbeats 4000000 in
set_option maxRecDepth 100000 in
theorem qX1_begin (l : Launch) (D : va_G) (cI cL : ClassId) (th : Nat) (th_numbers : Nat) (f_numbers : Nat → Int32) (a1 : Int32) (res : (Nat → Int32)) (hf : fX1_begin a1 f_numbers = some res) : pq_CV l yX1_begin qsX1_begin 0 0 D cI cL [.ref th, .int a1] (wX1_begin cI th th_numbers f_numbers) (wX1_begin cI th th_numbers res) := by
  refine pq_mkV (cc := cX1_begin) (maxL := 3) (by decide) rfl (Nat.le_of_ble_eq_true rfl) ?_
  intro p e s m args below meth c Q A C hh hret ls hl
  have hx := C.1
  have hb := C.2.1
  have hml := C.2.2.1
  have hown : s.vm.findClass RX1 = some m.cls := C.2.2.2.1
  have hs : ∀ w ∈ wsL_law, w ∈ qsX1_begin := fun _ h => List.mem_cons_of_mem _ h
  have htw : ∀ w ∈ wsL_law, w.before args s = true := fun w h => C.2.2.2.2.1 w (hs w h)
  have hl : lv_has ls 3 [(0, .ref th), (1, .int a1)] := hl
  have i1 : ∀ w ∈ wsX10, w ∈ qsX1_begin := fun w h => hs w (pq_i1 w h)
  have kf11 := htw (.fieldLink RX1 11 "VoiceDesk$Band" "numbers" "[I") (pq_m3 _ (List.mem_of_getElem? (i := 10) rfl))
  have J2 : ∀ (fuel2 : Nat) (x1 : Int32) (x2 : Int32) (f_numbers : Nat → Int32) (H : Heap) (locs : List Loc), pq_H D A s (wX1_begin cI th th_numbers f_numbers) H locs → ∀ ls : Array Slot, lv_has ls 3 [(0, .ref th), (1, .int x1), (2, .int x2)] → fX1_begin_b2   fuel2 x1 x2 f_numbers = some res → W p l e (pq_rm 0 0) s m args below meth c H locs 0 0 Q (F0 m 2 ls []) := by
    intro fuel2
    induction fuel2 with
    | zero => intro x1 x2 f_numbers H locs hh ls hl hf; rw [fX1_begin_b2] at hf; cases hf
    | succ fuel2 ih2 =>
      intro x1 x2 f_numbers H locs hh ls hl hf
      rw [fX1_begin_b2] at hf
      refine lv_iload_n hx hb dX1_begin_2 rfl (lv_at hl 2 rfl) ?_
      refine lv_bipush (v := (23 : Int32)) hx hb dX1_begin_3 (by decide) ?_
      refine lv_icmp_ge (tgt := 21) hx hb dX1_begin_5 (by decide) (fun h1 => ?_) (fun h1 => ?_)
      · have hf := pq_brt hf h1
        refine lv_aload_n hx hb dX1_begin_21 rfl (lv_at hl 0 rfl) ?_
        refine pq_get C hh i1 0 1 rfl rfl 0 (by decide) kf11 rfl rfl dX1_begin_22 ?_
        refine lv_iconst (v := (1 : Int32)) hx hb dX1_begin_25 (by decide) ?_
        refine lv_iload_n hx hb dX1_begin_26 rfl (lv_at hl 1 rfl) ?_
        obtain ⟨h2, hf⟩ := pq_wrx hf
        refine pq_iast C hh 1 rfl h2 dX1_begin_27 (fun H locs f3 e4 (hh : pq_H D A s (wX1_begin cI th th_numbers f3) H locs) => ?_)
        have hf := hf f3 e4
        obtain rfl := Option.some.inj hf
        exact hret _ _ _ ls hh dX1_begin_28
      · have hf := pq_brf hf h1
        refine lv_aload_n hx hb dX1_begin_8 rfl (lv_at hl 0 rfl) ?_
        refine pq_get C hh i1 0 1 rfl rfl 0 (by decide) kf11 rfl rfl dX1_begin_9 ?_
        refine lv_iload_n hx hb dX1_begin_12 rfl (lv_at hl 2 rfl) ?_
        refine lv_iconst (v := (0 : Int32)) hx hb dX1_begin_13 (by decide) ?_
        obtain ⟨h5, hf⟩ := pq_wrx hf
        refine pq_iast C hh 1 rfl h5 dX1_begin_14 (fun H locs f6 e7 (hh : pq_H D A s (wX1_begin cI th th_numbers f6) H locs) => ?_)
        have hf := hf f6 e7
        obtain ⟨v8, e9⟩ : ∃ y : Int32, y = x2 + (1 : Int32) := ⟨_, rfl⟩
        refine lv_iinc (v := v8) (lv' := [(2, .int v8), (0, .ref th), (1, .int x1)]) hx hb dX1_begin_15 hl (k := 2) rfl (by rw [e9]; rfl) (by decide) rfl (fun ls hl => ?_)
        have hf := pq_nmx hf v8 e9
        refine lv_goto (tgt := 2) hx hb dX1_begin_18 (by decide) ?_
        exact ih2 x1 v8 f6 _ _ hh ls (lv_sub hl [1, 2, 0] rfl) hf
  rw [fX1_begin] at hf
  refine lv_iconst (v := (0 : Int32)) hx hb dX1_begin_0 (by decide) ?_
  refine lv_istore_n (lv' := [(2, .int (0 : Int32)), (0, .ref th), (1, .int a1)]) hx hb dX1_begin_1 rfl hl (by decide) rfl (fun ls hl => ?_)
  exact J2 1100 a1 (0 : Int32) f_numbers _ _ hh ls (lv_sub hl [1, 2, 0] rfl) hf
set_option maxHeartbeats 4000000 in
set_option maxRecDepth 100000 in
theorem qX1_number (l : Launch) (D : va_G) (cI cL : ClassId) (th : Nat) (th_numbers : Nat) (f_numbers : Nat → Int32) (a1 : Int32) (res : Int32) (hf : fX1_number a1 f_numbers = some res) : pq_CI l yX1_number qsX1_number 0 0 D cI cL [.ref th, .int a1] (wX1_number cI th th_numbers f_numbers) (wX1_number cI th th_numbers f_numbers) res := by
  refine pq_mkI (cc := cX1_number) (maxL := 2) (RT := .int) (by decide) rfl (Nat.le_of_ble_eq_true rfl) ?_
  intro p e s m args below meth c Q A C hh hret ls hl
  have hx := C.1
  have hb := C.2.1
  have hml := C.2.2.1
  have hown : s.vm.findClass RX1 = some m.cls := C.2.2.2.1
  have hs : ∀ w ∈ wsL_law, w ∈ qsX1_number := fun _ h => List.mem_cons_of_mem _ h
  have htw : ∀ w ∈ wsL_law, w.before args s = true := fun w h => C.2.2.2.2.1 w (hs w h)
  have hl : lv_has ls 2 [(0, .ref th), (1, .int a1)] := hl
  have i1 : ∀ w ∈ wsX10, w ∈ qsX1_number := fun w h => hs w (pq_i1 w h)
  have kc15 := htw (.constant RX1 15 (-100000)) (pq_m25 _ (List.mem_of_getElem? (i := 5) rfl))
  have kf11 := htw (.fieldLink RX1 11 "VoiceDesk$Band" "numbers" "[I") (pq_m3 _ (List.mem_of_getElem? (i := 10) rfl))
  have J10 : ∀ (H : Heap) (locs : List Loc), pq_H D A s (wX1_number cI th th_numbers f_numbers) H locs → ∀ ls : Array Slot, lv_has ls 2 [] → fX1_number_b10  f_numbers  = some res → W p l e (pq_rm 0 0) s m args below meth c H locs 0 0 Q (F0 m 10 ls []) := by
    intro  H locs hh ls hl hf
    rw [fX1_number_b10] at hf
    refine lv_ldc (v := (-100000 : Int32)) hx hb hown kc15 dX1_number_10 ?_
    refine lv_goto (tgt := 21) hx hb dX1_number_12 (by decide) ?_
    obtain rfl := Option.some.inj hf
    exact hret _ _ _ ls hh dX1_number_21 rfl
  rw [fX1_number] at hf
  refine lv_iload_n hx hb dX1_number_0 rfl (lv_at hl 1 rfl) ?_
  refine lv_if_lt (tgt := 10) hx hb dX1_number_1 (by decide) (fun h1 => ?_) (fun h1 => ?_)
  · have hf := pq_brt hf h1
    exact J10  _ _ hh ls (lv_sub hl [] rfl) hf
  · have hf := pq_brf hf h1
    refine lv_iload_n hx hb dX1_number_4 rfl (lv_at hl 1 rfl) ?_
    refine lv_bipush (v := (23 : Int32)) hx hb dX1_number_5 (by decide) ?_
    refine lv_icmp_lt (tgt := 15) hx hb dX1_number_7 (by decide) (fun h2 => ?_) (fun h2 => ?_)
    · have hf := pq_brt hf h2
      refine lv_aload_n hx hb dX1_number_15 rfl (lv_at hl 0 rfl) ?_
      refine pq_get C hh i1 0 1 rfl rfl 0 (by decide) kf11 rfl rfl dX1_number_16 ?_
      refine lv_iload_n hx hb dX1_number_19 rfl (lv_at hl 1 rfl) ?_
      obtain ⟨h3, hf⟩ := pq_rdx hf
      refine pq_iald C hh 1 rfl h3 dX1_number_20 (fun v4 e5 => ?_)
      have hf := hf v4 e5
      obtain rfl := Option.some.inj hf
      exact hret _ _ _ ls hh dX1_number_21 rfl
    · have hf := pq_brf hf h2
      exact J10  _ _ hh ls (lv_sub hl [] rfl) hf
set_option maxHeartbeats 4000000 in
set_option maxRecDepth 100000 in
theorem qX1_error (l : Launch) (D : va_G) (cI cL : ClassId) (th : Nat) (th_numbers : Nat) (f_numbers : Nat → Int32) (a1 : Int32) (res : Int32) (hf : fX1_error a1 f_numbers = some res) : pq_CI l yX1_error qsX1_error 1 20 D cI cL [.ref th, .int a1] (wX1_error cI th th_numbers f_numbers) (wX1_error cI th th_numbers f_numbers) res := by
  refine pq_mkI (cc := cX1_error) (maxL := 2) (RT := .int) (by decide) rfl (Nat.le_of_ble_eq_true rfl) ?_
  intro p e s m args below meth c Q A C hh hret ls hl
  have hx := C.1
  have hb := C.2.1
  have hml := C.2.2.1
  have hown : s.vm.findClass RX1 = some m.cls := C.2.2.2.1
  have hs : ∀ w ∈ wsL_law, w ∈ qsX1_error := fun _ h => List.mem_cons_of_mem _ h
  have htw : ∀ w ∈ wsL_law, w.before args s = true := fun w h => C.2.2.2.2.1 w (hs w h)
  have hl : lv_has ls 2 [(0, .ref th), (1, .int a1)] := hl
  have i1 : ∀ w ∈ wsX10, w ∈ qsX1_error := fun w h => hs w (pq_i1 w h)
  have kf11 := htw (.fieldLink RX1 11 "VoiceDesk$Band" "numbers" "[I") (pq_m3 _ (List.mem_of_getElem? (i := 10) rfl))
  have kiRX6 := htw (.initialized RX6) (pq_m1 _ (List.mem_of_getElem? (i := 2) rfl))
  have ks16 := htw (.static yX6_limited) (pq_m8 _ (List.mem_of_getElem? (i := 21) rfl))
  rw [fX1_error] at hf
  refine lv_iload_n hx hb dX1_error_0 rfl (lv_at hl 1 rfl) ?_
  refine lv_aload_n hx hb dX1_error_1 rfl (lv_at hl 0 rfl) ?_
  refine pq_get C hh i1 0 1 rfl rfl 0 (by decide) kf11 rfl rfl dX1_error_2 ?_
  refine lv_iconst (v := (2 : Int32)) hx hb dX1_error_5 (by decide) ?_
  obtain ⟨h1, hf⟩ := pq_rdx hf
  refine pq_iald C hh 1 rfl h1 dX1_error_6 (fun v2 e3 => ?_)
  have hf := hf v2 e3
  refine lv_isub hx hb dX1_error_7 ?_
  obtain ⟨r4, hu5, hf⟩ := pq_clx hf
  refine pq_cnI (n := 1) (As := [.int (a1 - v2)]) C hh (qX6_limited l D cI cL (a1 - v2) r4 hu5) (gnX6_limited hs) rfl (List.mem_of_getElem? (i := 5) rfl) ks16 kiRX6 (by decide +kernel) ⟨Nat.le_of_ble_eq_true rfl, Nat.le_of_ble_eq_true rfl⟩ hl.1 rfl rfl (Nat.le_of_ble_eq_true rfl) dX1_error_8 ⟨Nat.zero_le _, Nat.zero_le _⟩ [] [0, 1] [0, 1] rfl rfl (by decide) (by decide) (by decide) rfl (fun H locs (hh : pq_H D A s (wX1_error cI th th_numbers f_numbers) H locs) => ?_)
  obtain rfl := Option.some.inj hf
  exact hret _ _ _ ls hh dX1_error_11 rfl
set_option maxHeartbeats 4000000 in
set_option maxRecDepth 100000 in
theorem qX1_scaled (l : Launch) (D : va_G) (cI cL : ClassId) (th : Nat) (th_numbers : Nat) (f_numbers : Nat → Int32) (a1 : Int32) (res : Int32) (hf : fX1_scaled a1 f_numbers = some res) : pq_CI l yX1_scaled qsX1_scaled 0 0 D cI cL [.ref th, .int a1] (wX1_scaled cI th th_numbers f_numbers) (wX1_scaled cI th th_numbers f_numbers) res := by
  refine pq_mkI (cc := cX1_scaled) (maxL := 2) (RT := .int) (by decide) rfl (Nat.le_of_ble_eq_true rfl) ?_
  intro p e s m args below meth c Q A C hh hret ls hl
  have hx := C.1
  have hb := C.2.1
  have hml := C.2.2.1
  have hown : s.vm.findClass RX1 = some m.cls := C.2.2.2.1
  have hs : ∀ w ∈ wsL_law, w ∈ qsX1_scaled := fun _ h => List.mem_cons_of_mem _ h
  have htw : ∀ w ∈ wsL_law, w.before args s = true := fun w h => C.2.2.2.2.1 w (hs w h)
  have hl : lv_has ls 2 [(0, .ref th), (1, .int a1)] := hl
  have i1 : ∀ w ∈ wsX10, w ∈ qsX1_scaled := fun w h => hs w (pq_i1 w h)
  have kf11 := htw (.fieldLink RX1 11 "VoiceDesk$Band" "numbers" "[I") (pq_m3 _ (List.mem_of_getElem? (i := 10) rfl))
  rw [fX1_scaled] at hf
  refine lv_iload_n hx hb dX1_scaled_0 rfl (lv_at hl 1 rfl) ?_
  refine lv_aload_n hx hb dX1_scaled_1 rfl (lv_at hl 0 rfl) ?_
  refine pq_get C hh i1 0 1 rfl rfl 0 (by decide) kf11 rfl rfl dX1_scaled_2 ?_
  refine lv_iconst (v := (1 : Int32)) hx hb dX1_scaled_5 (by decide) ?_
  obtain ⟨h1, hf⟩ := pq_rdx hf
  refine pq_iald C hh 1 rfl h1 dX1_scaled_6 (fun v2 e3 => ?_)
  have hf := hf v2 e3
  refine lv_imul hx hb dX1_scaled_7 ?_
  refine lv_bipush (v := (12 : Int32)) hx hb dX1_scaled_8 (by decide) ?_
  refine lv_ishr hx hb dX1_scaled_10 ?_
  obtain rfl := Option.some.inj hf
  exact hret _ _ _ ls hh dX1_scaled_11 rfl
set_option maxHeartbeats 4000000 in
set_option maxRecDepth 100000 in
theorem qX1_difference (l : Launch) (D : va_G) (cI cL : ClassId) (th : Nat) (th_numbers : Nat) (f_numbers : Nat → Int32) (a1 : Int32) (res : Int32) (hf : fX1_difference a1 f_numbers = some res) : pq_CI l yX1_difference qsX1_difference 0 0 D cI cL [.ref th, .int a1] (wX1_difference cI th th_numbers f_numbers) (wX1_difference cI th th_numbers f_numbers) res := by
  refine pq_mkI (cc := cX1_difference) (maxL := 2) (RT := .int) (by decide) rfl (Nat.le_of_ble_eq_true rfl) ?_
  intro p e s m args below meth c Q A C hh hret ls hl
  have hx := C.1
  have hb := C.2.1
  have hml := C.2.2.1
  have hown : s.vm.findClass RX1 = some m.cls := C.2.2.2.1
  have hs : ∀ w ∈ wsL_law, w ∈ qsX1_difference := fun _ h => List.mem_cons_of_mem _ h
  have htw : ∀ w ∈ wsL_law, w.before args s = true := fun w h => C.2.2.2.2.1 w (hs w h)
  have hl : lv_has ls 2 [(0, .ref th), (1, .int a1)] := hl
  have i1 : ∀ w ∈ wsX10, w ∈ qsX1_difference := fun w h => hs w (pq_i1 w h)
  have kf11 := htw (.fieldLink RX1 11 "VoiceDesk$Band" "numbers" "[I") (pq_m3 _ (List.mem_of_getElem? (i := 10) rfl))
  rw [fX1_difference] at hf
  refine lv_aload_n hx hb dX1_difference_0 rfl (lv_at hl 0 rfl) ?_
  refine pq_get C hh i1 0 1 rfl rfl 0 (by decide) kf11 rfl rfl dX1_difference_1 ?_
  refine lv_iconst (v := (1 : Int32)) hx hb dX1_difference_4 (by decide) ?_
  obtain ⟨h1, hf⟩ := pq_rdx hf
  refine pq_iald C hh 1 rfl h1 dX1_difference_5 (fun v2 e3 => ?_)
  have hf := hf v2 e3
  refine lv_iload_n hx hb dX1_difference_6 rfl (lv_at hl 1 rfl) ?_
  refine lv_imul hx hb dX1_difference_7 ?_
  refine lv_bipush (v := (15 : Int32)) hx hb dX1_difference_8 (by decide) ?_
  refine lv_ishr hx hb dX1_difference_10 ?_
  obtain rfl := Option.some.inj hf
  exact hret _ _ _ ls hh dX1_difference_11 rfl
set_option maxHeartbeats 4000000 in
set_option maxRecDepth 100000 in
theorem qX1_heard (l : Launch) (D : va_G) (cI cL : ClassId) (th : Nat) (th_numbers : Nat) (f_numbers : Nat → Int32) (a1 : Int32) (res : Int32) (hf : fX1_heard a1 f_numbers = some res) : pq_CI l yX1_heard qsX1_heard 1 22 D cI cL [.ref th, .int a1] (wX1_heard cI th th_numbers f_numbers) (wX1_heard cI th th_numbers f_numbers) res := by
  refine pq_mkI (cc := cX1_heard) (maxL := 2) (RT := .int) (by decide) rfl (Nat.le_of_ble_eq_true rfl) ?_
  intro p e s m args below meth c Q A C hh hret ls hl
  have hx := C.1
  have hb := C.2.1
  have hml := C.2.2.1
  have hown : s.vm.findClass RX1 = some m.cls := C.2.2.2.1
  have hs : ∀ w ∈ wsL_law, w ∈ qsX1_heard := fun _ h => List.mem_cons_of_mem _ h
  have htw : ∀ w ∈ wsL_law, w.before args s = true := fun w h => C.2.2.2.2.1 w (hs w h)
  have hl : lv_has ls 2 [(0, .ref th), (1, .int a1)] := hl
  have i1 : ∀ w ∈ wsX10, w ∈ qsX1_heard := fun w h => hs w (pq_i1 w h)
  have kf11 := htw (.fieldLink RX1 11 "VoiceDesk$Band" "numbers" "[I") (pq_m3 _ (List.mem_of_getElem? (i := 10) rfl))
  have kiRX6 := htw (.initialized RX6) (pq_m1 _ (List.mem_of_getElem? (i := 2) rfl))
  have ks23 := htw (.static yX6_cut) (pq_m10 _ (List.mem_of_getElem? (i := 9) rfl))
  rw [fX1_heard] at hf
  refine lv_aload_n hx hb dX1_heard_0 rfl (lv_at hl 0 rfl) ?_
  refine pq_get C hh i1 0 1 rfl rfl 0 (by decide) kf11 rfl rfl dX1_heard_1 ?_
  refine lv_iconst (v := (2 : Int32)) hx hb dX1_heard_4 (by decide) ?_
  obtain ⟨h1, hf⟩ := pq_rdx hf
  refine pq_iald C hh 1 rfl h1 dX1_heard_5 (fun v2 e3 => ?_)
  have hf := hf v2 e3
  refine lv_aload_n hx hb dX1_heard_6 rfl (lv_at hl 0 rfl) ?_
  refine lv_iload_n hx hb dX1_heard_7 rfl (lv_at hl 1 rfl) ?_
  obtain ⟨r4, hu5, hf⟩ := pq_clx hf
  refine pq_cvI (n := 1) (As := [.int a1]) C hh (qX1_difference l D cI cL th th_numbers f_numbers a1 r4 hu5) (gvX1_difference hs (pq_m10 _ (List.mem_of_getElem? (i := 0) rfl))) rfl (by decide +kernel) ⟨Nat.le_of_ble_eq_true rfl, Nat.le_of_ble_eq_true rfl⟩ 0 1 rfl rfl rfl hl.1 rfl rfl (Nat.le_of_ble_eq_true rfl) dX1_heard_8 ⟨Nat.zero_le _, Nat.zero_le _⟩ [0, 1] [] [0, 1] rfl rfl (by decide) (by decide) (by decide) rfl (fun H locs (hh : pq_H D A s (wX1_heard cI th th_numbers f_numbers) H locs) => ?_)
  refine lv_iadd hx hb dX1_heard_11 ?_
  refine lv_sipush (v := (-16384 : Int32)) hx hb dX1_heard_12 (by decide) ?_
  refine lv_sipush (v := (16383 : Int32)) hx hb dX1_heard_15 (by decide) ?_
  obtain ⟨r6, hu7, hf⟩ := pq_clx hf
  refine pq_cnI (n := 3) (As := [.int (v2 + r4), .int (-16384 : Int32), .int (16383 : Int32)]) C hh (qX6_cut l D cI cL (v2 + r4) (-16384 : Int32) (16383 : Int32) r6 hu7) (gnX6_cut hs) rfl (List.mem_of_getElem? (i := 6) rfl) ks23 kiRX6 (by decide +kernel) ⟨Nat.le_of_ble_eq_true rfl, Nat.le_of_ble_eq_true rfl⟩ hl.1 rfl rfl (Nat.le_of_ble_eq_true rfl) dX1_heard_18 ⟨Nat.zero_le _, Nat.zero_le _⟩ [] [0, 1] [0, 1] rfl rfl (by decide) (by decide) (by decide) rfl (fun H locs (hh : pq_H D A s (wX1_heard cI th th_numbers f_numbers) H locs) => ?_)
  obtain rfl := Option.some.inj hf
  exact hret _ _ _ ls hh dX1_heard_21 rfl
set_option maxHeartbeats 4000000 in
set_option maxRecDepth 100000 in
theorem qX1_adaptScale (l : Launch) (D : va_G) (cI cL : ClassId) (th : Nat) (th_numbers : Nat) (f_numbers : Nat → Int32) (a1 : Int32) (a2 : Int32) (a3 : Int32) (res : (Nat → Int32)) (hf : fX1_adaptScale a1 a2 a3 f_numbers = some res) : pq_CV l yX1_adaptScale qsX1_adaptScale 1 22 D cI cL [.ref th, .int a1, .int a2, .int a3] (wX1_adaptScale cI th th_numbers f_numbers) (wX1_adaptScale cI th th_numbers res) := by
  refine pq_mkV (cc := cX1_adaptScale) (maxL := 7) (by decide) rfl (Nat.le_of_ble_eq_true rfl) ?_
  intro p e s m args below meth c Q A C hh hret ls hl
  have hx := C.1
  have hb := C.2.1
  have hml := C.2.2.1
  have hown : s.vm.findClass RX1 = some m.cls := C.2.2.2.1
  have hs : ∀ w ∈ wsL_law, w ∈ qsX1_adaptScale := fun _ h => List.mem_cons_of_mem _ h
  have htw : ∀ w ∈ wsL_law, w.before args s = true := fun w h => C.2.2.2.2.1 w (hs w h)
  have hl : lv_has ls 7 [(0, .ref th), (1, .int a1), (2, .int a2), (3, .int a3)] := hl
  have i1 : ∀ w ∈ wsX10, w ∈ qsX1_adaptScale := fun w h => hs w (pq_i1 w h)
  have kf11 := htw (.fieldLink RX1 11 "VoiceDesk$Band" "numbers" "[I") (pq_m3 _ (List.mem_of_getElem? (i := 10) rfl))
  have kf45 := htw (.fieldLink RX1 45 "VoiceDesk$Band" "ROOTS" "[I") (pq_m10 _ (List.mem_of_getElem? (i := 8) rfl))
  have kiRX6 := htw (.initialized RX6) (pq_m1 _ (List.mem_of_getElem? (i := 2) rfl))
  have ks23 := htw (.static yX6_cut) (pq_m10 _ (List.mem_of_getElem? (i := 9) rfl))
  obtain ⟨t4, z4, T4⟩ := pq_tab C 4 rfl
  have J77 : ∀ (s1 : Int32) (s2 : Int32) (s3 : Int32) (f_numbers : Nat → Int32) (H : Heap) (locs : List Loc), pq_H D A s (wX1_adaptScale cI th th_numbers f_numbers) H locs → ∀ ls : Array Slot, lv_has ls 7 [] → fX1_adaptScale_b77   s1 s2 s3 f_numbers = some res → W p l e (pq_rm 1 22) s m args below meth c H locs 0 0 Q (F0 m 77 ls [.int s3, .int s2, .int s1, .ref th_numbers]) := by
    intro s1 s2 s3 f_numbers H locs hh ls hl hf
    rw [fX1_adaptScale_b77] at hf
    refine lv_imul hx hb dX1_adaptScale_77 ?_
    obtain ⟨h15, hf⟩ := pq_wrx hf
    refine pq_iast C hh 1 rfl h15 dX1_adaptScale_78 (fun H locs f16 e17 (hh : pq_H D A s (wX1_adaptScale cI th th_numbers f16) H locs) => ?_)
    have hf := hf f16 e17
    obtain rfl := Option.some.inj hf
    exact hret _ _ _ ls hh dX1_adaptScale_79
  rw [fX1_adaptScale] at hf
  refine lv_bipush (v := (127 : Int32)) hx hb dX1_adaptScale_0 (by decide) ?_
  refine lv_aload_n hx hb dX1_adaptScale_2 rfl (lv_at hl 0 rfl) ?_
  refine pq_get C hh i1 0 1 rfl rfl 0 (by decide) kf11 rfl rfl dX1_adaptScale_3 ?_
  refine lv_iconst (v := (0 : Int32)) hx hb dX1_adaptScale_6 (by decide) ?_
  obtain ⟨h1, hf⟩ := pq_rdx hf
  refine pq_iald C hh 1 rfl h1 dX1_adaptScale_7 (fun v2 e3 => ?_)
  have hf := hf v2 e3
  refine lv_imul hx hb dX1_adaptScale_8 ?_
  refine lv_bipush (v := (7 : Int32)) hx hb dX1_adaptScale_9 (by decide) ?_
  refine lv_ishr hx hb dX1_adaptScale_11 ?_
  refine lv_iload_n hx hb dX1_adaptScale_12 rfl (lv_at hl 1 rfl) ?_
  refine lv_iadd hx hb dX1_adaptScale_13 ?_
  refine lv_iconst (v := (0 : Int32)) hx hb dX1_adaptScale_14 (by decide) ?_
  refine lv_iload_n hx hb dX1_adaptScale_15 rfl (lv_at hl 2 rfl) ?_
  obtain ⟨r4, hu5, hf⟩ := pq_clx hf
  refine pq_cnI (n := 3) (As := [.int ((((127 : Int32) * v2) >>> ((7 : Int32) &&& 31)) + a1), .int (0 : Int32), .int a2]) C hh (qX6_cut l D cI cL ((((127 : Int32) * v2) >>> ((7 : Int32) &&& 31)) + a1) (0 : Int32) a2 r4 hu5) (gnX6_cut hs) rfl (List.mem_of_getElem? (i := 6) rfl) ks23 kiRX6 (by decide +kernel) ⟨Nat.le_of_ble_eq_true rfl, Nat.le_of_ble_eq_true rfl⟩ hl.1 rfl rfl (Nat.le_of_ble_eq_true rfl) dX1_adaptScale_16 ⟨Nat.zero_le _, Nat.zero_le _⟩ [] [0, 1] [0, 1] rfl rfl (by decide) (by decide) (by decide) rfl (fun H locs (hh : pq_H D A s (wX1_adaptScale cI th th_numbers f_numbers) H locs) => ?_)
  refine lv_istore (lv' := [(4, .int r4), (0, .ref th), (1, .int a1), (2, .int a2), (3, .int a3)]) hx hb dX1_adaptScale_19 hl (by decide) rfl (fun ls hl => ?_)
  refine pq_gets C hh z4 kf45 dX1_adaptScale_21 ?_
  refine lv_iload hx hb dX1_adaptScale_24 (lv_at hl 0 rfl) ?_
  refine lv_bipush (v := (6 : Int32)) hx hb dX1_adaptScale_26 (by decide) ?_
  refine lv_ishr hx hb dX1_adaptScale_28 ?_
  refine lv_bipush (v := (31 : Int32)) hx hb dX1_adaptScale_29 (by decide) ?_
  refine lv_iand hx hb dX1_adaptScale_31 ?_
  obtain ⟨h6, hf⟩ := pq_rdx hf
  refine pq_ti C hh T4 h6 dX1_adaptScale_32 (fun v7 e8 => ?_)
  have hf := hf v7 e8
  refine lv_istore (lv' := [(5, .int v7), (4, .int r4), (0, .ref th), (1, .int a1), (2, .int a2), (3, .int a3)]) hx hb dX1_adaptScale_33 hl (by decide) rfl (fun ls hl => ?_)
  refine lv_iload_n hx hb dX1_adaptScale_35 rfl (lv_at hl 5 rfl) ?_
  refine lv_iload hx hb dX1_adaptScale_36 (lv_at hl 1 rfl) ?_
  refine lv_bipush (v := (11 : Int32)) hx hb dX1_adaptScale_38 (by decide) ?_
  refine lv_ishr hx hb dX1_adaptScale_40 ?_
  refine lv_isub hx hb dX1_adaptScale_41 ?_
  refine lv_topi (fun v9 e10 => ?_)
  have hf := pq_nmx hf v9 e10
  refine lv_istore (lv' := [(6, .int v9), (5, .int v7), (4, .int r4), (0, .ref th), (1, .int a1), (2, .int a2), (3, .int a3)]) hx hb dX1_adaptScale_42 hl (by decide) rfl (fun ls hl => ?_)
  refine lv_aload_n hx hb dX1_adaptScale_44 rfl (lv_at hl 3 rfl) ?_
  refine pq_get C hh i1 0 1 rfl rfl 0 (by decide) kf11 rfl rfl dX1_adaptScale_45 ?_
  refine lv_iconst (v := (0 : Int32)) hx hb dX1_adaptScale_48 (by decide) ?_
  refine lv_iload hx hb dX1_adaptScale_49 (lv_at hl 2 rfl) ?_
  obtain ⟨h11, hf⟩ := pq_wrx hf
  refine pq_iast C hh 1 rfl h11 dX1_adaptScale_51 (fun H locs f12 e13 (hh : pq_H D A s (wX1_adaptScale cI th th_numbers f12) H locs) => ?_)
  have hf := hf f12 e13
  refine lv_aload_n hx hb dX1_adaptScale_52 rfl (lv_at hl 3 rfl) ?_
  refine pq_get C hh i1 0 1 rfl rfl 0 (by decide) kf11 rfl rfl dX1_adaptScale_53 ?_
  refine lv_iconst (v := (1 : Int32)) hx hb dX1_adaptScale_56 (by decide) ?_
  refine lv_iconst (v := (4 : Int32)) hx hb dX1_adaptScale_57 (by decide) ?_
  refine lv_iload hx hb dX1_adaptScale_58 (lv_at hl 0 rfl) ?_
  refine lv_if_ge (tgt := 72) hx hb dX1_adaptScale_60 (by decide) (fun h14 => ?_) (fun h14 => ?_)
  · have hf := pq_brt hf h14
    refine lv_iload hx hb dX1_adaptScale_72 (lv_at hl 1 rfl) ?_
    refine lv_iload hx hb dX1_adaptScale_74 (lv_at hl 0 rfl) ?_
    refine lv_ishr hx hb dX1_adaptScale_76 ?_
    exact J77 (1 : Int32) (4 : Int32) (v7 >>> (v9 &&& 31)) f12 _ _ hh ls (lv_sub hl [] rfl) hf
  · have hf := pq_brf hf h14
    refine lv_iload hx hb dX1_adaptScale_63 (lv_at hl 1 rfl) ?_
    refine lv_iload hx hb dX1_adaptScale_65 (lv_at hl 0 rfl) ?_
    refine lv_ineg hx hb dX1_adaptScale_67 ?_
    refine lv_ishl hx hb dX1_adaptScale_68 ?_
    refine lv_goto (tgt := 77) hx hb dX1_adaptScale_69 (by decide) ?_
    exact J77 (1 : Int32) (4 : Int32) (v7 <<< ((-v9) &&& 31)) f12 _ _ hh ls (lv_sub hl [] rfl) hf
set_option maxHeartbeats 4000000 in
set_option maxRecDepth 100000 in
theorem qX1_adaptPoles (l : Launch) (D : va_G) (cI cL : ClassId) (th : Nat) (th_numbers : Nat) (f_numbers : Nat → Int32) (a1 : Int32) (res : (Nat → Int32)) (hf : fX1_adaptPoles a1 f_numbers = some res) : pq_CV l yX1_adaptPoles qsX1_adaptPoles 1 22 D cI cL [.ref th, .int a1] (wX1_adaptPoles cI th th_numbers f_numbers) (wX1_adaptPoles cI th th_numbers res) := by
  refine pq_mkV (cc := cX1_adaptPoles) (maxL := 8) (by decide) rfl (Nat.le_of_ble_eq_true rfl) ?_
  intro p e s m args below meth c Q A C hh hret ls hl
  have hx := C.1
  have hb := C.2.1
  have hml := C.2.2.1
  have hown : s.vm.findClass RX1 = some m.cls := C.2.2.2.1
  have hs : ∀ w ∈ wsL_law, w ∈ qsX1_adaptPoles := fun _ h => List.mem_cons_of_mem _ h
  have htw : ∀ w ∈ wsL_law, w.before args s = true := fun w h => C.2.2.2.2.1 w (hs w h)
  have hl : lv_has ls 8 [(0, .ref th), (1, .int a1)] := hl
  have i1 : ∀ w ∈ wsX10, w ∈ qsX1_adaptPoles := fun w h => hs w (pq_i1 w h)
  have kf11 := htw (.fieldLink RX1 11 "VoiceDesk$Band" "numbers" "[I") (pq_m3 _ (List.mem_of_getElem? (i := 10) rfl))
  have kiRX6 := htw (.initialized RX6) (pq_m1 _ (List.mem_of_getElem? (i := 2) rfl))
  have kim := htw (.initialized "java/lang/Math") (pq_m10 _ (List.mem_of_getElem? (i := 17) rfl))
  have kk51 := htw (.code Lib.Math.min.name Lib.Math.min.code 2 (some .int)) (pq_m10 _ (List.mem_of_getElem? (i := 18) rfl))
  have km51 := htw (.methodLink RX1 51 Lib.Math.min.name) (pq_m10 _ (List.mem_of_getElem? (i := 15) rfl))
  have ks16 := htw (.static yX6_limited) (pq_m8 _ (List.mem_of_getElem? (i := 21) rfl))
  have ks23 := htw (.static yX6_cut) (pq_m10 _ (List.mem_of_getElem? (i := 9) rfl))
  have ks48 := htw (.static yX6_sign) (pq_m10 _ (List.mem_of_getElem? (i := 19) rfl))
  have ks51 := htw (.static Lib.Math.min.name) (pq_m10 _ (List.mem_of_getElem? (i := 16) rfl))
  have J140 : ∀ (s0 : Int32) (f_numbers : Nat → Int32) (H : Heap) (locs : List Loc), pq_H D A s (wX1_adaptPoles cI th th_numbers f_numbers) H locs → ∀ ls : Array Slot, lv_has ls 8 [(0, .ref th)] → fX1_adaptPoles_b140   s0 f_numbers = some res → W p l e (pq_rm 1 22) s m args below meth c H locs 0 0 Q (F0 m 140 ls [.int s0]) := by
    intro s0 f_numbers H locs hh ls hl hf
    rw [fX1_adaptPoles_b140] at hf
    refine lv_aload_n hx hb dX1_adaptPoles_140 rfl (lv_at hl 0 rfl) ?_
    refine pq_get C hh i1 0 1 rfl rfl 0 (by decide) kf11 rfl rfl dX1_adaptPoles_141 ?_
    refine lv_iconst (v := (5 : Int32)) hx hb dX1_adaptPoles_144 (by decide) ?_
    obtain ⟨h37, hf⟩ := pq_rdx hf
    refine pq_iald C hh 1 rfl h37 dX1_adaptPoles_145 (fun v38 e39 => ?_)
    have hf := hf v38 e39
    refine lv_sipush (v := (32640 : Int32)) hx hb dX1_adaptPoles_146 (by decide) ?_
    refine lv_imul hx hb dX1_adaptPoles_149 ?_
    refine lv_bipush (v := (15 : Int32)) hx hb dX1_adaptPoles_150 (by decide) ?_
    refine lv_ishr hx hb dX1_adaptPoles_152 ?_
    refine lv_iadd hx hb dX1_adaptPoles_153 ?_
    obtain ⟨r40, hu41, hf⟩ := pq_clx hf
    refine pq_cnI (n := 1) (As := [.int (s0 + ((v38 * (32640 : Int32)) >>> ((15 : Int32) &&& 31)))]) C hh (qX6_limited l D cI cL (s0 + ((v38 * (32640 : Int32)) >>> ((15 : Int32) &&& 31))) r40 hu41) (gnX6_limited hs) rfl (List.mem_of_getElem? (i := 5) rfl) ks16 kiRX6 (by decide +kernel) ⟨Nat.le_of_ble_eq_true rfl, Nat.le_of_ble_eq_true rfl⟩ hl.1 rfl rfl (Nat.le_of_ble_eq_true rfl) dX1_adaptPoles_154 ⟨Nat.zero_le _, Nat.zero_le _⟩ [] [0, 1] [0, 1] rfl rfl (by decide) (by decide) (by decide) rfl (fun H locs (hh : pq_H D A s (wX1_adaptPoles cI th th_numbers f_numbers) H locs) => ?_)
    refine lv_istore (lv' := [(6, .int r40), (0, .ref th)]) hx hb dX1_adaptPoles_157 hl (by decide) rfl (fun ls hl => ?_)
    refine lv_sipush (v := (15360 : Int32)) hx hb dX1_adaptPoles_159 (by decide) ?_
    refine lv_aload_n hx hb dX1_adaptPoles_162 rfl (lv_at hl 1 rfl) ?_
    refine pq_get C hh i1 0 1 rfl rfl 0 (by decide) kf11 rfl rfl dX1_adaptPoles_163 ?_
    refine lv_bipush (v := (6 : Int32)) hx hb dX1_adaptPoles_166 (by decide) ?_
    obtain ⟨h42, hf⟩ := pq_rdx hf
    refine pq_iald C hh 1 rfl h42 dX1_adaptPoles_168 (fun v43 e44 => ?_)
    have hf := hf v43 e44
    refine lv_isub hx hb dX1_adaptPoles_169 ?_
    refine lv_topi (fun v45 e46 => ?_)
    have hf := pq_nmx hf v45 e46
    refine lv_istore (lv' := [(7, .int v45), (6, .int r40), (0, .ref th)]) hx hb dX1_adaptPoles_170 hl (by decide) rfl (fun ls hl => ?_)
    refine lv_aload_n hx hb dX1_adaptPoles_172 rfl (lv_at hl 2 rfl) ?_
    refine pq_get C hh i1 0 1 rfl rfl 0 (by decide) kf11 rfl rfl dX1_adaptPoles_173 ?_
    refine lv_iconst (v := (5 : Int32)) hx hb dX1_adaptPoles_176 (by decide) ?_
    refine lv_iload hx hb dX1_adaptPoles_177 (lv_at hl 1 rfl) ?_
    refine lv_iload hx hb dX1_adaptPoles_179 (lv_at hl 0 rfl) ?_
    refine lv_ineg hx hb dX1_adaptPoles_181 ?_
    refine lv_iload hx hb dX1_adaptPoles_182 (lv_at hl 0 rfl) ?_
    obtain ⟨r47, hu48, hf⟩ := pq_clx hf
    refine pq_cnI (n := 3) (As := [.int r40, .int (-v45), .int v45]) C hh (qX6_cut l D cI cL r40 (-v45) v45 r47 hu48) (gnX6_cut hs) rfl (List.mem_of_getElem? (i := 6) rfl) ks23 kiRX6 (by decide +kernel) ⟨Nat.le_of_ble_eq_true rfl, Nat.le_of_ble_eq_true rfl⟩ hl.1 rfl rfl (Nat.le_of_ble_eq_true rfl) dX1_adaptPoles_184 ⟨Nat.zero_le _, Nat.zero_le _⟩ [] [0, 1] [0, 1] rfl rfl (by decide) (by decide) (by decide) rfl (fun H locs (hh : pq_H D A s (wX1_adaptPoles cI th th_numbers f_numbers) H locs) => ?_)
    obtain ⟨h49, hf⟩ := pq_wrx hf
    refine pq_iast C hh 1 rfl h49 dX1_adaptPoles_187 (fun H locs f50 e51 (hh : pq_H D A s (wX1_adaptPoles cI th th_numbers f50) H locs) => ?_)
    have hf := hf f50 e51
    obtain rfl := Option.some.inj hf
    exact hret _ _ _ ls hh dX1_adaptPoles_188
  have J86 : ∀ (x2 : Int32) (x4 : Int32) (s0 : Int32) (f_numbers : Nat → Int32) (H : Heap) (locs : List Loc), pq_H D A s (wX1_adaptPoles cI th th_numbers f_numbers) H locs → ∀ ls : Array Slot, lv_has ls 8 [(0, .ref th), (2, .int x2), (4, .int x4)] → fX1_adaptPoles_b86   x2 x4 s0 f_numbers = some res → W p l e (pq_rm 1 22) s m args below meth c H locs 0 0 Q (F0 m 86 ls [.int s0]) := by
    intro x2 x4 s0 f_numbers H locs hh ls hl hf
    rw [fX1_adaptPoles_b86] at hf
    refine lv_iload hx hb dX1_adaptPoles_86 (lv_at hl 2 rfl) ?_
    refine lv_bipush (v := (7 : Int32)) hx hb dX1_adaptPoles_88 (by decide) ?_
    refine lv_ishr hx hb dX1_adaptPoles_90 ?_
    refine lv_iadd hx hb dX1_adaptPoles_91 ?_
    refine lv_aload_n hx hb dX1_adaptPoles_92 rfl (lv_at hl 0 rfl) ?_
    refine pq_get C hh i1 0 1 rfl rfl 0 (by decide) kf11 rfl rfl dX1_adaptPoles_93 ?_
    refine lv_bipush (v := (6 : Int32)) hx hb dX1_adaptPoles_96 (by decide) ?_
    obtain ⟨h26, hf⟩ := pq_rdx hf
    refine pq_iald C hh 1 rfl h26 dX1_adaptPoles_98 (fun v27 e28 => ?_)
    have hf := hf v27 e28
    refine lv_sipush (v := (32512 : Int32)) hx hb dX1_adaptPoles_99 (by decide) ?_
    refine lv_imul hx hb dX1_adaptPoles_102 ?_
    refine lv_bipush (v := (15 : Int32)) hx hb dX1_adaptPoles_103 (by decide) ?_
    refine lv_ishr hx hb dX1_adaptPoles_105 ?_
    refine lv_iadd hx hb dX1_adaptPoles_106 ?_
    refine lv_topi (fun v29 e30 => ?_)
    have hf := pq_nmx hf v29 e30
    refine lv_istore (lv' := [(5, .int v29), (0, .ref th), (2, .int x2), (4, .int x4)]) hx hb dX1_adaptPoles_107 hl (by decide) rfl (fun ls hl => ?_)
    refine lv_aload_n hx hb dX1_adaptPoles_109 rfl (lv_at hl 1 rfl) ?_
    refine pq_get C hh i1 0 1 rfl rfl 0 (by decide) kf11 rfl rfl dX1_adaptPoles_110 ?_
    refine lv_bipush (v := (6 : Int32)) hx hb dX1_adaptPoles_113 (by decide) ?_
    refine lv_iload hx hb dX1_adaptPoles_115 (lv_at hl 0 rfl) ?_
    refine lv_sipush (v := (-12288 : Int32)) hx hb dX1_adaptPoles_117 (by decide) ?_
    refine lv_sipush (v := (12288 : Int32)) hx hb dX1_adaptPoles_120 (by decide) ?_
    obtain ⟨r31, hu32, hf⟩ := pq_clx hf
    refine pq_cnI (n := 3) (As := [.int v29, .int (-12288 : Int32), .int (12288 : Int32)]) C hh (qX6_cut l D cI cL v29 (-12288 : Int32) (12288 : Int32) r31 hu32) (gnX6_cut hs) rfl (List.mem_of_getElem? (i := 6) rfl) ks23 kiRX6 (by decide +kernel) ⟨Nat.le_of_ble_eq_true rfl, Nat.le_of_ble_eq_true rfl⟩ hl.1 rfl rfl (Nat.le_of_ble_eq_true rfl) dX1_adaptPoles_123 ⟨Nat.zero_le _, Nat.zero_le _⟩ [] [0, 1] [0, 1] rfl rfl (by decide) (by decide) (by decide) rfl (fun H locs (hh : pq_H D A s (wX1_adaptPoles cI th th_numbers f_numbers) H locs) => ?_)
    obtain ⟨h33, hf⟩ := pq_wrx hf
    refine pq_iast C hh 1 rfl h33 dX1_adaptPoles_126 (fun H locs f34 e35 (hh : pq_H D A s (wX1_adaptPoles cI th th_numbers f34) H locs) => ?_)
    have hf := hf f34 e35
    refine lv_iload_n hx hb dX1_adaptPoles_127 rfl (lv_at hl 2 rfl) ?_
    refine lv_if_eq (tgt := 137) hx hb dX1_adaptPoles_128 (by decide) (fun h36 => ?_) (fun h36 => ?_)
    · have hf := pq_brt hf h36
      refine lv_sipush (v := (-192 : Int32)) hx hb dX1_adaptPoles_137 (by decide) ?_
      exact J140 (-192 : Int32) f34 _ _ hh ls (lv_sub hl [1] rfl) hf
    · have hf := pq_brf hf h36
      refine lv_sipush (v := (192 : Int32)) hx hb dX1_adaptPoles_131 (by decide) ?_
      refine lv_goto (tgt := 140) hx hb dX1_adaptPoles_134 (by decide) ?_
      exact J140 (192 : Int32) f34 _ _ hh ls (lv_sub hl [1] rfl) hf
  have J74 : ∀ (x2 : Int32) (x3 : Int32) (x4 : Int32) (f_numbers : Nat → Int32) (H : Heap) (locs : List Loc), pq_H D A s (wX1_adaptPoles cI th th_numbers f_numbers) H locs → ∀ ls : Array Slot, lv_has ls 8 [(0, .ref th), (2, .int x2), (3, .int x3), (4, .int x4)] → fX1_adaptPoles_b74   x2 x3 x4 f_numbers = some res → W p l e (pq_rm 1 22) s m args below meth c H locs 0 0 Q (F0 m 74 ls []) := by
    intro x2 x3 x4 f_numbers H locs hh ls hl hf
    rw [fX1_adaptPoles_b74] at hf
    refine lv_iload_n hx hb dX1_adaptPoles_74 rfl (lv_at hl 2 rfl) ?_
    refine lv_if_eq (tgt := 84) hx hb dX1_adaptPoles_75 (by decide) (fun h25 => ?_) (fun h25 => ?_)
    · have hf := pq_brt hf h25
      refine lv_bipush (v := (-128 : Int32)) hx hb dX1_adaptPoles_84 (by decide) ?_
      exact J86 x2 x4 (-128 : Int32) f_numbers _ _ hh ls (lv_sub hl [0, 1, 3] rfl) hf
    · have hf := pq_brf hf h25
      refine lv_sipush (v := (128 : Int32)) hx hb dX1_adaptPoles_78 (by decide) ?_
      refine lv_goto (tgt := 86) hx hb dX1_adaptPoles_81 (by decide) ?_
      exact J86 x2 x4 (128 : Int32) f_numbers _ _ hh ls (lv_sub hl [0, 1, 3] rfl) hf
  have J45 : ∀ (x2 : Int32) (s0 : Int32) (f_numbers : Nat → Int32) (H : Heap) (locs : List Loc), pq_H D A s (wX1_adaptPoles cI th th_numbers f_numbers) H locs → ∀ ls : Array Slot, lv_has ls 8 [(0, .ref th), (2, .int x2)] → fX1_adaptPoles_b45   x2 s0 f_numbers = some res → W p l e (pq_rm 1 22) s m args below meth c H locs 0 0 Q (F0 m 45 ls [.int s0]) := by
    intro x2 s0 f_numbers H locs hh ls hl hf
    rw [fX1_adaptPoles_b45] at hf
    refine lv_istore_n (lv' := [(3, .int s0), (0, .ref th), (2, .int x2)]) hx hb dX1_adaptPoles_45 rfl hl (by decide) rfl (fun ls hl => ?_)
    refine lv_iconst (v := (4 : Int32)) hx hb dX1_adaptPoles_46 (by decide) ?_
    refine lv_aload_n hx hb dX1_adaptPoles_47 rfl (lv_at hl 1 rfl) ?_
    refine pq_get C hh i1 0 1 rfl rfl 0 (by decide) kf11 rfl rfl dX1_adaptPoles_48 ?_
    refine lv_iconst (v := (5 : Int32)) hx hb dX1_adaptPoles_51 (by decide) ?_
    obtain ⟨h17, hf⟩ := pq_rdx hf
    refine pq_iald C hh 1 rfl h17 dX1_adaptPoles_52 (fun v18 e19 => ?_)
    have hf := hf v18 e19
    refine lv_imul hx hb dX1_adaptPoles_53 ?_
    obtain ⟨r20, hu21, hf⟩ := pq_clx hf
    refine pq_cnI (n := 1) (As := [.int ((4 : Int32) * v18)]) C hh (qX6_limited l D cI cL ((4 : Int32) * v18) r20 hu21) (gnX6_limited hs) rfl (List.mem_of_getElem? (i := 5) rfl) ks16 kiRX6 (by decide +kernel) ⟨Nat.le_of_ble_eq_true rfl, Nat.le_of_ble_eq_true rfl⟩ hl.1 rfl rfl (Nat.le_of_ble_eq_true rfl) dX1_adaptPoles_54 ⟨Nat.zero_le _, Nat.zero_le _⟩ [] [0, 1] [0, 1] rfl rfl (by decide) (by decide) (by decide) rfl (fun H locs (hh : pq_H D A s (wX1_adaptPoles cI th th_numbers f_numbers) H locs) => ?_)
    refine lv_istore (lv' := [(4, .int r20), (3, .int s0), (0, .ref th), (2, .int x2)]) hx hb dX1_adaptPoles_57 hl (by decide) rfl (fun ls hl => ?_)
    refine lv_iload_n hx hb dX1_adaptPoles_59 rfl (lv_at hl 3 rfl) ?_
    refine lv_if_eq (tgt := 74) hx hb dX1_adaptPoles_60 (by decide) (fun h22 => ?_) (fun h22 => ?_)
    · have hf := pq_brt hf h22
      exact J74 x2 s0 r20 f_numbers _ _ hh ls (lv_sub hl [2, 3, 1, 0] rfl) hf
    · have hf := pq_brf hf h22
      refine lv_iload hx hb dX1_adaptPoles_63 (lv_at hl 0 rfl) ?_
      refine lv_ineg hx hb dX1_adaptPoles_65 ?_
      refine lv_sipush (v := (32767 : Int32)) hx hb dX1_adaptPoles_66 (by decide) ?_
      refine va_mmin hx hb (by rw [hml]; exact hl.1.symm) hown km51 ks51 kim kk51 (Nat.le_of_ble_eq_true rfl) (Nat.le_of_ble_eq_true rfl) (Nat.zero_le _) (Nat.zero_le _) dX1_adaptPoles_69 ?_
      refine lv_topi (fun v23 e24 => ?_)
      have hf := pq_nmx hf v23 e24
      refine lv_istore (lv' := [(4, .int v23), (3, .int s0), (0, .ref th), (2, .int x2)]) hx hb dX1_adaptPoles_72 hl (by decide) rfl (fun ls hl => ?_)
      exact J74 x2 s0 v23 f_numbers _ _ hh ls (lv_sub hl [2, 3, 1, 0] rfl) hf
  have J22 : ∀ (x1 : Int32) (s0 : Int32) (f_numbers : Nat → Int32) (H : Heap) (locs : List Loc), pq_H D A s (wX1_adaptPoles cI th th_numbers f_numbers) H locs → ∀ ls : Array Slot, lv_has ls 8 [(0, .ref th), (1, .int x1)] → fX1_adaptPoles_b22   x1 s0 f_numbers = some res → W p l e (pq_rm 1 22) s m args below meth c H locs 0 0 Q (F0 m 22 ls [.int s0]) := by
    intro x1 s0 f_numbers H locs hh ls hl hf
    rw [fX1_adaptPoles_b22] at hf
    refine lv_istore_n (lv' := [(2, .int s0), (0, .ref th), (1, .int x1)]) hx hb dX1_adaptPoles_22 rfl hl (by decide) rfl (fun ls hl => ?_)
    refine lv_iload_n hx hb dX1_adaptPoles_23 rfl (lv_at hl 2 rfl) ?_
    obtain ⟨r9, hu10, hf⟩ := pq_clx hf
    refine pq_cnI (n := 1) (As := [.int x1]) C hh (qX6_sign l D cI cL x1 r9 hu10) (gnX6_sign hs) rfl (List.mem_of_getElem? (i := 7) rfl) ks48 kiRX6 (by decide +kernel) ⟨Nat.le_of_ble_eq_true rfl, Nat.le_of_ble_eq_true rfl⟩ hl.1 rfl rfl (Nat.le_of_ble_eq_true rfl) dX1_adaptPoles_24 ⟨Nat.zero_le _, Nat.zero_le _⟩ [] [0, 1] [0, 1] rfl rfl (by decide) (by decide) (by decide) rfl (fun H locs (hh : pq_H D A s (wX1_adaptPoles cI th th_numbers f_numbers) H locs) => ?_)
    refine lv_aload_n hx hb dX1_adaptPoles_27 rfl (lv_at hl 1 rfl) ?_
    refine pq_get C hh i1 0 1 rfl rfl 0 (by decide) kf11 rfl rfl dX1_adaptPoles_28 ?_
    refine lv_bipush (v := (16 : Int32)) hx hb dX1_adaptPoles_31 (by decide) ?_
    obtain ⟨h11, hf⟩ := pq_rdx hf
    refine pq_iald C hh 1 rfl h11 dX1_adaptPoles_33 (fun v12 e13 => ?_)
    have hf := hf v12 e13
    obtain ⟨r14, hu15, hf⟩ := pq_clx hf
    refine pq_cnI (n := 1) (As := [.int v12]) C hh (qX6_sign l D cI cL v12 r14 hu15) (gnX6_sign hs) rfl (List.mem_of_getElem? (i := 7) rfl) ks48 kiRX6 (by decide +kernel) ⟨Nat.le_of_ble_eq_true rfl, Nat.le_of_ble_eq_true rfl⟩ hl.1 rfl rfl (Nat.le_of_ble_eq_true rfl) dX1_adaptPoles_34 ⟨Nat.zero_le _, Nat.zero_le _⟩ [] [0, 1] [0, 1] rfl rfl (by decide) (by decide) (by decide) rfl (fun H locs (hh : pq_H D A s (wX1_adaptPoles cI th th_numbers f_numbers) H locs) => ?_)
    refine lv_icmp_ne (tgt := 44) hx hb dX1_adaptPoles_37 (by decide) (fun h16 => ?_) (fun h16 => ?_)
    · have hf := pq_brf hf h16
      refine lv_iconst (v := (0 : Int32)) hx hb dX1_adaptPoles_44 (by decide) ?_
      exact J45 s0 (0 : Int32) f_numbers _ _ hh ls (lv_sub hl [1, 0] rfl) hf
    · have hf := pq_brt hf h16
      refine lv_iconst (v := (1 : Int32)) hx hb dX1_adaptPoles_40 (by decide) ?_
      refine lv_goto (tgt := 45) hx hb dX1_adaptPoles_41 (by decide) ?_
      exact J45 s0 (1 : Int32) f_numbers _ _ hh ls (lv_sub hl [1, 0] rfl) hf
  rw [fX1_adaptPoles] at hf
  refine lv_iload_n hx hb dX1_adaptPoles_0 rfl (lv_at hl 1 rfl) ?_
  obtain ⟨r1, hu2, hf⟩ := pq_clx hf
  refine pq_cnI (n := 1) (As := [.int a1]) C hh (qX6_sign l D cI cL a1 r1 hu2) (gnX6_sign hs) rfl (List.mem_of_getElem? (i := 7) rfl) ks48 kiRX6 (by decide +kernel) ⟨Nat.le_of_ble_eq_true rfl, Nat.le_of_ble_eq_true rfl⟩ hl.1 rfl rfl (Nat.le_of_ble_eq_true rfl) dX1_adaptPoles_1 ⟨Nat.zero_le _, Nat.zero_le _⟩ [] [0, 1] [0, 1] rfl rfl (by decide) (by decide) (by decide) rfl (fun H locs (hh : pq_H D A s (wX1_adaptPoles cI th th_numbers f_numbers) H locs) => ?_)
  refine lv_aload_n hx hb dX1_adaptPoles_4 rfl (lv_at hl 0 rfl) ?_
  refine pq_get C hh i1 0 1 rfl rfl 0 (by decide) kf11 rfl rfl dX1_adaptPoles_5 ?_
  refine lv_bipush (v := (15 : Int32)) hx hb dX1_adaptPoles_8 (by decide) ?_
  obtain ⟨h3, hf⟩ := pq_rdx hf
  refine pq_iald C hh 1 rfl h3 dX1_adaptPoles_10 (fun v4 e5 => ?_)
  have hf := hf v4 e5
  obtain ⟨r6, hu7, hf⟩ := pq_clx hf
  refine pq_cnI (n := 1) (As := [.int v4]) C hh (qX6_sign l D cI cL v4 r6 hu7) (gnX6_sign hs) rfl (List.mem_of_getElem? (i := 7) rfl) ks48 kiRX6 (by decide +kernel) ⟨Nat.le_of_ble_eq_true rfl, Nat.le_of_ble_eq_true rfl⟩ hl.1 rfl rfl (Nat.le_of_ble_eq_true rfl) dX1_adaptPoles_11 ⟨Nat.zero_le _, Nat.zero_le _⟩ [] [0, 1] [0, 1] rfl rfl (by decide) (by decide) (by decide) rfl (fun H locs (hh : pq_H D A s (wX1_adaptPoles cI th th_numbers f_numbers) H locs) => ?_)
  refine lv_icmp_ne (tgt := 21) hx hb dX1_adaptPoles_14 (by decide) (fun h8 => ?_) (fun h8 => ?_)
  · have hf := pq_brf hf h8
    refine lv_iconst (v := (0 : Int32)) hx hb dX1_adaptPoles_21 (by decide) ?_
    exact J22 a1 (0 : Int32) f_numbers _ _ hh ls (lv_sub hl [0, 1] rfl) hf
  · have hf := pq_brt hf h8
    refine lv_iconst (v := (1 : Int32)) hx hb dX1_adaptPoles_17 (by decide) ?_
    refine lv_goto (tgt := 22) hx hb dX1_adaptPoles_18 (by decide) ?_
    exact J22 a1 (1 : Int32) f_numbers _ _ hh ls (lv_sub hl [0, 1] rfl) hf
set_option maxHeartbeats 4000000 in
set_option maxRecDepth 100000 in
theorem qX1_adaptZeros (l : Launch) (D : va_G) (cI cL : ClassId) (th : Nat) (th_numbers : Nat) (f_numbers : Nat → Int32) (a1 : Int32) (res : (Nat → Int32)) (hf : fX1_adaptZeros a1 f_numbers = some res) : pq_CV l yX1_adaptZeros qsX1_adaptZeros 1 20 D cI cL [.ref th, .int a1] (wX1_adaptZeros cI th th_numbers f_numbers) (wX1_adaptZeros cI th th_numbers res) := by
  refine pq_mkV (cc := cX1_adaptZeros) (maxL := 4) (by decide) rfl (Nat.le_of_ble_eq_true rfl) ?_
  intro p e s m args below meth c Q A C hh hret ls hl
  have hx := C.1
  have hb := C.2.1
  have hml := C.2.2.1
  have hown : s.vm.findClass RX1 = some m.cls := C.2.2.2.1
  have hs : ∀ w ∈ wsL_law, w ∈ qsX1_adaptZeros := fun _ h => List.mem_cons_of_mem _ h
  have htw : ∀ w ∈ wsL_law, w.before args s = true := fun w h => C.2.2.2.2.1 w (hs w h)
  have hl : lv_has ls 4 [(0, .ref th), (1, .int a1)] := hl
  have i1 : ∀ w ∈ wsX10, w ∈ qsX1_adaptZeros := fun w h => hs w (pq_i1 w h)
  have kf11 := htw (.fieldLink RX1 11 "VoiceDesk$Band" "numbers" "[I") (pq_m3 _ (List.mem_of_getElem? (i := 10) rfl))
  have kiRX6 := htw (.initialized RX6) (pq_m1 _ (List.mem_of_getElem? (i := 2) rfl))
  have ks16 := htw (.static yX6_limited) (pq_m8 _ (List.mem_of_getElem? (i := 21) rfl))
  have ks48 := htw (.static yX6_sign) (pq_m10 _ (List.mem_of_getElem? (i := 19) rfl))
  have J2 : ∀ (fuel2 : Nat) (x1 : Int32) (x2 : Int32) (f_numbers : Nat → Int32) (H : Heap) (locs : List Loc), pq_H D A s (wX1_adaptZeros cI th th_numbers f_numbers) H locs → ∀ ls : Array Slot, lv_has ls 4 [(0, .ref th), (1, .int x1), (2, .int x2)] → fX1_adaptZeros_b2   fuel2 x1 x2 f_numbers = some res → W p l e (pq_rm 1 20) s m args below meth c H locs 0 0 Q (F0 m 2 ls []) := by
    intro fuel2
    induction fuel2 with
    | zero => intro x1 x2 f_numbers H locs hh ls hl hf; rw [fX1_adaptZeros_b2] at hf; cases hf
    | succ fuel2 ih2 =>
      have J42 : ∀ (x1 : Int32) (x2 : Int32) (x3 : Int32) (f_numbers : Nat → Int32) (H : Heap) (locs : List Loc), pq_H D A s (wX1_adaptZeros cI th th_numbers f_numbers) H locs → ∀ ls : Array Slot, lv_has ls 4 [(0, .ref th), (1, .int x1), (2, .int x2), (3, .int x3)] → fX1_adaptZeros_b42 (fX1_adaptZeros_b2   fuel2)  x1 x2 x3 f_numbers = some res → W p l e (pq_rm 1 20) s m args below meth c H locs 0 0 Q (F0 m 42 ls []) := by
        intro x1 x2 x3 f_numbers H locs hh ls hl hf
        rw [fX1_adaptZeros_b42] at hf
        refine lv_aload_n hx hb dX1_adaptZeros_42 rfl (lv_at hl 0 rfl) ?_
        refine pq_get C hh i1 0 1 rfl rfl 0 (by decide) kf11 rfl rfl dX1_adaptZeros_43 ?_
        refine lv_bipush (v := (7 : Int32)) hx hb dX1_adaptZeros_46 (by decide) ?_
        refine lv_iload_n hx hb dX1_adaptZeros_48 rfl (lv_at hl 2 rfl) ?_
        refine lv_iadd hx hb dX1_adaptZeros_49 ?_
        refine lv_iload_n hx hb dX1_adaptZeros_50 rfl (lv_at hl 3 rfl) ?_
        refine lv_aload_n hx hb dX1_adaptZeros_51 rfl (lv_at hl 0 rfl) ?_
        refine pq_get C hh i1 0 1 rfl rfl 0 (by decide) kf11 rfl rfl dX1_adaptZeros_52 ?_
        refine lv_bipush (v := (7 : Int32)) hx hb dX1_adaptZeros_55 (by decide) ?_
        refine lv_iload_n hx hb dX1_adaptZeros_57 rfl (lv_at hl 2 rfl) ?_
        refine lv_iadd hx hb dX1_adaptZeros_58 ?_
        obtain ⟨h11, hf⟩ := pq_rdx hf
        refine pq_iald C hh 1 rfl h11 dX1_adaptZeros_59 (fun v12 e13 => ?_)
        have hf := hf v12 e13
        refine lv_sipush (v := (32640 : Int32)) hx hb dX1_adaptZeros_60 (by decide) ?_
        refine lv_imul hx hb dX1_adaptZeros_63 ?_
        refine lv_bipush (v := (15 : Int32)) hx hb dX1_adaptZeros_64 (by decide) ?_
        refine lv_ishr hx hb dX1_adaptZeros_66 ?_
        refine lv_iadd hx hb dX1_adaptZeros_67 ?_
        obtain ⟨r14, hu15, hf⟩ := pq_clx hf
        refine pq_cnI (n := 1) (As := [.int (x3 + ((v12 * (32640 : Int32)) >>> ((15 : Int32) &&& 31)))]) C hh (qX6_limited l D cI cL (x3 + ((v12 * (32640 : Int32)) >>> ((15 : Int32) &&& 31))) r14 hu15) (gnX6_limited hs) rfl (List.mem_of_getElem? (i := 5) rfl) ks16 kiRX6 (by decide +kernel) ⟨Nat.le_of_ble_eq_true rfl, Nat.le_of_ble_eq_true rfl⟩ hl.1 rfl rfl (Nat.le_of_ble_eq_true rfl) dX1_adaptZeros_68 ⟨Nat.zero_le _, Nat.zero_le _⟩ [] [0, 1] [0, 1] rfl rfl (by decide) (by decide) (by decide) rfl (fun H locs (hh : pq_H D A s (wX1_adaptZeros cI th th_numbers f_numbers) H locs) => ?_)
        obtain ⟨h16, hf⟩ := pq_wrx hf
        refine pq_iast C hh 1 rfl h16 dX1_adaptZeros_71 (fun H locs f17 e18 (hh : pq_H D A s (wX1_adaptZeros cI th th_numbers f17) H locs) => ?_)
        have hf := hf f17 e18
        obtain ⟨v19, e20⟩ : ∃ y : Int32, y = x2 + (1 : Int32) := ⟨_, rfl⟩
        refine lv_iinc (v := v19) (lv' := [(2, .int v19), (0, .ref th), (1, .int x1), (3, .int x3)]) hx hb dX1_adaptZeros_72 hl (k := 2) rfl (by rw [e20]; rfl) (by decide) rfl (fun ls hl => ?_)
        have hf := pq_nmx hf v19 e20
        refine lv_goto (tgt := 2) hx hb dX1_adaptZeros_75 (by decide) ?_
        exact ih2 x1 v19 f17 _ _ hh ls (lv_sub hl [1, 2, 0] rfl) hf
      have J35 : ∀ (x1 : Int32) (x2 : Int32) (s0 : Int32) (f_numbers : Nat → Int32) (H : Heap) (locs : List Loc), pq_H D A s (wX1_adaptZeros cI th th_numbers f_numbers) H locs → ∀ ls : Array Slot, lv_has ls 4 [(0, .ref th), (1, .int x1), (2, .int x2)] → fX1_adaptZeros_b35 (fX1_adaptZeros_b2   fuel2)  x1 x2 s0 f_numbers = some res → W p l e (pq_rm 1 20) s m args below meth c H locs 0 0 Q (F0 m 35 ls [.int s0]) := by
        intro x1 x2 s0 f_numbers H locs hh ls hl hf
        rw [fX1_adaptZeros_b35] at hf
        refine lv_istore_n (lv' := [(3, .int s0), (0, .ref th), (1, .int x1), (2, .int x2)]) hx hb dX1_adaptZeros_35 rfl hl (by decide) rfl (fun ls hl => ?_)
        refine lv_iload_n hx hb dX1_adaptZeros_36 rfl (lv_at hl 2 rfl) ?_
        refine lv_if_ne (tgt := 42) hx hb dX1_adaptZeros_37 (by decide) (fun h10 => ?_) (fun h10 => ?_)
        · have hf := pq_brf hf h10
          exact J42 x1 x2 s0 f_numbers _ _ hh ls (lv_sub hl [1, 2, 3, 0] rfl) hf
        · have hf := pq_brt hf h10
          refine lv_iconst (v := (0 : Int32)) hx hb dX1_adaptZeros_40 (by decide) ?_
          refine lv_istore_n (lv' := [(3, .int (0 : Int32)), (0, .ref th), (1, .int x1), (2, .int x2)]) hx hb dX1_adaptZeros_41 rfl hl (by decide) rfl (fun ls hl => ?_)
          exact J42 x1 x2 (0 : Int32) f_numbers _ _ hh ls (lv_sub hl [1, 2, 3, 0] rfl) hf
      intro x1 x2 f_numbers H locs hh ls hl hf
      rw [fX1_adaptZeros_b2] at hf
      refine lv_iload_n hx hb dX1_adaptZeros_2 rfl (lv_at hl 2 rfl) ?_
      refine lv_bipush (v := (6 : Int32)) hx hb dX1_adaptZeros_3 (by decide) ?_
      refine lv_icmp_ge (tgt := 78) hx hb dX1_adaptZeros_5 (by decide) (fun h1 => ?_) (fun h1 => ?_)
      · have hf := pq_brt hf h1
        obtain rfl := Option.some.inj hf
        exact hret _ _ _ ls hh dX1_adaptZeros_78
      · have hf := pq_brf hf h1
        refine lv_iload_n hx hb dX1_adaptZeros_8 rfl (lv_at hl 1 rfl) ?_
        obtain ⟨r2, hu3, hf⟩ := pq_clx hf
        refine pq_cnI (n := 1) (As := [.int x1]) C hh (qX6_sign l D cI cL x1 r2 hu3) (gnX6_sign hs) rfl (List.mem_of_getElem? (i := 7) rfl) ks48 kiRX6 (by decide +kernel) ⟨Nat.le_of_ble_eq_true rfl, Nat.le_of_ble_eq_true rfl⟩ hl.1 rfl rfl (Nat.le_of_ble_eq_true rfl) dX1_adaptZeros_9 ⟨Nat.zero_le _, Nat.zero_le _⟩ [] [0, 1] [0, 1] rfl rfl (by decide) (by decide) (by decide) rfl (fun H locs (hh : pq_H D A s (wX1_adaptZeros cI th th_numbers f_numbers) H locs) => ?_)
        refine lv_aload_n hx hb dX1_adaptZeros_12 rfl (lv_at hl 0 rfl) ?_
        refine pq_get C hh i1 0 1 rfl rfl 0 (by decide) kf11 rfl rfl dX1_adaptZeros_13 ?_
        refine lv_bipush (v := (17 : Int32)) hx hb dX1_adaptZeros_16 (by decide) ?_
        refine lv_iload_n hx hb dX1_adaptZeros_18 rfl (lv_at hl 2 rfl) ?_
        refine lv_iadd hx hb dX1_adaptZeros_19 ?_
        obtain ⟨h4, hf⟩ := pq_rdx hf
        refine pq_iald C hh 1 rfl h4 dX1_adaptZeros_20 (fun v5 e6 => ?_)
        have hf := hf v5 e6
        obtain ⟨r7, hu8, hf⟩ := pq_clx hf
        refine pq_cnI (n := 1) (As := [.int v5]) C hh (qX6_sign l D cI cL v5 r7 hu8) (gnX6_sign hs) rfl (List.mem_of_getElem? (i := 7) rfl) ks48 kiRX6 (by decide +kernel) ⟨Nat.le_of_ble_eq_true rfl, Nat.le_of_ble_eq_true rfl⟩ hl.1 rfl rfl (Nat.le_of_ble_eq_true rfl) dX1_adaptZeros_21 ⟨Nat.zero_le _, Nat.zero_le _⟩ [] [0, 1] [0, 1] rfl rfl (by decide) (by decide) (by decide) rfl (fun H locs (hh : pq_H D A s (wX1_adaptZeros cI th th_numbers f_numbers) H locs) => ?_)
        refine lv_icmp_ne (tgt := 33) hx hb dX1_adaptZeros_24 (by decide) (fun h9 => ?_) (fun h9 => ?_)
        · have hf := pq_brf hf h9
          refine lv_bipush (v := (-128 : Int32)) hx hb dX1_adaptZeros_33 (by decide) ?_
          exact J35 x1 x2 (-128 : Int32) f_numbers _ _ hh ls (lv_sub hl [0, 1, 2] rfl) hf
        · have hf := pq_brt hf h9
          refine lv_sipush (v := (128 : Int32)) hx hb dX1_adaptZeros_27 (by decide) ?_
          refine lv_goto (tgt := 35) hx hb dX1_adaptZeros_30 (by decide) ?_
          exact J35 x1 x2 (128 : Int32) f_numbers _ _ hh ls (lv_sub hl [0, 1, 2] rfl) hf
  rw [fX1_adaptZeros] at hf
  refine lv_iconst (v := (0 : Int32)) hx hb dX1_adaptZeros_0 (by decide) ?_
  refine lv_istore_n (lv' := [(2, .int (0 : Int32)), (0, .ref th), (1, .int a1)]) hx hb dX1_adaptZeros_1 rfl hl (by decide) rfl (fun ls hl => ?_)
  exact J2 1100 a1 (0 : Int32) f_numbers _ _ hh ls (lv_sub hl [1, 2, 0] rfl) hf
set_option maxHeartbeats 4000000 in
set_option maxRecDepth 100000 in
theorem qX1_remember (l : Launch) (D : va_G) (cI cL : ClassId) (th : Nat) (th_numbers : Nat) (f_numbers : Nat → Int32) (a1 : Int32) (a2 : Int32) (a3 : Int32) (res : (Nat → Int32)) (hf : fX1_remember a1 a2 a3 f_numbers = some res) : pq_CV l yX1_remember qsX1_remember 0 0 D cI cL [.ref th, .int a1, .int a2, .int a3] (wX1_remember cI th th_numbers f_numbers) (wX1_remember cI th th_numbers res) := by
  refine pq_mkV (cc := cX1_remember) (maxL := 5) (by decide) rfl (Nat.le_of_ble_eq_true rfl) ?_
  intro p e s m args below meth c Q A C hh hret ls hl
  have hx := C.1
  have hb := C.2.1
  have hml := C.2.2.1
  have hown : s.vm.findClass RX1 = some m.cls := C.2.2.2.1
  have hs : ∀ w ∈ wsL_law, w ∈ qsX1_remember := fun _ h => List.mem_cons_of_mem _ h
  have htw : ∀ w ∈ wsL_law, w.before args s = true := fun w h => C.2.2.2.2.1 w (hs w h)
  have hl : lv_has ls 5 [(0, .ref th), (1, .int a1), (2, .int a2), (3, .int a3)] := hl
  have i1 : ∀ w ∈ wsX10, w ∈ qsX1_remember := fun w h => hs w (pq_i1 w h)
  have kf11 := htw (.fieldLink RX1 11 "VoiceDesk$Band" "numbers" "[I") (pq_m3 _ (List.mem_of_getElem? (i := 10) rfl))
  have J3 : ∀ (fuel3 : Nat) (x1 : Int32) (x2 : Int32) (x3 : Int32) (x4 : Int32) (f_numbers : Nat → Int32) (H : Heap) (locs : List Loc), pq_H D A s (wX1_remember cI th th_numbers f_numbers) H locs → ∀ ls : Array Slot, lv_has ls 5 [(0, .ref th), (1, .int x1), (2, .int x2), (3, .int x3), (4, .int x4)] → fX1_remember_b3   fuel3 x1 x2 x3 x4 f_numbers = some res → W p l e (pq_rm 0 0) s m args below meth c H locs 0 0 Q (F0 m 3 ls []) := by
    intro fuel3
    induction fuel3 with
    | zero => intro x1 x2 x3 x4 f_numbers H locs hh ls hl hf; rw [fX1_remember_b3] at hf; cases hf
    | succ fuel3 ih3 =>
      intro x1 x2 x3 x4 f_numbers H locs hh ls hl hf
      rw [fX1_remember_b3] at hf
      refine lv_iload hx hb dX1_remember_3 (lv_at hl 4 rfl) ?_
      refine lv_if_le (tgt := 36) hx hb dX1_remember_5 (by decide) (fun h1 => ?_) (fun h1 => ?_)
      · have hf := pq_brt hf h1
        refine lv_aload_n hx hb dX1_remember_36 rfl (lv_at hl 0 rfl) ?_
        refine pq_get C hh i1 0 1 rfl rfl 0 (by decide) kf11 rfl rfl dX1_remember_37 ?_
        refine lv_bipush (v := (17 : Int32)) hx hb dX1_remember_40 (by decide) ?_
        refine lv_iload_n hx hb dX1_remember_42 rfl (lv_at hl 1 rfl) ?_
        obtain ⟨h2, hf⟩ := pq_wrx hf
        refine pq_iast C hh 1 rfl h2 dX1_remember_43 (fun H locs f3 e4 (hh : pq_H D A s (wX1_remember cI th th_numbers f3) H locs) => ?_)
        have hf := hf f3 e4
        refine lv_aload_n hx hb dX1_remember_44 rfl (lv_at hl 0 rfl) ?_
        refine pq_get C hh i1 0 1 rfl rfl 0 (by decide) kf11 rfl rfl dX1_remember_45 ?_
        refine lv_bipush (v := (14 : Int32)) hx hb dX1_remember_48 (by decide) ?_
        refine lv_aload_n hx hb dX1_remember_50 rfl (lv_at hl 0 rfl) ?_
        refine pq_get C hh i1 0 1 rfl rfl 0 (by decide) kf11 rfl rfl dX1_remember_51 ?_
        refine lv_bipush (v := (13 : Int32)) hx hb dX1_remember_54 (by decide) ?_
        obtain ⟨h5, hf⟩ := pq_rdx hf
        refine pq_iald C hh 1 rfl h5 dX1_remember_56 (fun v6 e7 => ?_)
        have hf := hf v6 e7
        obtain ⟨h8, hf⟩ := pq_wrx hf
        refine pq_iast C hh 1 rfl h8 dX1_remember_57 (fun H locs f9 e10 (hh : pq_H D A s (wX1_remember cI th th_numbers f9) H locs) => ?_)
        have hf := hf f9 e10
        refine lv_aload_n hx hb dX1_remember_58 rfl (lv_at hl 0 rfl) ?_
        refine pq_get C hh i1 0 1 rfl rfl 0 (by decide) kf11 rfl rfl dX1_remember_59 ?_
        refine lv_bipush (v := (13 : Int32)) hx hb dX1_remember_62 (by decide) ?_
        refine lv_iload_n hx hb dX1_remember_64 rfl (lv_at hl 2 rfl) ?_
        obtain ⟨h11, hf⟩ := pq_wrx hf
        refine pq_iast C hh 1 rfl h11 dX1_remember_65 (fun H locs f12 e13 (hh : pq_H D A s (wX1_remember cI th th_numbers f12) H locs) => ?_)
        have hf := hf f12 e13
        refine lv_aload_n hx hb dX1_remember_66 rfl (lv_at hl 0 rfl) ?_
        refine pq_get C hh i1 0 1 rfl rfl 0 (by decide) kf11 rfl rfl dX1_remember_67 ?_
        refine lv_bipush (v := (16 : Int32)) hx hb dX1_remember_70 (by decide) ?_
        refine lv_aload_n hx hb dX1_remember_72 rfl (lv_at hl 0 rfl) ?_
        refine pq_get C hh i1 0 1 rfl rfl 0 (by decide) kf11 rfl rfl dX1_remember_73 ?_
        refine lv_bipush (v := (15 : Int32)) hx hb dX1_remember_76 (by decide) ?_
        obtain ⟨h14, hf⟩ := pq_rdx hf
        refine pq_iald C hh 1 rfl h14 dX1_remember_78 (fun v15 e16 => ?_)
        have hf := hf v15 e16
        obtain ⟨h17, hf⟩ := pq_wrx hf
        refine pq_iast C hh 1 rfl h17 dX1_remember_79 (fun H locs f18 e19 (hh : pq_H D A s (wX1_remember cI th th_numbers f18) H locs) => ?_)
        have hf := hf f18 e19
        refine lv_aload_n hx hb dX1_remember_80 rfl (lv_at hl 0 rfl) ?_
        refine pq_get C hh i1 0 1 rfl rfl 0 (by decide) kf11 rfl rfl dX1_remember_81 ?_
        refine lv_bipush (v := (15 : Int32)) hx hb dX1_remember_84 (by decide) ?_
        refine lv_iload_n hx hb dX1_remember_86 rfl (lv_at hl 3 rfl) ?_
        obtain ⟨h20, hf⟩ := pq_wrx hf
        refine pq_iast C hh 1 rfl h20 dX1_remember_87 (fun H locs f21 e22 (hh : pq_H D A s (wX1_remember cI th th_numbers f21) H locs) => ?_)
        have hf := hf f21 e22
        obtain rfl := Option.some.inj hf
        exact hret _ _ _ ls hh dX1_remember_88
      · have hf := pq_brf hf h1
        refine lv_aload_n hx hb dX1_remember_8 rfl (lv_at hl 0 rfl) ?_
        refine pq_get C hh i1 0 1 rfl rfl 0 (by decide) kf11 rfl rfl dX1_remember_9 ?_
        refine lv_bipush (v := (17 : Int32)) hx hb dX1_remember_12 (by decide) ?_
        refine lv_iload hx hb dX1_remember_14 (lv_at hl 4 rfl) ?_
        refine lv_iadd hx hb dX1_remember_16 ?_
        refine lv_aload_n hx hb dX1_remember_17 rfl (lv_at hl 0 rfl) ?_
        refine pq_get C hh i1 0 1 rfl rfl 0 (by decide) kf11 rfl rfl dX1_remember_18 ?_
        refine lv_bipush (v := (17 : Int32)) hx hb dX1_remember_21 (by decide) ?_
        refine lv_iload hx hb dX1_remember_23 (lv_at hl 4 rfl) ?_
        refine lv_iadd hx hb dX1_remember_25 ?_
        refine lv_iconst (v := (1 : Int32)) hx hb dX1_remember_26 (by decide) ?_
        refine lv_isub hx hb dX1_remember_27 ?_
        obtain ⟨h23, hf⟩ := pq_rdx hf
        refine pq_iald C hh 1 rfl h23 dX1_remember_28 (fun v24 e25 => ?_)
        have hf := hf v24 e25
        obtain ⟨h26, hf⟩ := pq_wrx hf
        refine pq_iast C hh 1 rfl h26 dX1_remember_29 (fun H locs f27 e28 (hh : pq_H D A s (wX1_remember cI th th_numbers f27) H locs) => ?_)
        have hf := hf f27 e28
        obtain ⟨v29, e30⟩ : ∃ y : Int32, y = x4 + (-1 : Int32) := ⟨_, rfl⟩
        refine lv_iinc (v := v29) (lv' := [(4, .int v29), (0, .ref th), (1, .int x1), (2, .int x2), (3, .int x3)]) hx hb dX1_remember_30 hl (k := 4) rfl (by rw [e30]; rfl) (by decide) rfl (fun ls hl => ?_)
        have hf := pq_nmx hf v29 e30
        refine lv_goto (tgt := 3) hx hb dX1_remember_33 (by decide) ?_
        exact ih3 x1 x2 x3 v29 f27 _ _ hh ls (lv_sub hl [1, 2, 3, 4, 0] rfl) hf
  rw [fX1_remember] at hf
  refine lv_iconst (v := (5 : Int32)) hx hb dX1_remember_0 (by decide) ?_
  refine lv_istore (lv' := [(4, .int (5 : Int32)), (0, .ref th), (1, .int a1), (2, .int a2), (3, .int a3)]) hx hb dX1_remember_1 hl (by decide) rfl (fun ls hl => ?_)
  exact J3 1100 a1 a2 a3 (5 : Int32) f_numbers _ _ hh ls (lv_sub hl [1, 2, 3, 4, 0] rfl) hf
set_option maxHeartbeats 4000000 in
set_option maxRecDepth 100000 in
theorem qX1_product (l : Launch) (D : va_G) (cI cL : ClassId) (th : Nat) (th_numbers : Nat) (f_numbers : Nat → Int32) (a1 : Int32) (a2 : Int32) (res : Int32) (hf : fX1_product a1 a2 f_numbers = some res) : pq_CI l yX1_product qsX1_product 1 20 D cI cL [.ref th, .int a1, .int a2] (wX1_product cI th th_numbers f_numbers) (wX1_product cI th th_numbers f_numbers) res := by
  refine pq_mkI (cc := cX1_product) (maxL := 3) (RT := .int) (by decide) rfl (Nat.le_of_ble_eq_true rfl) ?_
  intro p e s m args below meth c Q A C hh hret ls hl
  have hx := C.1
  have hb := C.2.1
  have hml := C.2.2.1
  have hown : s.vm.findClass RX1 = some m.cls := C.2.2.2.1
  have hs : ∀ w ∈ wsL_law, w ∈ qsX1_product := fun _ h => List.mem_cons_of_mem _ h
  have htw : ∀ w ∈ wsL_law, w.before args s = true := fun w h => C.2.2.2.2.1 w (hs w h)
  have hl : lv_has ls 3 [(0, .ref th), (1, .int a1), (2, .int a2)] := hl
  have i1 : ∀ w ∈ wsX10, w ∈ qsX1_product := fun w h => hs w (pq_i1 w h)
  have kf11 := htw (.fieldLink RX1 11 "VoiceDesk$Band" "numbers" "[I") (pq_m3 _ (List.mem_of_getElem? (i := 10) rfl))
  have kiRX6 := htw (.initialized RX6) (pq_m1 _ (List.mem_of_getElem? (i := 2) rfl))
  have ks16 := htw (.static yX6_limited) (pq_m8 _ (List.mem_of_getElem? (i := 21) rfl))
  rw [fX1_product] at hf
  refine lv_aload_n hx hb dX1_product_0 rfl (lv_at hl 0 rfl) ?_
  refine pq_get C hh i1 0 1 rfl rfl 0 (by decide) kf11 rfl rfl dX1_product_1 ?_
  refine lv_iload_n hx hb dX1_product_4 rfl (lv_at hl 1 rfl) ?_
  obtain ⟨h1, hf⟩ := pq_rdx hf
  refine pq_iald C hh 1 rfl h1 dX1_product_5 (fun v2 e3 => ?_)
  have hf := hf v2 e3
  refine lv_iconst (v := (2 : Int32)) hx hb dX1_product_6 (by decide) ?_
  refine lv_aload_n hx hb dX1_product_7 rfl (lv_at hl 0 rfl) ?_
  refine pq_get C hh i1 0 1 rfl rfl 0 (by decide) kf11 rfl rfl dX1_product_8 ?_
  refine lv_iload_n hx hb dX1_product_11 rfl (lv_at hl 2 rfl) ?_
  obtain ⟨h4, hf⟩ := pq_rdx hf
  refine pq_iald C hh 1 rfl h4 dX1_product_12 (fun v5 e6 => ?_)
  have hf := hf v5 e6
  refine lv_imul hx hb dX1_product_13 ?_
  obtain ⟨r7, hu8, hf⟩ := pq_clx hf
  refine pq_cnI (n := 1) (As := [.int ((2 : Int32) * v5)]) C hh (qX6_limited l D cI cL ((2 : Int32) * v5) r7 hu8) (gnX6_limited hs) rfl (List.mem_of_getElem? (i := 5) rfl) ks16 kiRX6 (by decide +kernel) ⟨Nat.le_of_ble_eq_true rfl, Nat.le_of_ble_eq_true rfl⟩ hl.1 rfl rfl (Nat.le_of_ble_eq_true rfl) dX1_product_14 ⟨Nat.zero_le _, Nat.zero_le _⟩ [] [0, 1] [0, 1] rfl rfl (by decide) (by decide) (by decide) rfl (fun H locs (hh : pq_H D A s (wX1_product cI th th_numbers f_numbers) H locs) => ?_)
  refine lv_imul hx hb dX1_product_17 ?_
  refine lv_bipush (v := (15 : Int32)) hx hb dX1_product_18 (by decide) ?_
  refine lv_ishr hx hb dX1_product_20 ?_
  obtain rfl := Option.some.inj hf
  exact hret _ _ _ ls hh dX1_product_21 rfl
set_option maxHeartbeats 4000000 in
set_option maxRecDepth 100000 in
theorem qX1_settle (l : Launch) (D : va_G) (cI cL : ClassId) (th : Nat) (th_numbers : Nat) (f_numbers : Nat → Int32) (a1 : Int32) (a2 : Int32) (a3 : Int32) (a4 : Int32) (res : (Nat → Int32)) (hf : fX1_settle a1 a2 a3 a4 f_numbers = some res) : pq_CV l yX1_settle qsX1_settle 2 49 D cI cL [.ref th, .int a1, .int a2, .int a3, .int a4] (wX1_settle cI th th_numbers f_numbers) (wX1_settle cI th th_numbers res) := by
  refine pq_mkV (cc := cX1_settle) (maxL := 10) (by decide) rfl (Nat.le_of_ble_eq_true rfl) ?_
  intro p e s m args below meth c Q A C hh hret ls hl
  have hx := C.1
  have hb := C.2.1
  have hml := C.2.2.1
  have hown : s.vm.findClass RX1 = some m.cls := C.2.2.2.1
  have hs : ∀ w ∈ wsL_law, w ∈ qsX1_settle := fun _ h => List.mem_cons_of_mem _ h
  have htw : ∀ w ∈ wsL_law, w.before args s = true := fun w h => C.2.2.2.2.1 w (hs w h)
  have hl : lv_has ls 10 [(0, .ref th), (1, .int a1), (2, .int a2), (3, .int a3), (4, .int a4)] := hl
  have i1 : ∀ w ∈ wsX10, w ∈ qsX1_settle := fun w h => hs w (pq_i1 w h)
  have kf11 := htw (.fieldLink RX1 11 "VoiceDesk$Band" "numbers" "[I") (pq_m3 _ (List.mem_of_getElem? (i := 10) rfl))
  have kiRX6 := htw (.initialized RX6) (pq_m1 _ (List.mem_of_getElem? (i := 2) rfl))
  have ks16 := htw (.static yX6_limited) (pq_m8 _ (List.mem_of_getElem? (i := 21) rfl))
  have J71 : ∀ (fuel71 : Nat) (x8 : Int32) (x9 : Int32) (f_numbers : Nat → Int32) (H : Heap) (locs : List Loc), pq_H D A s (wX1_settle cI th th_numbers f_numbers) H locs → ∀ ls : Array Slot, lv_has ls 10 [(0, .ref th), (8, .int x8), (9, .int x9)] → fX1_settle_b71   fuel71 x8 x9 f_numbers = some res → W p l e (pq_rm 2 49) s m args below meth c H locs 0 0 Q (F0 m 71 ls []) := by
    intro fuel71
    induction fuel71 with
    | zero => intro x8 x9 f_numbers H locs hh ls hl hf; rw [fX1_settle_b71] at hf; cases hf
    | succ fuel71 ih71 =>
      intro x8 x9 f_numbers H locs hh ls hl hf
      rw [fX1_settle_b71] at hf
      refine lv_iload hx hb dX1_settle_71 (lv_at hl 2 rfl) ?_
      refine lv_bipush (v := (6 : Int32)) hx hb dX1_settle_73 (by decide) ?_
      refine lv_icmp_ge (tgt := 103) hx hb dX1_settle_75 (by decide) (fun h21 => ?_) (fun h21 => ?_)
      · have hf := pq_brt hf h21
        refine lv_aload_n hx hb dX1_settle_103 rfl (lv_at hl 0 rfl) ?_
        refine pq_get C hh i1 0 1 rfl rfl 0 (by decide) kf11 rfl rfl dX1_settle_104 ?_
        refine lv_iconst (v := (3 : Int32)) hx hb dX1_settle_107 (by decide) ?_
        refine lv_aload_n hx hb dX1_settle_108 rfl (lv_at hl 0 rfl) ?_
        refine lv_iconst (v := (5 : Int32)) hx hb dX1_settle_109 (by decide) ?_
        refine lv_bipush (v := (13 : Int32)) hx hb dX1_settle_110 (by decide) ?_
        obtain ⟨r22, hu23, hf⟩ := pq_clx hf
        refine pq_cvI (n := 2) (As := [.int (5 : Int32), .int (13 : Int32)]) C hh (qX1_product l D cI cL th th_numbers f_numbers (5 : Int32) (13 : Int32) r22 hu23) (gvX1_product hs (pq_m11 _ (List.mem_of_getElem? (i := 5) rfl))) rfl (by decide +kernel) ⟨Nat.le_of_ble_eq_true rfl, Nat.le_of_ble_eq_true rfl⟩ 0 1 rfl rfl rfl hl.1 rfl rfl (Nat.le_of_ble_eq_true rfl) dX1_settle_112 ⟨Nat.zero_le _, Nat.zero_le _⟩ [0, 1] [] [0, 1] rfl rfl (by decide) (by decide) (by decide) rfl (fun H locs (hh : pq_H D A s (wX1_settle cI th th_numbers f_numbers) H locs) => ?_)
        refine lv_aload_n hx hb dX1_settle_115 rfl (lv_at hl 0 rfl) ?_
        refine lv_bipush (v := (6 : Int32)) hx hb dX1_settle_116 (by decide) ?_
        refine lv_bipush (v := (14 : Int32)) hx hb dX1_settle_118 (by decide) ?_
        obtain ⟨r24, hu25, hf⟩ := pq_clx hf
        refine pq_cvI (n := 2) (As := [.int (6 : Int32), .int (14 : Int32)]) C hh (qX1_product l D cI cL th th_numbers f_numbers (6 : Int32) (14 : Int32) r24 hu25) (gvX1_product hs (pq_m11 _ (List.mem_of_getElem? (i := 5) rfl))) rfl (by decide +kernel) ⟨Nat.le_of_ble_eq_true rfl, Nat.le_of_ble_eq_true rfl⟩ 0 1 rfl rfl rfl hl.1 rfl rfl (Nat.le_of_ble_eq_true rfl) dX1_settle_120 ⟨Nat.zero_le _, Nat.zero_le _⟩ [0, 1] [] [0, 1] rfl rfl (by decide) (by decide) (by decide) rfl (fun H locs (hh : pq_H D A s (wX1_settle cI th th_numbers f_numbers) H locs) => ?_)
        refine lv_iadd hx hb dX1_settle_123 ?_
        obtain ⟨r26, hu27, hf⟩ := pq_clx hf
        refine pq_cnI (n := 1) (As := [.int (r22 + r24)]) C hh (qX6_limited l D cI cL (r22 + r24) r26 hu27) (gnX6_limited hs) rfl (List.mem_of_getElem? (i := 5) rfl) ks16 kiRX6 (by decide +kernel) ⟨Nat.le_of_ble_eq_true rfl, Nat.le_of_ble_eq_true rfl⟩ hl.1 rfl rfl (Nat.le_of_ble_eq_true rfl) dX1_settle_124 ⟨Nat.zero_le _, Nat.zero_le _⟩ [] [0, 1] [0, 1] rfl rfl (by decide) (by decide) (by decide) rfl (fun H locs (hh : pq_H D A s (wX1_settle cI th th_numbers f_numbers) H locs) => ?_)
        obtain ⟨h28, hf⟩ := pq_wrx hf
        refine pq_iast C hh 1 rfl h28 dX1_settle_127 (fun H locs f29 e30 (hh : pq_H D A s (wX1_settle cI th th_numbers f29) H locs) => ?_)
        have hf := hf f29 e30
        refine lv_aload_n hx hb dX1_settle_128 rfl (lv_at hl 0 rfl) ?_
        refine pq_get C hh i1 0 1 rfl rfl 0 (by decide) kf11 rfl rfl dX1_settle_129 ?_
        refine lv_iconst (v := (4 : Int32)) hx hb dX1_settle_132 (by decide) ?_
        refine lv_iload hx hb dX1_settle_133 (lv_at hl 1 rfl) ?_
        obtain ⟨r31, hu32, hf⟩ := pq_clx hf
        refine pq_cnI (n := 1) (As := [.int x8]) C hh (qX6_limited l D cI cL x8 r31 hu32) (gnX6_limited hs) rfl (List.mem_of_getElem? (i := 5) rfl) ks16 kiRX6 (by decide +kernel) ⟨Nat.le_of_ble_eq_true rfl, Nat.le_of_ble_eq_true rfl⟩ hl.1 rfl rfl (Nat.le_of_ble_eq_true rfl) dX1_settle_135 ⟨Nat.zero_le _, Nat.zero_le _⟩ [] [0, 1] [0, 1] rfl rfl (by decide) (by decide) (by decide) rfl (fun H locs (hh : pq_H D A s (wX1_settle cI th th_numbers f29) H locs) => ?_)
        obtain ⟨h33, hf⟩ := pq_wrx hf
        refine pq_iast C hh 1 rfl h33 dX1_settle_138 (fun H locs f34 e35 (hh : pq_H D A s (wX1_settle cI th th_numbers f34) H locs) => ?_)
        have hf := hf f34 e35
        refine lv_aload_n hx hb dX1_settle_139 rfl (lv_at hl 0 rfl) ?_
        refine pq_get C hh i1 0 1 rfl rfl 0 (by decide) kf11 rfl rfl dX1_settle_140 ?_
        refine lv_iconst (v := (2 : Int32)) hx hb dX1_settle_143 (by decide) ?_
        refine lv_aload_n hx hb dX1_settle_144 rfl (lv_at hl 0 rfl) ?_
        refine pq_get C hh i1 0 1 rfl rfl 0 (by decide) kf11 rfl rfl dX1_settle_145 ?_
        refine lv_iconst (v := (3 : Int32)) hx hb dX1_settle_148 (by decide) ?_
        obtain ⟨h36, hf⟩ := pq_rdx hf
        refine pq_iald C hh 1 rfl h36 dX1_settle_149 (fun v37 e38 => ?_)
        have hf := hf v37 e38
        refine lv_aload_n hx hb dX1_settle_150 rfl (lv_at hl 0 rfl) ?_
        refine pq_get C hh i1 0 1 rfl rfl 0 (by decide) kf11 rfl rfl dX1_settle_151 ?_
        refine lv_iconst (v := (4 : Int32)) hx hb dX1_settle_154 (by decide) ?_
        obtain ⟨h39, hf⟩ := pq_rdx hf
        refine pq_iald C hh 1 rfl h39 dX1_settle_155 (fun v40 e41 => ?_)
        have hf := hf v40 e41
        refine lv_iadd hx hb dX1_settle_156 ?_
        obtain ⟨r42, hu43, hf⟩ := pq_clx hf
        refine pq_cnI (n := 1) (As := [.int (v37 + v40)]) C hh (qX6_limited l D cI cL (v37 + v40) r42 hu43) (gnX6_limited hs) rfl (List.mem_of_getElem? (i := 5) rfl) ks16 kiRX6 (by decide +kernel) ⟨Nat.le_of_ble_eq_true rfl, Nat.le_of_ble_eq_true rfl⟩ hl.1 rfl rfl (Nat.le_of_ble_eq_true rfl) dX1_settle_157 ⟨Nat.zero_le _, Nat.zero_le _⟩ [] [0, 1] [0, 1] rfl rfl (by decide) (by decide) (by decide) rfl (fun H locs (hh : pq_H D A s (wX1_settle cI th th_numbers f34) H locs) => ?_)
        obtain ⟨h44, hf⟩ := pq_wrx hf
        refine pq_iast C hh 1 rfl h44 dX1_settle_160 (fun H locs f45 e46 (hh : pq_H D A s (wX1_settle cI th th_numbers f45) H locs) => ?_)
        have hf := hf f45 e46
        obtain rfl := Option.some.inj hf
        exact hret _ _ _ ls hh dX1_settle_161
      · have hf := pq_brf hf h21
        refine lv_iload hx hb dX1_settle_78 (lv_at hl 1 rfl) ?_
        refine lv_aload_n hx hb dX1_settle_80 rfl (lv_at hl 0 rfl) ?_
        refine lv_bipush (v := (7 : Int32)) hx hb dX1_settle_81 (by decide) ?_
        refine lv_iload hx hb dX1_settle_83 (lv_at hl 2 rfl) ?_
        refine lv_iadd hx hb dX1_settle_85 ?_
        refine lv_bipush (v := (17 : Int32)) hx hb dX1_settle_86 (by decide) ?_
        refine lv_iload hx hb dX1_settle_88 (lv_at hl 2 rfl) ?_
        refine lv_iadd hx hb dX1_settle_90 ?_
        obtain ⟨r47, hu48, hf⟩ := pq_clx hf
        refine pq_cvI (n := 2) (As := [.int ((7 : Int32) + x9), .int ((17 : Int32) + x9)]) C hh (qX1_product l D cI cL th th_numbers f_numbers ((7 : Int32) + x9) ((17 : Int32) + x9) r47 hu48) (gvX1_product hs (pq_m11 _ (List.mem_of_getElem? (i := 5) rfl))) rfl (by decide +kernel) ⟨Nat.le_of_ble_eq_true rfl, Nat.le_of_ble_eq_true rfl⟩ 0 1 rfl rfl rfl hl.1 rfl rfl (Nat.le_of_ble_eq_true rfl) dX1_settle_91 ⟨Nat.zero_le _, Nat.zero_le _⟩ [0, 1] [] [0, 1] rfl rfl (by decide) (by decide) (by decide) rfl (fun H locs (hh : pq_H D A s (wX1_settle cI th th_numbers f_numbers) H locs) => ?_)
        refine lv_iadd hx hb dX1_settle_94 ?_
        refine lv_topi (fun v49 e50 => ?_)
        have hf := pq_nmx hf v49 e50
        refine lv_istore (lv' := [(8, .int v49), (0, .ref th), (9, .int x9)]) hx hb dX1_settle_95 hl (by decide) rfl (fun ls hl => ?_)
        obtain ⟨v51, e52⟩ : ∃ y : Int32, y = x9 + (1 : Int32) := ⟨_, rfl⟩
        refine lv_iinc (v := v51) (lv' := [(9, .int v51), (8, .int v49), (0, .ref th)]) hx hb dX1_settle_97 hl (k := 2) rfl (by rw [e52]; rfl) (by decide) rfl (fun ls hl => ?_)
        have hf := pq_nmx hf v51 e52
        refine lv_goto (tgt := 71) hx hb dX1_settle_100 (by decide) ?_
        exact ih71 v49 v51 f_numbers _ _ hh ls (lv_sub hl [2, 1, 0] rfl) hf
  rw [fX1_settle] at hf
  refine lv_aload_n hx hb dX1_settle_0 rfl (lv_at hl 0 rfl) ?_
  refine lv_iload_n hx hb dX1_settle_1 rfl (lv_at hl 1 rfl) ?_
  obtain ⟨r1, hu2, hf⟩ := pq_clx hf
  refine pq_cvI (n := 1) (As := [.int a1]) C hh (qX1_difference l D cI cL th th_numbers f_numbers a1 r1 hu2) (gvX1_difference hs (pq_m10 _ (List.mem_of_getElem? (i := 0) rfl))) rfl (by decide +kernel) ⟨Nat.le_of_ble_eq_true rfl, Nat.le_of_ble_eq_true rfl⟩ 0 1 rfl rfl rfl hl.1 rfl rfl (Nat.le_of_ble_eq_true rfl) dX1_settle_2 ⟨Nat.zero_le _, Nat.zero_le _⟩ [0, 1] [] [0, 1] rfl rfl (by decide) (by decide) (by decide) rfl (fun H locs (hh : pq_H D A s (wX1_settle cI th th_numbers f_numbers) H locs) => ?_)
  refine lv_istore (lv' := [(5, .int r1), (0, .ref th), (1, .int a1), (2, .int a2), (3, .int a3), (4, .int a4)]) hx hb dX1_settle_5 hl (by decide) rfl (fun ls hl => ?_)
  refine lv_aload_n hx hb dX1_settle_7 rfl (lv_at hl 1 rfl) ?_
  refine pq_get C hh i1 0 1 rfl rfl 0 (by decide) kf11 rfl rfl dX1_settle_8 ?_
  refine lv_iconst (v := (2 : Int32)) hx hb dX1_settle_11 (by decide) ?_
  obtain ⟨h3, hf⟩ := pq_rdx hf
  refine pq_iald C hh 1 rfl h3 dX1_settle_12 (fun v4 e5 => ?_)
  have hf := hf v4 e5
  refine lv_iload hx hb dX1_settle_13 (lv_at hl 0 rfl) ?_
  refine lv_iadd hx hb dX1_settle_15 ?_
  obtain ⟨r6, hu7, hf⟩ := pq_clx hf
  refine pq_cnI (n := 1) (As := [.int (v4 + r1)]) C hh (qX6_limited l D cI cL (v4 + r1) r6 hu7) (gnX6_limited hs) rfl (List.mem_of_getElem? (i := 5) rfl) ks16 kiRX6 (by decide +kernel) ⟨Nat.le_of_ble_eq_true rfl, Nat.le_of_ble_eq_true rfl⟩ hl.1 rfl rfl (Nat.le_of_ble_eq_true rfl) dX1_settle_16 ⟨Nat.zero_le _, Nat.zero_le _⟩ [] [0, 1] [0, 1] rfl rfl (by decide) (by decide) (by decide) rfl (fun H locs (hh : pq_H D A s (wX1_settle cI th th_numbers f_numbers) H locs) => ?_)
  refine lv_istore (lv' := [(6, .int r6), (5, .int r1), (0, .ref th), (1, .int a1), (2, .int a2), (3, .int a3), (4, .int a4)]) hx hb dX1_settle_19 hl (by decide) rfl (fun ls hl => ?_)
  refine lv_aload_n hx hb dX1_settle_21 rfl (lv_at hl 2 rfl) ?_
  refine pq_get C hh i1 0 1 rfl rfl 0 (by decide) kf11 rfl rfl dX1_settle_22 ?_
  refine lv_iconst (v := (4 : Int32)) hx hb dX1_settle_25 (by decide) ?_
  obtain ⟨h8, hf⟩ := pq_rdx hf
  refine pq_iald C hh 1 rfl h8 dX1_settle_26 (fun v9 e10 => ?_)
  have hf := hf v9 e10
  refine lv_iload hx hb dX1_settle_27 (lv_at hl 1 rfl) ?_
  refine lv_iadd hx hb dX1_settle_29 ?_
  obtain ⟨r11, hu12, hf⟩ := pq_clx hf
  refine pq_cnI (n := 1) (As := [.int (v9 + r1)]) C hh (qX6_limited l D cI cL (v9 + r1) r11 hu12) (gnX6_limited hs) rfl (List.mem_of_getElem? (i := 5) rfl) ks16 kiRX6 (by decide +kernel) ⟨Nat.le_of_ble_eq_true rfl, Nat.le_of_ble_eq_true rfl⟩ hl.1 rfl rfl (Nat.le_of_ble_eq_true rfl) dX1_settle_30 ⟨Nat.zero_le _, Nat.zero_le _⟩ [] [0, 1] [0, 1] rfl rfl (by decide) (by decide) (by decide) rfl (fun H locs (hh : pq_H D A s (wX1_settle cI th th_numbers f_numbers) H locs) => ?_)
  refine lv_istore (lv' := [(7, .int r11), (6, .int r6), (5, .int r1), (0, .ref th), (1, .int a1), (2, .int a2), (3, .int a3), (4, .int a4)]) hx hb dX1_settle_33 hl (by decide) rfl (fun ls hl => ?_)
  refine lv_aload_n hx hb dX1_settle_35 rfl (lv_at hl 3 rfl) ?_
  refine lv_iload_n hx hb dX1_settle_36 rfl (lv_at hl 5 rfl) ?_
  refine lv_iload_n hx hb dX1_settle_37 rfl (lv_at hl 6 rfl) ?_
  refine lv_iload hx hb dX1_settle_38 (lv_at hl 7 rfl) ?_
  obtain ⟨f13, hu14, hf⟩ := pq_clx hf
  refine pq_cvV (n := 3) (As := [.int a2, .int a3, .int a4]) C hh (qX1_adaptScale l D cI cL th th_numbers f_numbers a2 a3 a4 f13 hu14) (gvX1_adaptScale hs (pq_m10 _ (List.mem_of_getElem? (i := 4) rfl))) rfl (by decide +kernel) ⟨Nat.le_of_ble_eq_true rfl, Nat.le_of_ble_eq_true rfl⟩ 0 1 rfl rfl rfl hl.1 rfl rfl (Nat.le_of_ble_eq_true rfl) dX1_settle_40 ⟨Nat.zero_le _, Nat.zero_le _⟩ [0, 1] [] [0, 1] rfl rfl (by decide) (by decide) (by decide) rfl (fun H locs (hh : pq_H D A s (wX1_settle cI th th_numbers f13) H locs) => ?_)
  refine lv_aload_n hx hb dX1_settle_43 rfl (lv_at hl 3 rfl) ?_
  refine lv_iload hx hb dX1_settle_44 (lv_at hl 0 rfl) ?_
  obtain ⟨f15, hu16, hf⟩ := pq_clx hf
  refine pq_cvV (n := 1) (As := [.int r11]) C hh (qX1_adaptPoles l D cI cL th th_numbers f13 r11 f15 hu16) (gvX1_adaptPoles hs (pq_m10 _ (List.mem_of_getElem? (i := 11) rfl))) rfl (by decide +kernel) ⟨Nat.le_of_ble_eq_true rfl, Nat.le_of_ble_eq_true rfl⟩ 0 1 rfl rfl rfl hl.1 rfl rfl (Nat.le_of_ble_eq_true rfl) dX1_settle_46 ⟨Nat.zero_le _, Nat.zero_le _⟩ [0, 1] [] [0, 1] rfl rfl (by decide) (by decide) (by decide) rfl (fun H locs (hh : pq_H D A s (wX1_settle cI th th_numbers f15) H locs) => ?_)
  refine lv_aload_n hx hb dX1_settle_49 rfl (lv_at hl 3 rfl) ?_
  refine lv_iload hx hb dX1_settle_50 (lv_at hl 2 rfl) ?_
  obtain ⟨f17, hu18, hf⟩ := pq_clx hf
  refine pq_cvV (n := 1) (As := [.int r1]) C hh (qX1_adaptZeros l D cI cL th th_numbers f15 r1 f17 hu18) (gvX1_adaptZeros hs (pq_m10 _ (List.mem_of_getElem? (i := 21) rfl))) rfl (by decide +kernel) ⟨Nat.le_of_ble_eq_true rfl, Nat.le_of_ble_eq_true rfl⟩ 0 1 rfl rfl rfl hl.1 rfl rfl (Nat.le_of_ble_eq_true rfl) dX1_settle_52 ⟨Nat.zero_le _, Nat.zero_le _⟩ [0, 1] [] [0, 1] rfl rfl (by decide) (by decide) (by decide) rfl (fun H locs (hh : pq_H D A s (wX1_settle cI th th_numbers f17) H locs) => ?_)
  refine lv_aload_n hx hb dX1_settle_55 rfl (lv_at hl 3 rfl) ?_
  refine lv_iload hx hb dX1_settle_56 (lv_at hl 2 rfl) ?_
  refine lv_iload hx hb dX1_settle_58 (lv_at hl 1 rfl) ?_
  refine lv_iload hx hb dX1_settle_60 (lv_at hl 0 rfl) ?_
  obtain ⟨f19, hu20, hf⟩ := pq_clx hf
  refine pq_cvV (n := 3) (As := [.int r1, .int r6, .int r11]) C hh (qX1_remember l D cI cL th th_numbers f17 r1 r6 r11 f19 hu20) (gvX1_remember hs (pq_m11 _ (List.mem_of_getElem? (i := 1) rfl))) rfl (by decide +kernel) ⟨Nat.le_of_ble_eq_true rfl, Nat.le_of_ble_eq_true rfl⟩ 0 1 rfl rfl rfl hl.1 rfl rfl (Nat.le_of_ble_eq_true rfl) dX1_settle_62 ⟨Nat.zero_le _, Nat.zero_le _⟩ [0, 1] [] [0, 1] rfl rfl (by decide) (by decide) (by decide) rfl (fun H locs (hh : pq_H D A s (wX1_settle cI th th_numbers f19) H locs) => ?_)
  refine lv_iconst (v := (0 : Int32)) hx hb dX1_settle_65 (by decide) ?_
  refine lv_istore (lv' := [(8, .int (0 : Int32)), (7, .int r11), (6, .int r6), (5, .int r1), (0, .ref th), (1, .int a1), (2, .int a2), (3, .int a3), (4, .int a4)]) hx hb dX1_settle_66 hl (by decide) rfl (fun ls hl => ?_)
  refine lv_iconst (v := (0 : Int32)) hx hb dX1_settle_68 (by decide) ?_
  refine lv_istore (lv' := [(9, .int (0 : Int32)), (8, .int (0 : Int32)), (7, .int r11), (6, .int r6), (5, .int r1), (0, .ref th), (1, .int a1), (2, .int a2), (3, .int a3), (4, .int a4)]) hx hb dX1_settle_69 hl (by decide) rfl (fun ls hl => ?_)
  exact J71 1100 (0 : Int32) (0 : Int32) f19 _ _ hh ls (lv_sub hl [5, 1, 0] rfl) hf
set_option maxHeartbeats 4000000 in
set_option maxRecDepth 100000 in
theorem qX2_needed (l : Launch) (D : va_G) (cI cL : ClassId) (a0 : Int32) (res : Int32) (hf : fX2_needed a0 = some res) : pq_CI l yX2_needed qsX2_needed 0 0 D cI cL [.int a0] [] [] res := by
  refine pq_mkI (cc := cX2_needed) (maxL := 1) (RT := .int) (by decide) rfl (Nat.le_of_ble_eq_true rfl) ?_
  intro p e s m args below meth c Q A C hh hret ls hl
  have hx := C.1
  have hb := C.2.1
  have hml := C.2.2.1
  have hown : s.vm.findClass RX2 = some m.cls := C.2.2.2.1
  have hs : ∀ w ∈ wsL_law, w ∈ qsX2_needed := fun _ h => List.mem_cons_of_mem _ h
  have htw : ∀ w ∈ wsL_law, w.before args s = true := fun w h => C.2.2.2.2.1 w (hs w h)
  have hl : lv_has ls 1 [(0, .int a0)] := hl
  rw [fX2_needed] at hf
  refine lv_iload_n hx hb dX2_needed_0 rfl (lv_at hl 0 rfl) ?_
  refine lv_bipush (v := (7 : Int32)) hx hb dX2_needed_1 (by decide) ?_
  refine lv_iadd hx hb dX2_needed_3 ?_
  refine lv_iconst (v := (3 : Int32)) hx hb dX2_needed_4 (by decide) ?_
  refine lv_ishr hx hb dX2_needed_5 ?_
  obtain rfl := Option.some.inj hf
  exact hret _ _ _ ls hh dX2_needed_6 rfl
set_option maxHeartbeats 4000000 in
set_option maxRecDepth 100000 in
theorem qX2_byteAt (l : Launch) (D : va_G) (cI cL : ClassId) (th : Nat) (th_row : Nat) (c_length : Int32) (f_row : Nat → Int32) (a1 : Int32) (res : Int32) (hf : fX2_byteAt a1 c_length f_row = some res) : pq_CI l yX2_byteAt qsX2_byteAt 0 0 D cI cL [.ref th, .int a1] (wX2_byteAt cI th th_row c_length f_row) (wX2_byteAt cI th th_row c_length f_row) res := by
  refine pq_mkI (cc := cX2_byteAt) (maxL := 2) (RT := .int) (by decide) rfl (Nat.le_of_ble_eq_true rfl) ?_
  intro p e s m args below meth c Q A C hh hret ls hl
  have hx := C.1
  have hb := C.2.1
  have hml := C.2.2.1
  have hown : s.vm.findClass RX2 = some m.cls := C.2.2.2.1
  have hs : ∀ w ∈ wsL_law, w ∈ qsX2_byteAt := fun _ h => List.mem_cons_of_mem _ h
  have htw : ∀ w ∈ wsL_law, w.before args s = true := fun w h => C.2.2.2.2.1 w (hs w h)
  have hl : lv_has ls 2 [(0, .ref th), (1, .int a1)] := hl
  have i2 : ∀ w ∈ wsX20, w ∈ qsX2_byteAt := fun w h => hs w (pq_i2 w h)
  have kc19 := htw (.constant RX2 19 (-100000)) (pq_m27 _ (List.mem_of_getElem? (i := 17) rfl))
  have kf11 := htw (.fieldLink RX2 11 "VoiceDesk$Bytes" "row" "[I") (pq_m3 _ (List.mem_of_getElem? (i := 14) rfl))
  have kf15 := htw (.fieldLink RX2 15 "VoiceDesk$Bytes" "length" "I") (pq_m3 _ (List.mem_of_getElem? (i := 15) rfl))
  have J12 : ∀ (H : Heap) (locs : List Loc), pq_H D A s (wX2_byteAt cI th th_row c_length f_row) H locs → ∀ ls : Array Slot, lv_has ls 2 [] → fX2_byteAt_b12  c_length f_row  = some res → W p l e (pq_rm 0 0) s m args below meth c H locs 0 0 Q (F0 m 12 ls []) := by
    intro  H locs hh ls hl hf
    rw [fX2_byteAt_b12] at hf
    refine lv_ldc (v := (-100000 : Int32)) hx hb hown kc19 dX2_byteAt_12 ?_
    refine lv_goto (tgt := 23) hx hb dX2_byteAt_14 (by decide) ?_
    obtain rfl := Option.some.inj hf
    exact hret _ _ _ ls hh dX2_byteAt_23 rfl
  rw [fX2_byteAt] at hf
  refine lv_iload_n hx hb dX2_byteAt_0 rfl (lv_at hl 1 rfl) ?_
  refine lv_if_lt (tgt := 12) hx hb dX2_byteAt_1 (by decide) (fun h1 => ?_) (fun h1 => ?_)
  · have hf := pq_brt hf h1
    exact J12  _ _ hh ls (lv_sub hl [] rfl) hf
  · have hf := pq_brf hf h1
    refine lv_iload_n hx hb dX2_byteAt_4 rfl (lv_at hl 1 rfl) ?_
    refine lv_aload_n hx hb dX2_byteAt_5 rfl (lv_at hl 0 rfl) ?_
    refine pq_get C hh i2 0 2 rfl rfl 1 (by decide) kf15 rfl rfl dX2_byteAt_6 ?_
    refine lv_icmp_lt (tgt := 17) hx hb dX2_byteAt_9 (by decide) (fun h2 => ?_) (fun h2 => ?_)
    · have hf := pq_brt hf h2
      refine lv_aload_n hx hb dX2_byteAt_17 rfl (lv_at hl 0 rfl) ?_
      refine pq_get C hh i2 0 2 rfl rfl 0 (by decide) kf11 rfl rfl dX2_byteAt_18 ?_
      refine lv_iload_n hx hb dX2_byteAt_21 rfl (lv_at hl 1 rfl) ?_
      obtain ⟨h3, hf⟩ := pq_rdx hf
      refine pq_iald C hh 1 rfl h3 dX2_byteAt_22 (fun v4 e5 => ?_)
      have hf := hf v4 e5
      obtain rfl := Option.some.inj hf
      exact hret _ _ _ ls hh dX2_byteAt_23 rfl
    · have hf := pq_brf hf h2
      exact J12  _ _ hh ls (lv_sub hl [] rfl) hf
set_option maxHeartbeats 4000000 in
set_option maxRecDepth 100000 in
theorem qX2_add (l : Launch) (D : va_G) (cI cL : ClassId) (th : Nat) (th_row : Nat) (c_length : Int32) (f_row : Nat → Int32) (a1 : Int32) (res : Int32 × (Nat → Int32)) (hf : fX2_add a1 c_length f_row = some res) : pq_CV l yX2_add qsX2_add 0 0 D cI cL [.ref th, .int a1] (wX2_add cI th th_row c_length f_row) (wX2_add cI th th_row res.1 res.2) := by
  refine pq_mkV (cc := cX2_add) (maxL := 2) (by decide) rfl (Nat.le_of_ble_eq_true rfl) ?_
  intro p e s m args below meth c Q A C hh hret ls hl
  have hx := C.1
  have hb := C.2.1
  have hml := C.2.2.1
  have hown : s.vm.findClass RX2 = some m.cls := C.2.2.2.1
  have hs : ∀ w ∈ wsL_law, w ∈ qsX2_add := fun _ h => List.mem_cons_of_mem _ h
  have htw : ∀ w ∈ wsL_law, w.before args s = true := fun w h => C.2.2.2.2.1 w (hs w h)
  have hl : lv_has ls 2 [(0, .ref th), (1, .int a1)] := hl
  have i2 : ∀ w ∈ wsX20, w ∈ qsX2_add := fun w h => hs w (pq_i2 w h)
  have kf11 := htw (.fieldLink RX2 11 "VoiceDesk$Bytes" "row" "[I") (pq_m3 _ (List.mem_of_getElem? (i := 14) rfl))
  have kf15 := htw (.fieldLink RX2 15 "VoiceDesk$Bytes" "length" "I") (pq_m3 _ (List.mem_of_getElem? (i := 15) rfl))
  rw [fX2_add] at hf
  refine lv_aload_n hx hb dX2_add_0 rfl (lv_at hl 0 rfl) ?_
  refine pq_get C hh i2 0 2 rfl rfl 1 (by decide) kf15 rfl rfl dX2_add_1 ?_
  refine lv_sipush (v := (1000 : Int32)) hx hb dX2_add_4 (by decide) ?_
  refine lv_icmp_ge (tgt := 34) hx hb dX2_add_7 (by decide) (fun h1 => ?_) (fun h1 => ?_)
  · have hf := pq_brt hf h1
    obtain rfl := Option.some.inj hf
    exact hret _ _ _ ls hh dX2_add_34
  · have hf := pq_brf hf h1
    refine lv_aload_n hx hb dX2_add_10 rfl (lv_at hl 0 rfl) ?_
    refine pq_get C hh i2 0 2 rfl rfl 0 (by decide) kf11 rfl rfl dX2_add_11 ?_
    refine lv_aload_n hx hb dX2_add_14 rfl (lv_at hl 0 rfl) ?_
    refine pq_get C hh i2 0 2 rfl rfl 1 (by decide) kf15 rfl rfl dX2_add_15 ?_
    refine lv_iload_n hx hb dX2_add_18 rfl (lv_at hl 1 rfl) ?_
    refine lv_sipush (v := (255 : Int32)) hx hb dX2_add_19 (by decide) ?_
    refine lv_iand hx hb dX2_add_22 ?_
    obtain ⟨h2, hf⟩ := pq_wrx hf
    refine pq_iast C hh 1 rfl h2 dX2_add_23 (fun H locs f3 e4 (hh : pq_H D A s (wX2_add cI th th_row c_length f3) H locs) => ?_)
    have hf := hf f3 e4
    refine lv_aload_n hx hb dX2_add_24 rfl (lv_at hl 0 rfl) ?_
    refine lv_dup hx hb dX2_add_25 rfl ?_
    refine pq_get C hh i2 0 2 rfl rfl 1 (by decide) kf15 rfl rfl dX2_add_26 ?_
    refine lv_iconst (v := (1 : Int32)) hx hb dX2_add_29 (by decide) ?_
    refine lv_iadd hx hb dX2_add_30 ?_
    refine lv_topi (fun v5 e6 => ?_)
    have hf := pq_nmx hf v5 e6
    refine pq_put (ty := .int) (v := .int v5) C hh i2 tyX2 tyX2_ok nmX2 0 2 rfl rfl 1 (by decide) kf15 rfl rfl (by decide +kernel) rfl rfl (Nat.le_of_ble_eq_true rfl) dX2_add_31 (fun H locs (hh : pq_H D A s (wX2_add cI th th_row v5 f3) H locs) => ?_)
    obtain rfl := Option.some.inj hf
    exact hret _ _ _ ls hh dX2_add_34
set_option maxHeartbeats 4000000 in
set_option maxRecDepth 100000 in
theorem qX2_addInt (l : Launch) (D : va_G) (cI cL : ClassId) (th : Nat) (th_row : Nat) (c_length : Int32) (f_row : Nat → Int32) (a1 : Int32) (res : Int32 × (Nat → Int32)) (hf : fX2_addInt a1 c_length f_row = some res) : pq_CV l yX2_addInt qsX2_addInt 1 21 D cI cL [.ref th, .int a1] (wX2_addInt cI th th_row c_length f_row) (wX2_addInt cI th th_row res.1 res.2) := by
  refine pq_mkV (cc := cX2_addInt) (maxL := 2) (by decide) rfl (Nat.le_of_ble_eq_true rfl) ?_
  intro p e s m args below meth c Q A C hh hret ls hl
  have hx := C.1
  have hb := C.2.1
  have hml := C.2.2.1
  have hown : s.vm.findClass RX2 = some m.cls := C.2.2.2.1
  have hs : ∀ w ∈ wsL_law, w ∈ qsX2_addInt := fun _ h => List.mem_cons_of_mem _ h
  have htw : ∀ w ∈ wsL_law, w.before args s = true := fun w h => C.2.2.2.2.1 w (hs w h)
  have hl : lv_has ls 2 [(0, .ref th), (1, .int a1)] := hl
  rw [fX2_addInt] at hf
  refine lv_aload_n hx hb dX2_addInt_0 rfl (lv_at hl 0 rfl) ?_
  refine lv_iload_n hx hb dX2_addInt_1 rfl (lv_at hl 1 rfl) ?_
  refine lv_bipush (v := (24 : Int32)) hx hb dX2_addInt_2 (by decide) ?_
  refine lv_ishr hx hb dX2_addInt_4 ?_
  obtain ⟨⟨c1, f2⟩, hu3, hf⟩ := pq_clx hf
  have hf := pq_nmx hf c1 rfl
  have hf := pq_nmx hf f2 rfl
  refine pq_cvV (n := 1) (As := [.int (a1 >>> ((24 : Int32) &&& 31))]) C hh (qX2_add l D cI cL th th_row c_length f_row (a1 >>> ((24 : Int32) &&& 31)) (c1, f2) hu3) (gvX2_add hs (pq_m25 _ (List.mem_of_getElem? (i := 23) rfl))) rfl (by decide +kernel) ⟨Nat.le_of_ble_eq_true rfl, Nat.le_of_ble_eq_true rfl⟩ 0 2 rfl rfl rfl hl.1 rfl rfl (Nat.le_of_ble_eq_true rfl) dX2_addInt_5 ⟨Nat.zero_le _, Nat.zero_le _⟩ [0, 1] [] [0, 1] rfl rfl (by decide) (by decide) (by decide) rfl (fun H locs (hh : pq_H D A s (wX2_addInt cI th th_row c1 f2) H locs) => ?_)
  refine lv_aload_n hx hb dX2_addInt_8 rfl (lv_at hl 0 rfl) ?_
  refine lv_iload_n hx hb dX2_addInt_9 rfl (lv_at hl 1 rfl) ?_
  refine lv_bipush (v := (16 : Int32)) hx hb dX2_addInt_10 (by decide) ?_
  refine lv_ishr hx hb dX2_addInt_12 ?_
  obtain ⟨⟨c5, f6⟩, hu7, hf⟩ := pq_clx hf
  have hf := pq_nmx hf c5 rfl
  have hf := pq_nmx hf f6 rfl
  refine pq_cvV (n := 1) (As := [.int (a1 >>> ((16 : Int32) &&& 31))]) C hh (qX2_add l D cI cL th th_row c1 f2 (a1 >>> ((16 : Int32) &&& 31)) (c5, f6) hu7) (gvX2_add hs (pq_m25 _ (List.mem_of_getElem? (i := 23) rfl))) rfl (by decide +kernel) ⟨Nat.le_of_ble_eq_true rfl, Nat.le_of_ble_eq_true rfl⟩ 0 2 rfl rfl rfl hl.1 rfl rfl (Nat.le_of_ble_eq_true rfl) dX2_addInt_13 ⟨Nat.zero_le _, Nat.zero_le _⟩ [0, 1] [] [0, 1] rfl rfl (by decide) (by decide) (by decide) rfl (fun H locs (hh : pq_H D A s (wX2_addInt cI th th_row c5 f6) H locs) => ?_)
  refine lv_aload_n hx hb dX2_addInt_16 rfl (lv_at hl 0 rfl) ?_
  refine lv_iload_n hx hb dX2_addInt_17 rfl (lv_at hl 1 rfl) ?_
  refine lv_bipush (v := (8 : Int32)) hx hb dX2_addInt_18 (by decide) ?_
  refine lv_ishr hx hb dX2_addInt_20 ?_
  obtain ⟨⟨c9, f10⟩, hu11, hf⟩ := pq_clx hf
  have hf := pq_nmx hf c9 rfl
  have hf := pq_nmx hf f10 rfl
  refine pq_cvV (n := 1) (As := [.int (a1 >>> ((8 : Int32) &&& 31))]) C hh (qX2_add l D cI cL th th_row c5 f6 (a1 >>> ((8 : Int32) &&& 31)) (c9, f10) hu11) (gvX2_add hs (pq_m25 _ (List.mem_of_getElem? (i := 23) rfl))) rfl (by decide +kernel) ⟨Nat.le_of_ble_eq_true rfl, Nat.le_of_ble_eq_true rfl⟩ 0 2 rfl rfl rfl hl.1 rfl rfl (Nat.le_of_ble_eq_true rfl) dX2_addInt_21 ⟨Nat.zero_le _, Nat.zero_le _⟩ [0, 1] [] [0, 1] rfl rfl (by decide) (by decide) (by decide) rfl (fun H locs (hh : pq_H D A s (wX2_addInt cI th th_row c9 f10) H locs) => ?_)
  refine lv_aload_n hx hb dX2_addInt_24 rfl (lv_at hl 0 rfl) ?_
  refine lv_iload_n hx hb dX2_addInt_25 rfl (lv_at hl 1 rfl) ?_
  obtain ⟨⟨c13, f14⟩, hu15, hf⟩ := pq_clx hf
  have hf := pq_nmx hf c13 rfl
  have hf := pq_nmx hf f14 rfl
  refine pq_cvV (n := 1) (As := [.int a1]) C hh (qX2_add l D cI cL th th_row c9 f10 a1 (c13, f14) hu15) (gvX2_add hs (pq_m25 _ (List.mem_of_getElem? (i := 23) rfl))) rfl (by decide +kernel) ⟨Nat.le_of_ble_eq_true rfl, Nat.le_of_ble_eq_true rfl⟩ 0 2 rfl rfl rfl hl.1 rfl rfl (Nat.le_of_ble_eq_true rfl) dX2_addInt_26 ⟨Nat.zero_le _, Nat.zero_le _⟩ [0, 1] [] [0, 1] rfl rfl (by decide) (by decide) (by decide) rfl (fun H locs (hh : pq_H D A s (wX2_addInt cI th th_row c13 f14) H locs) => ?_)
  obtain rfl := Option.some.inj hf
  exact hret _ _ _ ls hh dX2_addInt_29
