set_option maxHeartbeats 4000000 in
set_option maxRecDepth 100000 in
theorem qX0_begin (l : Launch) (D : va_G) (cI cL : ClassId) (th : Nat) (th_numbers : Nat) (c_bits : Int32) (c_se : Int32) (c_sz : Int32) (c_step : Int32) (f_numbers : Nat → Int32) (a1 : Int32) (res : Int32 × (Nat → Int32)) (hf : fX0_begin a1 c_bits f_numbers = some res) : pq_CV l yX0_begin qsX0_begin 0 0 D cI cL [.ref th, .int a1] (wX0_begin cI th th_numbers c_bits c_se c_sz c_step f_numbers) (wX0_begin cI th th_numbers res.1 c_se c_sz c_step res.2) := by
  refine pq_mkV (cc := cX0_begin) (maxL := 3) (by decide) rfl (Nat.le_of_ble_eq_true rfl) ?_
  intro p e s m args below meth c Q A C hh hret ls hl
  have hx := C.1
  have hb := C.2.1
  have hml := C.2.2.1
  have hown : s.vm.findClass RX0 = some m.cls := C.2.2.2.1
  have hs : ∀ w ∈ wsL_law, w ∈ qsX0_begin := fun _ h => List.mem_cons_of_mem _ h
  have htw : ∀ w ∈ wsL_law, w.before args s = true := fun w h => C.2.2.2.2.1 w (hs w h)
  have hl : lv_has ls 3 [(0, .ref th), (1, .int a1)] := hl
  have i0 : ∀ w ∈ wsX00, w ∈ qsX0_begin := fun w h => hs w (pq_i0 w h)
  have kc28 := htw (.constant RX0 28 (34816)) (pq_m6 _ (List.mem_of_getElem? (i := 0) rfl))
  have kf11 := htw (.fieldLink RX0 11 "VoiceDesk$Adpcm" "numbers" "[I") (pq_m2 _ (List.mem_of_getElem? (i := 16) rfl))
  have kf15 := htw (.fieldLink RX0 15 "VoiceDesk$Adpcm" "bits" "I") (pq_m2 _ (List.mem_of_getElem? (i := 17) rfl))
  have J63 : ∀ (fuel63 : Nat) (x2 : Int32) (c_bits : Int32) (f_numbers : Nat → Int32) (H : Heap) (locs : List Loc), pq_H D A s (wX0_begin cI th th_numbers c_bits c_se c_sz c_step f_numbers) H locs → ∀ ls : Array Slot, lv_has ls 3 [(0, .ref th), (2, .int x2)] → fX0_begin_b63   fuel63 x2 c_bits f_numbers = some res → W p l e (pq_rm 0 0) s m args below meth c H locs 0 0 Q (F0 m 63 ls []) := by
    intro fuel63
    induction fuel63 with
    | zero => intro x2 c_bits f_numbers H locs hh ls hl hf; rw [fX0_begin_b63] at hf; cases hf
    | succ fuel63 ih63 =>
      intro x2 c_bits f_numbers H locs hh ls hl hf
      rw [fX0_begin_b63] at hf
      refine lv_iload_n hx hb dX0_begin_63 rfl (lv_at hl 1 rfl) ?_
      refine lv_bipush (v := (6 : Int32)) hx hb dX0_begin_64 (by decide) ?_
      refine lv_icmp_ge (tgt := 86) hx hb dX0_begin_66 (by decide) (fun h19 => ?_) (fun h19 => ?_)
      · have hf := pq_brt hf h19
        obtain rfl := Option.some.inj hf
        exact hret _ _ _ ls hh dX0_begin_86
      · have hf := pq_brf hf h19
        refine lv_aload_n hx hb dX0_begin_69 rfl (lv_at hl 0 rfl) ?_
        refine pq_get C hh i0 0 0 rfl rfl 0 (by decide) kf11 rfl rfl dX0_begin_70 ?_
        refine lv_bipush (v := (16 : Int32)) hx hb dX0_begin_73 (by decide) ?_
        refine lv_iload_n hx hb dX0_begin_75 rfl (lv_at hl 1 rfl) ?_
        refine lv_iadd hx hb dX0_begin_76 ?_
        refine lv_bipush (v := (32 : Int32)) hx hb dX0_begin_77 (by decide) ?_
        obtain ⟨h20, hf⟩ := pq_wrx hf
        refine pq_iast C hh 1 rfl h20 dX0_begin_79 (fun H locs f21 e22 (hh : pq_H D A s (wX0_begin cI th th_numbers c_bits c_se c_sz c_step f21) H locs) => ?_)
        have hf := hf f21 e22
        obtain ⟨v23, e24⟩ : ∃ y : Int32, y = x2 + (1 : Int32) := ⟨_, rfl⟩
        refine lv_iinc (v := v23) (lv' := [(2, .int v23), (0, .ref th)]) hx hb dX0_begin_80 hl (k := 1) rfl (by rw [e24]; rfl) (by decide) rfl (fun ls hl => ?_)
        have hf := pq_nmx hf v23 e24
        refine lv_goto (tgt := 63) hx hb dX0_begin_83 (by decide) ?_
        exact ih63 v23 c_bits f21 _ _ hh ls (lv_sub hl [1, 0] rfl) hf
  have J7 : ∀ (fuel7 : Nat) (x2 : Int32) (c_bits : Int32) (f_numbers : Nat → Int32) (H : Heap) (locs : List Loc), pq_H D A s (wX0_begin cI th th_numbers c_bits c_se c_sz c_step f_numbers) H locs → ∀ ls : Array Slot, lv_has ls 3 [(0, .ref th), (2, .int x2)] → fX0_begin_b7   fuel7 x2 c_bits f_numbers = some res → W p l e (pq_rm 0 0) s m args below meth c H locs 0 0 Q (F0 m 7 ls []) := by
    intro fuel7
    induction fuel7 with
    | zero => intro x2 c_bits f_numbers H locs hh ls hl hf; rw [fX0_begin_b7] at hf; cases hf
    | succ fuel7 ih7 =>
      intro x2 c_bits f_numbers H locs hh ls hl hf
      rw [fX0_begin_b7] at hf
      refine lv_iload_n hx hb dX0_begin_7 rfl (lv_at hl 1 rfl) ?_
      refine lv_bipush (v := (24 : Int32)) hx hb dX0_begin_8 (by decide) ?_
      refine lv_icmp_ge (tgt := 26) hx hb dX0_begin_10 (by decide) (fun h1 => ?_) (fun h1 => ?_)
      · have hf := pq_brt hf h1
        refine lv_aload_n hx hb dX0_begin_26 rfl (lv_at hl 0 rfl) ?_
        refine pq_get C hh i0 0 0 rfl rfl 0 (by decide) kf11 rfl rfl dX0_begin_27 ?_
        refine lv_iconst (v := (0 : Int32)) hx hb dX0_begin_30 (by decide) ?_
        refine lv_ldc (v := (34816 : Int32)) hx hb hown kc28 dX0_begin_31 ?_
        obtain ⟨h2, hf⟩ := pq_wrx hf
        refine pq_iast C hh 1 rfl h2 dX0_begin_33 (fun H locs f3 e4 (hh : pq_H D A s (wX0_begin cI th th_numbers c_bits c_se c_sz c_step f3) H locs) => ?_)
        have hf := hf f3 e4
        refine lv_aload_n hx hb dX0_begin_34 rfl (lv_at hl 0 rfl) ?_
        refine pq_get C hh i0 0 0 rfl rfl 0 (by decide) kf11 rfl rfl dX0_begin_35 ?_
        refine lv_iconst (v := (1 : Int32)) hx hb dX0_begin_38 (by decide) ?_
        refine lv_sipush (v := (544 : Int32)) hx hb dX0_begin_39 (by decide) ?_
        obtain ⟨h5, hf⟩ := pq_wrx hf
        refine pq_iast C hh 1 rfl h5 dX0_begin_42 (fun H locs f6 e7 (hh : pq_H D A s (wX0_begin cI th th_numbers c_bits c_se c_sz c_step f6) H locs) => ?_)
        have hf := hf f6 e7
        refine lv_aload_n hx hb dX0_begin_43 rfl (lv_at hl 0 rfl) ?_
        refine pq_get C hh i0 0 0 rfl rfl 0 (by decide) kf11 rfl rfl dX0_begin_44 ?_
        refine lv_bipush (v := (14 : Int32)) hx hb dX0_begin_47 (by decide) ?_
        refine lv_bipush (v := (32 : Int32)) hx hb dX0_begin_49 (by decide) ?_
        obtain ⟨h8, hf⟩ := pq_wrx hf
        refine pq_iast C hh 1 rfl h8 dX0_begin_51 (fun H locs f9 e10 (hh : pq_H D A s (wX0_begin cI th th_numbers c_bits c_se c_sz c_step f9) H locs) => ?_)
        have hf := hf f9 e10
        refine lv_aload_n hx hb dX0_begin_52 rfl (lv_at hl 0 rfl) ?_
        refine pq_get C hh i0 0 0 rfl rfl 0 (by decide) kf11 rfl rfl dX0_begin_53 ?_
        refine lv_bipush (v := (15 : Int32)) hx hb dX0_begin_56 (by decide) ?_
        refine lv_bipush (v := (32 : Int32)) hx hb dX0_begin_58 (by decide) ?_
        obtain ⟨h11, hf⟩ := pq_wrx hf
        refine pq_iast C hh 1 rfl h11 dX0_begin_60 (fun H locs f12 e13 (hh : pq_H D A s (wX0_begin cI th th_numbers c_bits c_se c_sz c_step f12) H locs) => ?_)
        have hf := hf f12 e13
        refine lv_iconst (v := (0 : Int32)) hx hb dX0_begin_61 (by decide) ?_
        refine lv_istore_n (lv' := [(2, .int (0 : Int32)), (0, .ref th)]) hx hb dX0_begin_62 rfl hl (by decide) rfl (fun ls hl => ?_)
        exact J63 1100 (0 : Int32) c_bits f12 _ _ hh ls (lv_sub hl [1, 0] rfl) hf
      · have hf := pq_brf hf h1
        refine lv_aload_n hx hb dX0_begin_13 rfl (lv_at hl 0 rfl) ?_
        refine pq_get C hh i0 0 0 rfl rfl 0 (by decide) kf11 rfl rfl dX0_begin_14 ?_
        refine lv_iload_n hx hb dX0_begin_17 rfl (lv_at hl 1 rfl) ?_
        refine lv_iconst (v := (0 : Int32)) hx hb dX0_begin_18 (by decide) ?_
        obtain ⟨h14, hf⟩ := pq_wrx hf
        refine pq_iast C hh 1 rfl h14 dX0_begin_19 (fun H locs f15 e16 (hh : pq_H D A s (wX0_begin cI th th_numbers c_bits c_se c_sz c_step f15) H locs) => ?_)
        have hf := hf f15 e16
        obtain ⟨v17, e18⟩ : ∃ y : Int32, y = x2 + (1 : Int32) := ⟨_, rfl⟩
        refine lv_iinc (v := v17) (lv' := [(2, .int v17), (0, .ref th)]) hx hb dX0_begin_20 hl (k := 1) rfl (by rw [e18]; rfl) (by decide) rfl (fun ls hl => ?_)
        have hf := pq_nmx hf v17 e18
        refine lv_goto (tgt := 7) hx hb dX0_begin_23 (by decide) ?_
        exact ih7 v17 c_bits f15 _ _ hh ls (lv_sub hl [1, 0] rfl) hf
  rw [fX0_begin] at hf
  refine lv_aload_n hx hb dX0_begin_0 rfl (lv_at hl 0 rfl) ?_
  refine lv_iload_n hx hb dX0_begin_1 rfl (lv_at hl 1 rfl) ?_
  refine pq_put (ty := .int) (v := .int a1) C hh i0 tyX0 tyX0_ok nmX0 0 0 rfl rfl 1 (by decide) kf15 rfl rfl (by decide +kernel) rfl rfl (Nat.le_of_ble_eq_true rfl) dX0_begin_2 (fun H locs (hh : pq_H D A s (wX0_begin cI th th_numbers a1 c_se c_sz c_step f_numbers) H locs) => ?_)
  refine lv_iconst (v := (0 : Int32)) hx hb dX0_begin_5 (by decide) ?_
  refine lv_istore_n (lv' := [(2, .int (0 : Int32)), (0, .ref th), (1, .int a1)]) hx hb dX0_begin_6 rfl hl (by decide) rfl (fun ls hl => ?_)
  exact J7 1100 (0 : Int32) a1 f_numbers _ _ hh ls (lv_sub hl [1, 0] rfl) hf
set_option maxHeartbeats 4000000 in
set_option maxRecDepth 100000 in
theorem qX0_number (l : Launch) (D : va_G) (cI cL : ClassId) (th : Nat) (th_numbers : Nat) (c_bits : Int32) (c_se : Int32) (c_sz : Int32) (c_step : Int32) (f_numbers : Nat → Int32) (a1 : Int32) (res : Int32) (hf : fX0_number a1 f_numbers = some res) : pq_CI l yX0_number qsX0_number 0 0 D cI cL [.ref th, .int a1] (wX0_number cI th th_numbers c_bits c_se c_sz c_step f_numbers) (wX0_number cI th th_numbers c_bits c_se c_sz c_step f_numbers) res := by
  refine pq_mkI (cc := cX0_number) (maxL := 2) (RT := .int) (by decide) rfl (Nat.le_of_ble_eq_true rfl) ?_
  intro p e s m args below meth c Q A C hh hret ls hl
  have hx := C.1
  have hb := C.2.1
  have hml := C.2.2.1
  have hown : s.vm.findClass RX0 = some m.cls := C.2.2.2.1
  have hs : ∀ w ∈ wsL_law, w ∈ qsX0_number := fun _ h => List.mem_cons_of_mem _ h
  have htw : ∀ w ∈ wsL_law, w.before args s = true := fun w h => C.2.2.2.2.1 w (hs w h)
  have hl : lv_has ls 2 [(0, .ref th), (1, .int a1)] := hl
  have i0 : ∀ w ∈ wsX00, w ∈ qsX0_number := fun w h => hs w (pq_i0 w h)
  have kc29 := htw (.constant RX0 29 (-100000)) (pq_m25 _ (List.mem_of_getElem? (i := 10) rfl))
  have kf11 := htw (.fieldLink RX0 11 "VoiceDesk$Adpcm" "numbers" "[I") (pq_m2 _ (List.mem_of_getElem? (i := 16) rfl))
  have J10 : ∀ (H : Heap) (locs : List Loc), pq_H D A s (wX0_number cI th th_numbers c_bits c_se c_sz c_step f_numbers) H locs → ∀ ls : Array Slot, lv_has ls 2 [] → fX0_number_b10  f_numbers  = some res → W p l e (pq_rm 0 0) s m args below meth c H locs 0 0 Q (F0 m 10 ls []) := by
    intro  H locs hh ls hl hf
    rw [fX0_number_b10] at hf
    refine lv_ldc (v := (-100000 : Int32)) hx hb hown kc29 dX0_number_10 ?_
    refine lv_goto (tgt := 21) hx hb dX0_number_12 (by decide) ?_
    obtain rfl := Option.some.inj hf
    exact hret _ _ _ ls hh dX0_number_21 rfl
  rw [fX0_number] at hf
  refine lv_iload_n hx hb dX0_number_0 rfl (lv_at hl 1 rfl) ?_
  refine lv_if_lt (tgt := 10) hx hb dX0_number_1 (by decide) (fun h1 => ?_) (fun h1 => ?_)
  · have hf := pq_brt hf h1
    exact J10  _ _ hh ls (lv_sub hl [] rfl) hf
  · have hf := pq_brf hf h1
    refine lv_iload_n hx hb dX0_number_4 rfl (lv_at hl 1 rfl) ?_
    refine lv_bipush (v := (24 : Int32)) hx hb dX0_number_5 (by decide) ?_
    refine lv_icmp_lt (tgt := 15) hx hb dX0_number_7 (by decide) (fun h2 => ?_) (fun h2 => ?_)
    · have hf := pq_brt hf h2
      refine lv_aload_n hx hb dX0_number_15 rfl (lv_at hl 0 rfl) ?_
      refine pq_get C hh i0 0 0 rfl rfl 0 (by decide) kf11 rfl rfl dX0_number_16 ?_
      refine lv_iload_n hx hb dX0_number_19 rfl (lv_at hl 1 rfl) ?_
      obtain ⟨h3, hf⟩ := pq_rdx hf
      refine pq_iald C hh 1 rfl h3 dX0_number_20 (fun v4 e5 => ?_)
      have hf := hf v4 e5
      obtain rfl := Option.some.inj hf
      exact hret _ _ _ ls hh dX0_number_21 rfl
    · have hf := pq_brf hf h2
      exact J10  _ _ hh ls (lv_sub hl [] rfl) hf
set_option maxHeartbeats 4000000 in
set_option maxRecDepth 100000 in
theorem qX0_size (l : Launch) (D : va_G) (cI cL : ClassId) (a0 : Int32) (res : Int32) (hf : fX0_size a0 = some res) : pq_CI l yX0_size qsX0_size 0 0 D cI cL [.int a0] [] [] res := by
  refine pq_mkI (cc := cX0_size) (maxL := 2) (RT := .int) (by decide) rfl (Nat.le_of_ble_eq_true rfl) ?_
  intro p e s m args below meth c Q A C hh hret ls hl
  have hx := C.1
  have hb := C.2.1
  have hml := C.2.2.1
  have hown : s.vm.findClass RX0 = some m.cls := C.2.2.2.1
  have hs : ∀ w ∈ wsL_law, w ∈ qsX0_size := fun _ h => List.mem_cons_of_mem _ h
  have htw : ∀ w ∈ wsL_law, w.before args s = true := fun w h => C.2.2.2.2.1 w (hs w h)
  have hl : lv_has ls 2 [(0, .int a0)] := hl
  have J2 : ∀ (fuel2 : Nat) (x0 : Int32) (x1 : Int32) (H : Heap) (locs : List Loc), pq_H D A s [] H locs → ∀ ls : Array Slot, lv_has ls 2 [(0, .int x0), (1, .int x1)] → fX0_size_b2   fuel2 x0 x1 = some res → W p l e (pq_rm 0 0) s m args below meth c H locs 0 0 Q (F0 m 2 ls []) := by
    intro fuel2
    induction fuel2 with
    | zero => intro x0 x1 H locs hh ls hl hf; rw [fX0_size_b2] at hf; cases hf
    | succ fuel2 ih2 =>
      intro x0 x1 H locs hh ls hl hf
      rw [fX0_size_b2] at hf
      refine lv_iload_n hx hb dX0_size_2 rfl (lv_at hl 1 rfl) ?_
      refine lv_bipush (v := (15 : Int32)) hx hb dX0_size_3 (by decide) ?_
      refine lv_icmp_ge (tgt := 21) hx hb dX0_size_5 (by decide) (fun h1 => ?_) (fun h1 => ?_)
      · have hf := pq_brt hf h1
        refine lv_iload_n hx hb dX0_size_21 rfl (lv_at hl 1 rfl) ?_
        obtain rfl := Option.some.inj hf
        exact hret _ _ _ ls hh dX0_size_22 rfl
      · have hf := pq_brf hf h1
        refine lv_iload_n hx hb dX0_size_8 rfl (lv_at hl 0 rfl) ?_
        refine lv_iconst (v := (1 : Int32)) hx hb dX0_size_9 (by decide) ?_
        refine lv_iload_n hx hb dX0_size_10 rfl (lv_at hl 1 rfl) ?_
        refine lv_ishl hx hb dX0_size_11 ?_
        refine lv_icmp_lt (tgt := 21) hx hb dX0_size_12 (by decide) (fun h2 => ?_) (fun h2 => ?_)
        · have hf := pq_brt hf h2
          refine lv_iload_n hx hb dX0_size_21 rfl (lv_at hl 1 rfl) ?_
          obtain rfl := Option.some.inj hf
          exact hret _ _ _ ls hh dX0_size_22 rfl
        · have hf := pq_brf hf h2
          obtain ⟨v3, e4⟩ : ∃ y : Int32, y = x1 + (1 : Int32) := ⟨_, rfl⟩
          refine lv_iinc (v := v3) (lv' := [(1, .int v3), (0, .int x0)]) hx hb dX0_size_15 hl (k := 1) rfl (by rw [e4]; rfl) (by decide) rfl (fun ls hl => ?_)
          have hf := pq_nmx hf v3 e4
          refine lv_goto (tgt := 2) hx hb dX0_size_18 (by decide) ?_
          exact ih2 x0 v3 _ _ hh ls (lv_sub hl [1, 0] rfl) hf
  rw [fX0_size] at hf
  refine lv_iconst (v := (0 : Int32)) hx hb dX0_size_0 (by decide) ?_
  refine lv_istore_n (lv' := [(1, .int (0 : Int32)), (0, .int a0)]) hx hb dX0_size_1 rfl hl (by decide) rfl (fun ls hl => ?_)
  exact J2 1100 a0 (0 : Int32) _ _ hh ls (lv_sub hl [1, 0] rfl) hf
set_option maxHeartbeats 4000000 in
set_option maxRecDepth 100000 in
theorem qX0_shifted (l : Launch) (D : va_G) (cI cL : ClassId) (a0 : Int32) (a1 : Int32) (res : Int32) (hf : fX0_shifted a0 a1 = some res) : pq_CI l yX0_shifted qsX0_shifted 0 0 D cI cL [.int a0, .int a1] [] [] res := by
  refine pq_mkI (cc := cX0_shifted) (maxL := 2) (RT := .int) (by decide) rfl (Nat.le_of_ble_eq_true rfl) ?_
  intro p e s m args below meth c Q A C hh hret ls hl
  have hx := C.1
  have hb := C.2.1
  have hml := C.2.2.1
  have hown : s.vm.findClass RX0 = some m.cls := C.2.2.2.1
  have hs : ∀ w ∈ wsL_law, w ∈ qsX0_shifted := fun _ h => List.mem_cons_of_mem _ h
  have htw : ∀ w ∈ wsL_law, w.before args s = true := fun w h => C.2.2.2.2.1 w (hs w h)
  have hl : lv_has ls 2 [(0, .int a0), (1, .int a1)] := hl
  rw [fX0_shifted] at hf
  refine lv_iload_n hx hb dX0_shifted_0 rfl (lv_at hl 1 rfl) ?_
  refine lv_if_ge (tgt := 11) hx hb dX0_shifted_1 (by decide) (fun h1 => ?_) (fun h1 => ?_)
  · have hf := pq_brt hf h1
    refine lv_iload_n hx hb dX0_shifted_11 rfl (lv_at hl 0 rfl) ?_
    refine lv_iload_n hx hb dX0_shifted_12 rfl (lv_at hl 1 rfl) ?_
    refine lv_ishl hx hb dX0_shifted_13 ?_
    obtain rfl := Option.some.inj hf
    exact hret _ _ _ ls hh dX0_shifted_14 rfl
  · have hf := pq_brf hf h1
    refine lv_iload_n hx hb dX0_shifted_4 rfl (lv_at hl 0 rfl) ?_
    refine lv_iload_n hx hb dX0_shifted_5 rfl (lv_at hl 1 rfl) ?_
    refine lv_ineg hx hb dX0_shifted_6 ?_
    refine lv_ishr hx hb dX0_shifted_7 ?_
    refine lv_goto (tgt := 14) hx hb dX0_shifted_8 (by decide) ?_
    obtain rfl := Option.some.inj hf
    exact hret _ _ _ ls hh dX0_shifted_14 rfl
set_option maxHeartbeats 4000000 in
set_option maxRecDepth 100000 in
theorem qX0_times (l : Launch) (D : va_G) (cI cL : ClassId) (a0 : Int32) (a1 : Int32) (res : Int32) (hf : fX0_times a0 a1 = some res) : pq_CI l yX0_times qsX0_times 1 21 D cI cL [.int a0, .int a1] [] [] res := by
  refine pq_mkI (cc := cX0_times) (maxL := 8) (RT := .int) (by decide) rfl (Nat.le_of_ble_eq_true rfl) ?_
  intro p e s m args below meth c Q A C hh hret ls hl
  have hx := C.1
  have hb := C.2.1
  have hml := C.2.2.1
  have hown : s.vm.findClass RX0 = some m.cls := C.2.2.2.1
  have hs : ∀ w ∈ wsL_law, w ∈ qsX0_times := fun _ h => List.mem_cons_of_mem _ h
  have htw : ∀ w ∈ wsL_law, w.before args s = true := fun w h => C.2.2.2.2.1 w (hs w h)
  have hl : lv_has ls 8 [(0, .int a0), (1, .int a1)] := hl
  have kim := htw (.initialized "java/lang/Math") (pq_m10 _ (List.mem_of_getElem? (i := 17) rfl))
  have kk54 := htw (.code Lib.Math.abs.name Lib.Math.abs.code 1 (some .int)) (pq_m11 _ (List.mem_of_getElem? (i := 22) rfl))
  have km54 := htw (.methodLink RX0 54 Lib.Math.abs.name) (pq_m11 _ (List.mem_of_getElem? (i := 20) rfl))
  have ks54 := htw (.static Lib.Math.abs.name) (pq_m11 _ (List.mem_of_getElem? (i := 21) rfl))
  have J93 : ∀ (x7 : Int32) (s0 : Int32) (s1 : Int32) (H : Heap) (locs : List Loc), pq_H D A s [] H locs → ∀ ls : Array Slot, lv_has ls 8 [(7, .int x7)] → fX0_times_b93   x7 s0 s1 = some res → W p l e (pq_rm 1 21) s m args below meth c H locs 0 0 Q (F0 m 93 ls [.int s1, .int s0]) := by
    intro x7 s0 s1 H locs hh ls hl hf
    rw [fX0_times_b93] at hf
    refine lv_icmp_eq (tgt := 102) hx hb dX0_times_93 (by decide) (fun h22 => ?_) (fun h22 => ?_)
    · have hf := pq_brt hf h22
      refine lv_iload hx hb dX0_times_102 (lv_at hl 0 rfl) ?_
      obtain rfl := Option.some.inj hf
      exact hret _ _ _ ls hh dX0_times_104 rfl
    · have hf := pq_brf hf h22
      refine lv_iload hx hb dX0_times_96 (lv_at hl 0 rfl) ?_
      refine lv_ineg hx hb dX0_times_98 ?_
      refine lv_goto (tgt := 104) hx hb dX0_times_99 (by decide) ?_
      obtain rfl := Option.some.inj hf
      exact hret _ _ _ ls hh dX0_times_104 rfl
  have J84 : ∀ (x1 : Int32) (x7 : Int32) (s0 : Int32) (H : Heap) (locs : List Loc), pq_H D A s [] H locs → ∀ ls : Array Slot, lv_has ls 8 [(1, .int x1), (7, .int x7)] → fX0_times_b84   x1 x7 s0 = some res → W p l e (pq_rm 1 21) s m args below meth c H locs 0 0 Q (F0 m 84 ls [.int s0]) := by
    intro x1 x7 s0 H locs hh ls hl hf
    rw [fX0_times_b84] at hf
    refine lv_iload_n hx hb dX0_times_84 rfl (lv_at hl 0 rfl) ?_
    refine lv_if_ge (tgt := 92) hx hb dX0_times_85 (by decide) (fun h21 => ?_) (fun h21 => ?_)
    · have hf := pq_brt hf h21
      refine lv_iconst (v := (0 : Int32)) hx hb dX0_times_92 (by decide) ?_
      exact J93 x7 s0 (0 : Int32) _ _ hh ls (lv_sub hl [1] rfl) hf
    · have hf := pq_brf hf h21
      refine lv_iconst (v := (1 : Int32)) hx hb dX0_times_88 (by decide) ?_
      refine lv_goto (tgt := 93) hx hb dX0_times_89 (by decide) ?_
      exact J93 x7 s0 (1 : Int32) _ _ hh ls (lv_sub hl [1] rfl) hf
  have J32 : ∀ (x0 : Int32) (x1 : Int32) (x3 : Int32) (s0 : Int32) (H : Heap) (locs : List Loc), pq_H D A s [] H locs → ∀ ls : Array Slot, lv_has ls 8 [(0, .int x0), (1, .int x1), (3, .int x3)] → fX0_times_b32   x0 x1 x3 s0 = some res → W p l e (pq_rm 1 21) s m args below meth c H locs 0 0 Q (F0 m 32 ls [.int s0]) := by
    intro x0 x1 x3 s0 H locs hh ls hl hf
    rw [fX0_times_b32] at hf
    refine lv_istore (lv' := [(4, .int s0), (0, .int x0), (1, .int x1), (3, .int x3)]) hx hb dX0_times_32 hl (by decide) rfl (fun ls hl => ?_)
    refine lv_iload_n hx hb dX0_times_34 rfl (lv_at hl 3 rfl) ?_
    refine lv_iload_n hx hb dX0_times_35 rfl (lv_at hl 2 rfl) ?_
    refine lv_bipush (v := (6 : Int32)) hx hb dX0_times_36 (by decide) ?_
    refine lv_ishr hx hb dX0_times_38 ?_
    refine lv_bipush (v := (15 : Int32)) hx hb dX0_times_39 (by decide) ?_
    refine lv_iand hx hb dX0_times_41 ?_
    refine lv_iadd hx hb dX0_times_42 ?_
    refine lv_bipush (v := (13 : Int32)) hx hb dX0_times_43 (by decide) ?_
    refine lv_isub hx hb dX0_times_45 ?_
    refine lv_topi (fun v12 e13 => ?_)
    have hf := pq_nmx hf v12 e13
    refine lv_istore (lv' := [(5, .int v12), (4, .int s0), (0, .int x0), (1, .int x1), (3, .int x3)]) hx hb dX0_times_46 hl (by decide) rfl (fun ls hl => ?_)
    refine lv_iload hx hb dX0_times_48 (lv_at hl 1 rfl) ?_
    refine lv_iload_n hx hb dX0_times_50 rfl (lv_at hl 3 rfl) ?_
    refine lv_bipush (v := (63 : Int32)) hx hb dX0_times_51 (by decide) ?_
    refine lv_iand hx hb dX0_times_53 ?_
    refine lv_imul hx hb dX0_times_54 ?_
    refine lv_bipush (v := (48 : Int32)) hx hb dX0_times_55 (by decide) ?_
    refine lv_iadd hx hb dX0_times_57 ?_
    refine lv_iconst (v := (4 : Int32)) hx hb dX0_times_58 (by decide) ?_
    refine lv_ishr hx hb dX0_times_59 ?_
    refine lv_topi (fun v14 e15 => ?_)
    have hf := pq_nmx hf v14 e15
    refine lv_istore (lv' := [(6, .int v14), (5, .int v12), (4, .int s0), (0, .int x0), (1, .int x1), (3, .int x3)]) hx hb dX0_times_60 hl (by decide) rfl (fun ls hl => ?_)
    refine lv_iload hx hb dX0_times_62 (lv_at hl 0 rfl) ?_
    refine lv_iload hx hb dX0_times_64 (lv_at hl 1 rfl) ?_
    obtain ⟨r16, hu17, hf⟩ := pq_clx hf
    refine pq_csI (n := 2) (As := [.int v14, .int v12]) C hh (qX0_shifted l D cI cL v14 v12 r16 hu17) (gsX0_shifted hs (pq_m12 _ (List.mem_of_getElem? (i := 2) rfl))) rfl (by decide +kernel) ⟨Nat.le_of_ble_eq_true rfl, Nat.le_of_ble_eq_true rfl⟩ hl.1 rfl rfl (Nat.le_of_ble_eq_true rfl) dX0_times_66 ⟨Nat.zero_le _, Nat.zero_le _⟩ [] [] [] rfl rfl (by decide) (by decide) (by decide) rfl (fun H locs (hh : pq_H D A s [] H locs) => ?_)
    refine lv_sipush (v := (32767 : Int32)) hx hb dX0_times_69 (by decide) ?_
    refine lv_iand hx hb dX0_times_72 ?_
    refine lv_topi (fun v18 e19 => ?_)
    have hf := pq_nmx hf v18 e19
    refine lv_istore (lv' := [(7, .int v18), (6, .int v14), (5, .int v12), (4, .int s0), (0, .int x0), (1, .int x1), (3, .int x3)]) hx hb dX0_times_73 hl (by decide) rfl (fun ls hl => ?_)
    refine lv_iload_n hx hb dX0_times_75 rfl (lv_at hl 4 rfl) ?_
    refine lv_if_ge (tgt := 83) hx hb dX0_times_76 (by decide) (fun h20 => ?_) (fun h20 => ?_)
    · have hf := pq_brt hf h20
      refine lv_iconst (v := (0 : Int32)) hx hb dX0_times_83 (by decide) ?_
      exact J84 x1 v18 (0 : Int32) _ _ hh ls (lv_sub hl [5, 0] rfl) hf
    · have hf := pq_brf hf h20
      refine lv_iconst (v := (1 : Int32)) hx hb dX0_times_79 (by decide) ?_
      refine lv_goto (tgt := 84) hx hb dX0_times_80 (by decide) ?_
      exact J84 x1 v18 (1 : Int32) _ _ hh ls (lv_sub hl [5, 0] rfl) hf
  rw [fX0_times] at hf
  refine lv_iload_n hx hb dX0_times_0 rfl (lv_at hl 0 rfl) ?_
  refine va_mabs hx hb (by rw [hml]; exact hl.1.symm) hown km54 ks54 kim kk54 (Nat.le_of_ble_eq_true rfl) (Nat.le_of_ble_eq_true rfl) (Nat.zero_le _) (Nat.zero_le _) dX0_times_1 ?_
  refine lv_topi (fun v1 e2 => ?_)
  have hf := pq_nmx hf v1 e2
  refine lv_sipush (v := (8191 : Int32)) hx hb dX0_times_4 (by decide) ?_
  refine lv_iand hx hb dX0_times_7 ?_
  refine lv_topi (fun v3 e4 => ?_)
  have hf := pq_nmx hf v3 e4
  refine lv_istore_n (lv' := [(2, .int v3), (0, .int a0), (1, .int a1)]) hx hb dX0_times_8 rfl hl (by decide) rfl (fun ls hl => ?_)
  refine lv_iload_n hx hb dX0_times_9 rfl (lv_at hl 0 rfl) ?_
  obtain ⟨r5, hu6, hf⟩ := pq_clx hf
  refine pq_csI (n := 1) (As := [.int v3]) C hh (qX0_size l D cI cL v3 r5 hu6) (gsX0_size hs (pq_m11 _ (List.mem_of_getElem? (i := 23) rfl))) rfl (by decide +kernel) ⟨Nat.le_of_ble_eq_true rfl, Nat.le_of_ble_eq_true rfl⟩ hl.1 rfl rfl (Nat.le_of_ble_eq_true rfl) dX0_times_10 ⟨Nat.zero_le _, Nat.zero_le _⟩ [] [] [] rfl rfl (by decide) (by decide) (by decide) rfl (fun H locs (hh : pq_H D A s [] H locs) => ?_)
  refine lv_bipush (v := (6 : Int32)) hx hb dX0_times_13 (by decide) ?_
  refine lv_isub hx hb dX0_times_15 ?_
  refine lv_topi (fun v7 e8 => ?_)
  have hf := pq_nmx hf v7 e8
  refine lv_istore_n (lv' := [(3, .int v7), (2, .int v3), (0, .int a0), (1, .int a1)]) hx hb dX0_times_16 rfl hl (by decide) rfl (fun ls hl => ?_)
  refine lv_iload_n hx hb dX0_times_17 rfl (lv_at hl 1 rfl) ?_
  refine lv_if_ne (tgt := 26) hx hb dX0_times_18 (by decide) (fun h9 => ?_) (fun h9 => ?_)
  · have hf := pq_brf hf h9
    refine lv_iload_n hx hb dX0_times_26 rfl (lv_at hl 1 rfl) ?_
    refine lv_iload_n hx hb dX0_times_27 rfl (lv_at hl 0 rfl) ?_
    refine lv_ineg hx hb dX0_times_28 ?_
    obtain ⟨r10, hu11, hf⟩ := pq_clx hf
    refine pq_csI (n := 2) (As := [.int v3, .int (-v7)]) C hh (qX0_shifted l D cI cL v3 (-v7) r10 hu11) (gsX0_shifted hs (pq_m12 _ (List.mem_of_getElem? (i := 2) rfl))) rfl (by decide +kernel) ⟨Nat.le_of_ble_eq_true rfl, Nat.le_of_ble_eq_true rfl⟩ hl.1 rfl rfl (Nat.le_of_ble_eq_true rfl) dX0_times_29 ⟨Nat.zero_le _, Nat.zero_le _⟩ [] [] [] rfl rfl (by decide) (by decide) (by decide) rfl (fun H locs (hh : pq_H D A s [] H locs) => ?_)
    exact J32 a0 a1 v7 r10 _ _ hh ls (lv_sub hl [2, 3, 0] rfl) hf
  · have hf := pq_brt hf h9
    refine lv_bipush (v := (32 : Int32)) hx hb dX0_times_21 (by decide) ?_
    refine lv_goto (tgt := 32) hx hb dX0_times_23 (by decide) ?_
    exact J32 a0 a1 v7 (32 : Int32) _ _ hh ls (lv_sub hl [2, 3, 0] rfl) hf
set_option maxHeartbeats 4000000 in
set_option maxRecDepth 100000 in
theorem qX6_wrapped (l : Launch) (D : va_G) (cI cL : ClassId) (a0 : Int32) (res : Int32) (hf : fX6_wrapped a0 = some res) : pq_CI l yX6_wrapped qsX6_wrapped 0 0 D cI cL [.int a0] [] [] res := by
  refine pq_mkI (cc := cX6_wrapped) (maxL := 1) (RT := .int) (by decide) rfl (Nat.le_of_ble_eq_true rfl) ?_
  intro p e s m args below meth c Q A C hh hret ls hl
  have hx := C.1
  have hb := C.2.1
  have hml := C.2.2.1
  have hown : s.vm.findClass RX6 = some m.cls := C.2.2.2.1
  have hs : ∀ w ∈ wsL_law, w ∈ qsX6_wrapped := fun _ h => List.mem_cons_of_mem _ h
  have htw : ∀ w ∈ wsL_law, w.before args s = true := fun w h => C.2.2.2.2.1 w (hs w h)
  have hl : lv_has ls 1 [(0, .int a0)] := hl
  rw [fX6_wrapped] at hf
  refine lv_iload_n hx hb dX6_wrapped_0 rfl (lv_at hl 0 rfl) ?_
  refine lv_i2s (v := a0.toInt16.toInt32) hx hb dX6_wrapped_1 rfl ?_
  obtain rfl := Option.some.inj hf
  exact hret _ _ _ ls hh dX6_wrapped_2 rfl
set_option maxHeartbeats 4000000 in
set_option maxRecDepth 100000 in
theorem qX0_stepNow (l : Launch) (D : va_G) (cI cL : ClassId) (th : Nat) (th_numbers : Nat) (c_bits : Int32) (c_se : Int32) (c_sz : Int32) (c_step : Int32) (f_numbers : Nat → Int32) (res : Int32) (hf : fX0_stepNow f_numbers = some res) : pq_CI l yX0_stepNow qsX0_stepNow 0 0 D cI cL [.ref th] (wX0_stepNow cI th th_numbers c_bits c_se c_sz c_step f_numbers) (wX0_stepNow cI th th_numbers c_bits c_se c_sz c_step f_numbers) res := by
  refine pq_mkI (cc := cX0_stepNow) (maxL := 4) (RT := .int) (by decide) rfl (Nat.le_of_ble_eq_true rfl) ?_
  intro p e s m args below meth c Q A C hh hret ls hl
  have hx := C.1
  have hb := C.2.1
  have hml := C.2.2.1
  have hown : s.vm.findClass RX0 = some m.cls := C.2.2.2.1
  have hs : ∀ w ∈ wsL_law, w ∈ qsX0_stepNow := fun _ h => List.mem_cons_of_mem _ h
  have htw : ∀ w ∈ wsL_law, w.before args s = true := fun w h => C.2.2.2.2.1 w (hs w h)
  have hl : lv_has ls 4 [(0, .ref th)] := hl
  have i0 : ∀ w ∈ wsX00, w ∈ qsX0_stepNow := fun w h => hs w (pq_i0 w h)
  have kf11 := htw (.fieldLink RX0 11 "VoiceDesk$Adpcm" "numbers" "[I") (pq_m2 _ (List.mem_of_getElem? (i := 16) rfl))
  rw [fX0_stepNow] at hf
  refine lv_aload_n hx hb dX0_stepNow_0 rfl (lv_at hl 0 rfl) ?_
  refine pq_get C hh i0 0 0 rfl rfl 0 (by decide) kf11 rfl rfl dX0_stepNow_1 ?_
  refine lv_iconst (v := (4 : Int32)) hx hb dX0_stepNow_4 (by decide) ?_
  obtain ⟨h1, hf⟩ := pq_rdx hf
  refine pq_iald C hh 1 rfl h1 dX0_stepNow_5 (fun v2 e3 => ?_)
  have hf := hf v2 e3
  refine lv_sipush (v := (256 : Int32)) hx hb dX0_stepNow_6 (by decide) ?_
  refine lv_icmp_lt (tgt := 19) hx hb dX0_stepNow_9 (by decide) (fun h4 => ?_) (fun h4 => ?_)
  · have hf := pq_brt hf h4
    refine lv_aload_n hx hb dX0_stepNow_19 rfl (lv_at hl 0 rfl) ?_
    refine pq_get C hh i0 0 0 rfl rfl 0 (by decide) kf11 rfl rfl dX0_stepNow_20 ?_
    refine lv_iconst (v := (0 : Int32)) hx hb dX0_stepNow_23 (by decide) ?_
    obtain ⟨h5, hf⟩ := pq_rdx hf
    refine pq_iald C hh 1 rfl h5 dX0_stepNow_24 (fun v6 e7 => ?_)
    have hf := hf v6 e7
    refine lv_bipush (v := (6 : Int32)) hx hb dX0_stepNow_25 (by decide) ?_
    refine lv_ishr hx hb dX0_stepNow_27 ?_
    refine lv_topi (fun v8 e9 => ?_)
    have hf := pq_nmx hf v8 e9
    refine lv_istore_n (lv' := [(1, .int v8), (0, .ref th)]) hx hb dX0_stepNow_28 rfl hl (by decide) rfl (fun ls hl => ?_)
    refine lv_aload_n hx hb dX0_stepNow_29 rfl (lv_at hl 1 rfl) ?_
    refine pq_get C hh i0 0 0 rfl rfl 0 (by decide) kf11 rfl rfl dX0_stepNow_30 ?_
    refine lv_iconst (v := (1 : Int32)) hx hb dX0_stepNow_33 (by decide) ?_
    obtain ⟨h10, hf⟩ := pq_rdx hf
    refine pq_iald C hh 1 rfl h10 dX0_stepNow_34 (fun v11 e12 => ?_)
    have hf := hf v11 e12
    refine lv_iload_n hx hb dX0_stepNow_35 rfl (lv_at hl 0 rfl) ?_
    refine lv_isub hx hb dX0_stepNow_36 ?_
    refine lv_topi (fun v13 e14 => ?_)
    have hf := pq_nmx hf v13 e14
    refine lv_istore_n (lv' := [(2, .int v13), (1, .int v8), (0, .ref th)]) hx hb dX0_stepNow_37 rfl hl (by decide) rfl (fun ls hl => ?_)
    refine lv_aload_n hx hb dX0_stepNow_38 rfl (lv_at hl 2 rfl) ?_
    refine pq_get C hh i0 0 0 rfl rfl 0 (by decide) kf11 rfl rfl dX0_stepNow_39 ?_
    refine lv_iconst (v := (4 : Int32)) hx hb dX0_stepNow_42 (by decide) ?_
    obtain ⟨h15, hf⟩ := pq_rdx hf
    refine pq_iald C hh 1 rfl h15 dX0_stepNow_43 (fun v16 e17 => ?_)
    have hf := hf v16 e17
    refine lv_iconst (v := (2 : Int32)) hx hb dX0_stepNow_44 (by decide) ?_
    refine lv_ishr hx hb dX0_stepNow_45 ?_
    refine lv_topi (fun v18 e19 => ?_)
    have hf := pq_nmx hf v18 e19
    refine lv_istore_n (lv' := [(3, .int v18), (2, .int v13), (1, .int v8), (0, .ref th)]) hx hb dX0_stepNow_46 rfl hl (by decide) rfl (fun ls hl => ?_)
    refine lv_iload_n hx hb dX0_stepNow_47 rfl (lv_at hl 1 rfl) ?_
    refine lv_if_le (tgt := 60) hx hb dX0_stepNow_48 (by decide) (fun h20 => ?_) (fun h20 => ?_)
    · have hf := pq_brt hf h20
      refine lv_iload_n hx hb dX0_stepNow_60 rfl (lv_at hl 1 rfl) ?_
      refine lv_if_ge (tgt := 76) hx hb dX0_stepNow_61 (by decide) (fun h21 => ?_) (fun h21 => ?_)
      · have hf := pq_brt hf h21
        refine lv_iload_n hx hb dX0_stepNow_76 rfl (lv_at hl 2 rfl) ?_
        obtain rfl := Option.some.inj hf
        exact hret _ _ _ ls hh dX0_stepNow_77 rfl
      · have hf := pq_brf hf h21
        refine lv_iload_n hx hb dX0_stepNow_64 rfl (lv_at hl 2 rfl) ?_
        refine lv_iload_n hx hb dX0_stepNow_65 rfl (lv_at hl 1 rfl) ?_
        refine lv_iload_n hx hb dX0_stepNow_66 rfl (lv_at hl 0 rfl) ?_
        refine lv_imul hx hb dX0_stepNow_67 ?_
        refine lv_bipush (v := (63 : Int32)) hx hb dX0_stepNow_68 (by decide) ?_
        refine lv_iadd hx hb dX0_stepNow_70 ?_
        refine lv_bipush (v := (6 : Int32)) hx hb dX0_stepNow_71 (by decide) ?_
        refine lv_ishr hx hb dX0_stepNow_73 ?_
        refine lv_iadd hx hb dX0_stepNow_74 ?_
        obtain rfl := Option.some.inj hf
        exact hret _ _ _ ls hh dX0_stepNow_75 rfl
    · have hf := pq_brf hf h20
      refine lv_iload_n hx hb dX0_stepNow_51 rfl (lv_at hl 2 rfl) ?_
      refine lv_iload_n hx hb dX0_stepNow_52 rfl (lv_at hl 1 rfl) ?_
      refine lv_iload_n hx hb dX0_stepNow_53 rfl (lv_at hl 0 rfl) ?_
      refine lv_imul hx hb dX0_stepNow_54 ?_
      refine lv_bipush (v := (6 : Int32)) hx hb dX0_stepNow_55 (by decide) ?_
      refine lv_ishr hx hb dX0_stepNow_57 ?_
      refine lv_iadd hx hb dX0_stepNow_58 ?_
      obtain rfl := Option.some.inj hf
      exact hret _ _ _ ls hh dX0_stepNow_59 rfl
  · have hf := pq_brf hf h4
    refine lv_aload_n hx hb dX0_stepNow_12 rfl (lv_at hl 0 rfl) ?_
    refine pq_get C hh i0 0 0 rfl rfl 0 (by decide) kf11 rfl rfl dX0_stepNow_13 ?_
    refine lv_iconst (v := (1 : Int32)) hx hb dX0_stepNow_16 (by decide) ?_
    obtain ⟨h22, hf⟩ := pq_rdx hf
    refine pq_iald C hh 1 rfl h22 dX0_stepNow_17 (fun v23 e24 => ?_)
    have hf := hf v23 e24
    obtain rfl := Option.some.inj hf
    exact hret _ _ _ ls hh dX0_stepNow_18 rfl
set_option maxHeartbeats 4000000 in
set_option maxRecDepth 100000 in
theorem qX0_foresee (l : Launch) (D : va_G) (cI cL : ClassId) (th : Nat) (th_numbers : Nat) (c_bits : Int32) (c_se : Int32) (c_sz : Int32) (c_step : Int32) (f_numbers : Nat → Int32) (res : Int32 × Int32 × Int32) (hf : fX0_foresee f_numbers c_se c_sz c_step = some res) : pq_CV l yX0_foresee qsX0_foresee 2 48 D cI cL [.ref th] (wX0_foresee cI th th_numbers c_bits c_se c_sz c_step f_numbers) (wX0_foresee cI th th_numbers c_bits res.1 res.2.1 res.2.2 f_numbers) := by
  refine pq_mkV (cc := cX0_foresee) (maxL := 3) (by decide) rfl (Nat.le_of_ble_eq_true rfl) ?_
  intro p e s m args below meth c Q A C hh hret ls hl
  have hx := C.1
  have hb := C.2.1
  have hml := C.2.2.1
  have hown : s.vm.findClass RX0 = some m.cls := C.2.2.2.1
  have hs : ∀ w ∈ wsL_law, w ∈ qsX0_foresee := fun _ h => List.mem_cons_of_mem _ h
  have htw : ∀ w ∈ wsL_law, w.before args s = true := fun w h => C.2.2.2.2.1 w (hs w h)
  have hl : lv_has ls 3 [(0, .ref th)] := hl
  have i0 : ∀ w ∈ wsX00, w ∈ qsX0_foresee := fun w h => hs w (pq_i0 w h)
  have kf11 := htw (.fieldLink RX0 11 "VoiceDesk$Adpcm" "numbers" "[I") (pq_m2 _ (List.mem_of_getElem? (i := 16) rfl))
  have kf19 := htw (.fieldLink RX0 19 "VoiceDesk$Adpcm" "se" "I") (pq_m2 _ (List.mem_of_getElem? (i := 18) rfl))
  have kf22 := htw (.fieldLink RX0 22 "VoiceDesk$Adpcm" "sz" "I") (pq_m2 _ (List.mem_of_getElem? (i := 19) rfl))
  have kf25 := htw (.fieldLink RX0 25 "VoiceDesk$Adpcm" "step" "I") (pq_m2 _ (List.mem_of_getElem? (i := 20) rfl))
  have kiRX6 := htw (.initialized RX6) (pq_m1 _ (List.mem_of_getElem? (i := 2) rfl))
  have ks47 := htw (.static yX6_wrapped) (pq_m12 _ (List.mem_of_getElem? (i := 5) rfl))
  have J4 : ∀ (fuel4 : Nat) (x1 : Int32) (x2 : Int32) (c_se : Int32) (c_sz : Int32) (c_step : Int32) (H : Heap) (locs : List Loc), pq_H D A s (wX0_foresee cI th th_numbers c_bits c_se c_sz c_step f_numbers) H locs → ∀ ls : Array Slot, lv_has ls 3 [(0, .ref th), (1, .int x1), (2, .int x2)] → fX0_foresee_b4  f_numbers fuel4 x1 x2 c_se c_sz c_step = some res → W p l e (pq_rm 2 48) s m args below meth c H locs 0 0 Q (F0 m 4 ls []) := by
    intro fuel4
    induction fuel4 with
    | zero => intro x1 x2 c_se c_sz c_step H locs hh ls hl hf; rw [fX0_foresee_b4] at hf; cases hf
    | succ fuel4 ih4 =>
      intro x1 x2 c_se c_sz c_step H locs hh ls hl hf
      rw [fX0_foresee_b4] at hf
      refine lv_iload_n hx hb dX0_foresee_4 rfl (lv_at hl 2 rfl) ?_
      refine lv_bipush (v := (6 : Int32)) hx hb dX0_foresee_5 (by decide) ?_
      refine lv_icmp_ge (tgt := 42) hx hb dX0_foresee_7 (by decide) (fun h1 => ?_) (fun h1 => ?_)
      · have hf := pq_brt hf h1
        refine lv_iload_n hx hb dX0_foresee_42 rfl (lv_at hl 1 rfl) ?_
        obtain ⟨r2, hu3, hf⟩ := pq_clx hf
        refine pq_cnI (n := 1) (As := [.int x1]) C hh (qX6_wrapped l D cI cL x1 r2 hu3) (gnX6_wrapped hs) rfl (List.mem_of_getElem? (i := 8) rfl) ks47 kiRX6 (by decide +kernel) ⟨Nat.le_of_ble_eq_true rfl, Nat.le_of_ble_eq_true rfl⟩ hl.1 rfl rfl (Nat.le_of_ble_eq_true rfl) dX0_foresee_43 ⟨Nat.zero_le _, Nat.zero_le _⟩ [] [0, 1] [0, 1] rfl rfl (by decide) (by decide) (by decide) rfl (fun H locs (hh : pq_H D A s (wX0_foresee cI th th_numbers c_bits c_se c_sz c_step f_numbers) H locs) => ?_)
        refine lv_istore_n (lv' := [(1, .int r2), (0, .ref th), (2, .int x2)]) hx hb dX0_foresee_46 rfl hl (by decide) rfl (fun ls hl => ?_)
        refine lv_aload_n hx hb dX0_foresee_47 rfl (lv_at hl 1 rfl) ?_
        refine lv_iload_n hx hb dX0_foresee_48 rfl (lv_at hl 0 rfl) ?_
        refine lv_iconst (v := (1 : Int32)) hx hb dX0_foresee_49 (by decide) ?_
        refine lv_ishr hx hb dX0_foresee_50 ?_
        refine lv_topi (fun v4 e5 => ?_)
        have hf := pq_nmx hf v4 e5
        refine pq_put (ty := .int) (v := .int v4) C hh i0 tyX0 tyX0_ok nmX0 0 0 rfl rfl 3 (by decide) kf22 rfl rfl (by decide +kernel) rfl rfl (Nat.le_of_ble_eq_true rfl) dX0_foresee_51 (fun H locs (hh : pq_H D A s (wX0_foresee cI th th_numbers c_bits c_se v4 c_step f_numbers) H locs) => ?_)
        refine lv_aload_n hx hb dX0_foresee_54 rfl (lv_at hl 1 rfl) ?_
        refine pq_get C hh i0 0 0 rfl rfl 0 (by decide) kf11 rfl rfl dX0_foresee_55 ?_
        refine lv_bipush (v := (7 : Int32)) hx hb dX0_foresee_58 (by decide) ?_
        obtain ⟨h6, hf⟩ := pq_rdx hf
        refine pq_iald C hh 1 rfl h6 dX0_foresee_60 (fun v7 e8 => ?_)
        have hf := hf v7 e8
        refine lv_iconst (v := (2 : Int32)) hx hb dX0_foresee_61 (by decide) ?_
        refine lv_ishr hx hb dX0_foresee_62 ?_
        refine lv_aload_n hx hb dX0_foresee_63 rfl (lv_at hl 1 rfl) ?_
        refine pq_get C hh i0 0 0 rfl rfl 0 (by decide) kf11 rfl rfl dX0_foresee_64 ?_
        refine lv_bipush (v := (15 : Int32)) hx hb dX0_foresee_67 (by decide) ?_
        obtain ⟨h9, hf⟩ := pq_rdx hf
        refine pq_iald C hh 1 rfl h9 dX0_foresee_69 (fun v10 e11 => ?_)
        have hf := hf v10 e11
        obtain ⟨r12, hu13, hf⟩ := pq_clx hf
        refine pq_csI (n := 2) (As := [.int (v7 >>> ((2 : Int32) &&& 31)), .int v10]) C hh (qX0_times l D cI cL (v7 >>> ((2 : Int32) &&& 31)) v10 r12 hu13) (gsX0_times hs (pq_m11 _ (List.mem_of_getElem? (i := 17) rfl))) rfl (by decide +kernel) ⟨Nat.le_of_ble_eq_true rfl, Nat.le_of_ble_eq_true rfl⟩ hl.1 rfl rfl (Nat.le_of_ble_eq_true rfl) dX0_foresee_70 ⟨Nat.zero_le _, Nat.zero_le _⟩ [] [0, 1] [0, 1] rfl rfl (by decide) (by decide) (by decide) rfl (fun H locs (hh : pq_H D A s (wX0_foresee cI th th_numbers c_bits c_se v4 c_step f_numbers) H locs) => ?_)
        refine lv_aload_n hx hb dX0_foresee_73 rfl (lv_at hl 1 rfl) ?_
        refine pq_get C hh i0 0 0 rfl rfl 0 (by decide) kf11 rfl rfl dX0_foresee_74 ?_
        refine lv_bipush (v := (6 : Int32)) hx hb dX0_foresee_77 (by decide) ?_
        obtain ⟨h14, hf⟩ := pq_rdx hf
        refine pq_iald C hh 1 rfl h14 dX0_foresee_79 (fun v15 e16 => ?_)
        have hf := hf v15 e16
        refine lv_iconst (v := (2 : Int32)) hx hb dX0_foresee_80 (by decide) ?_
        refine lv_ishr hx hb dX0_foresee_81 ?_
        refine lv_aload_n hx hb dX0_foresee_82 rfl (lv_at hl 1 rfl) ?_
        refine pq_get C hh i0 0 0 rfl rfl 0 (by decide) kf11 rfl rfl dX0_foresee_83 ?_
        refine lv_bipush (v := (14 : Int32)) hx hb dX0_foresee_86 (by decide) ?_
        obtain ⟨h17, hf⟩ := pq_rdx hf
        refine pq_iald C hh 1 rfl h17 dX0_foresee_88 (fun v18 e19 => ?_)
        have hf := hf v18 e19
        obtain ⟨r20, hu21, hf⟩ := pq_clx hf
        refine pq_csI (n := 2) (As := [.int (v15 >>> ((2 : Int32) &&& 31)), .int v18]) C hh (qX0_times l D cI cL (v15 >>> ((2 : Int32) &&& 31)) v18 r20 hu21) (gsX0_times hs (pq_m11 _ (List.mem_of_getElem? (i := 17) rfl))) rfl (by decide +kernel) ⟨Nat.le_of_ble_eq_true rfl, Nat.le_of_ble_eq_true rfl⟩ hl.1 rfl rfl (Nat.le_of_ble_eq_true rfl) dX0_foresee_89 ⟨Nat.zero_le _, Nat.zero_le _⟩ [] [0, 1] [0, 1] rfl rfl (by decide) (by decide) (by decide) rfl (fun H locs (hh : pq_H D A s (wX0_foresee cI th th_numbers c_bits c_se v4 c_step f_numbers) H locs) => ?_)
        refine lv_iadd hx hb dX0_foresee_92 ?_
        refine lv_topi (fun v22 e23 => ?_)
        have hf := pq_nmx hf v22 e23
        refine lv_istore_n (lv' := [(2, .int v22), (1, .int r2), (0, .ref th)]) hx hb dX0_foresee_93 rfl hl (by decide) rfl (fun ls hl => ?_)
        refine lv_aload_n hx hb dX0_foresee_94 rfl (lv_at hl 2 rfl) ?_
        refine lv_iload_n hx hb dX0_foresee_95 rfl (lv_at hl 1 rfl) ?_
        refine lv_iload_n hx hb dX0_foresee_96 rfl (lv_at hl 0 rfl) ?_
        refine lv_iadd hx hb dX0_foresee_97 ?_
        obtain ⟨r24, hu25, hf⟩ := pq_clx hf
        refine pq_cnI (n := 1) (As := [.int (r2 + v22)]) C hh (qX6_wrapped l D cI cL (r2 + v22) r24 hu25) (gnX6_wrapped hs) rfl (List.mem_of_getElem? (i := 8) rfl) ks47 kiRX6 (by decide +kernel) ⟨Nat.le_of_ble_eq_true rfl, Nat.le_of_ble_eq_true rfl⟩ hl.1 rfl rfl (Nat.le_of_ble_eq_true rfl) dX0_foresee_98 ⟨Nat.zero_le _, Nat.zero_le _⟩ [] [0, 1] [0, 1] rfl rfl (by decide) (by decide) (by decide) rfl (fun H locs (hh : pq_H D A s (wX0_foresee cI th th_numbers c_bits c_se v4 c_step f_numbers) H locs) => ?_)
        refine lv_iconst (v := (1 : Int32)) hx hb dX0_foresee_101 (by decide) ?_
        refine lv_ishr hx hb dX0_foresee_102 ?_
        refine lv_topi (fun v26 e27 => ?_)
        have hf := pq_nmx hf v26 e27
        refine pq_put (ty := .int) (v := .int v26) C hh i0 tyX0 tyX0_ok nmX0 0 0 rfl rfl 2 (by decide) kf19 rfl rfl (by decide +kernel) rfl rfl (Nat.le_of_ble_eq_true rfl) dX0_foresee_103 (fun H locs (hh : pq_H D A s (wX0_foresee cI th th_numbers c_bits v26 v4 c_step f_numbers) H locs) => ?_)
        refine lv_aload_n hx hb dX0_foresee_106 rfl (lv_at hl 2 rfl) ?_
        refine lv_aload_n hx hb dX0_foresee_107 rfl (lv_at hl 2 rfl) ?_
        obtain ⟨r28, hu29, hf⟩ := pq_clx hf
        refine pq_cvI (n := 0) (As := []) C hh (qX0_stepNow l D cI cL th th_numbers c_bits v26 v4 c_step f_numbers r28 hu29) (gvX0_stepNow hs (pq_m12 _ (List.mem_of_getElem? (i := 7) rfl))) rfl (by decide +kernel) ⟨Nat.le_of_ble_eq_true rfl, Nat.le_of_ble_eq_true rfl⟩ 0 0 rfl rfl rfl hl.1 rfl rfl (Nat.le_of_ble_eq_true rfl) dX0_foresee_108 ⟨Nat.zero_le _, Nat.zero_le _⟩ [0, 1] [] [0, 1] rfl rfl (by decide) (by decide) (by decide) rfl (fun H locs (hh : pq_H D A s (wX0_foresee cI th th_numbers c_bits v26 v4 c_step f_numbers) H locs) => ?_)
        refine pq_put (ty := .int) (v := .int r28) C hh i0 tyX0 tyX0_ok nmX0 0 0 rfl rfl 4 (by decide) kf25 rfl rfl (by decide +kernel) rfl rfl (Nat.le_of_ble_eq_true rfl) dX0_foresee_111 (fun H locs (hh : pq_H D A s (wX0_foresee cI th th_numbers c_bits v26 v4 r28 f_numbers) H locs) => ?_)
        obtain rfl := Option.some.inj hf
        exact hret _ _ _ ls hh dX0_foresee_114
      · have hf := pq_brf hf h1
        refine lv_iload_n hx hb dX0_foresee_10 rfl (lv_at hl 1 rfl) ?_
        refine lv_aload_n hx hb dX0_foresee_11 rfl (lv_at hl 0 rfl) ?_
        refine pq_get C hh i0 0 0 rfl rfl 0 (by decide) kf11 rfl rfl dX0_foresee_12 ?_
        refine lv_bipush (v := (8 : Int32)) hx hb dX0_foresee_15 (by decide) ?_
        refine lv_iload_n hx hb dX0_foresee_17 rfl (lv_at hl 2 rfl) ?_
        refine lv_iadd hx hb dX0_foresee_18 ?_
        obtain ⟨h30, hf⟩ := pq_rdx hf
        refine pq_iald C hh 1 rfl h30 dX0_foresee_19 (fun v31 e32 => ?_)
        have hf := hf v31 e32
        refine lv_iconst (v := (2 : Int32)) hx hb dX0_foresee_20 (by decide) ?_
        refine lv_ishr hx hb dX0_foresee_21 ?_
        refine lv_aload_n hx hb dX0_foresee_22 rfl (lv_at hl 0 rfl) ?_
        refine pq_get C hh i0 0 0 rfl rfl 0 (by decide) kf11 rfl rfl dX0_foresee_23 ?_
        refine lv_bipush (v := (16 : Int32)) hx hb dX0_foresee_26 (by decide) ?_
        refine lv_iload_n hx hb dX0_foresee_28 rfl (lv_at hl 2 rfl) ?_
        refine lv_iadd hx hb dX0_foresee_29 ?_
        obtain ⟨h33, hf⟩ := pq_rdx hf
        refine pq_iald C hh 1 rfl h33 dX0_foresee_30 (fun v34 e35 => ?_)
        have hf := hf v34 e35
        obtain ⟨r36, hu37, hf⟩ := pq_clx hf
        refine pq_csI (n := 2) (As := [.int (v31 >>> ((2 : Int32) &&& 31)), .int v34]) C hh (qX0_times l D cI cL (v31 >>> ((2 : Int32) &&& 31)) v34 r36 hu37) (gsX0_times hs (pq_m11 _ (List.mem_of_getElem? (i := 17) rfl))) rfl (by decide +kernel) ⟨Nat.le_of_ble_eq_true rfl, Nat.le_of_ble_eq_true rfl⟩ hl.1 rfl rfl (Nat.le_of_ble_eq_true rfl) dX0_foresee_31 ⟨Nat.zero_le _, Nat.zero_le _⟩ [] [0, 1] [0, 1] rfl rfl (by decide) (by decide) (by decide) rfl (fun H locs (hh : pq_H D A s (wX0_foresee cI th th_numbers c_bits c_se c_sz c_step f_numbers) H locs) => ?_)
        refine lv_iadd hx hb dX0_foresee_34 ?_
        refine lv_topi (fun v38 e39 => ?_)
        have hf := pq_nmx hf v38 e39
        refine lv_istore_n (lv' := [(1, .int v38), (0, .ref th), (2, .int x2)]) hx hb dX0_foresee_35 rfl hl (by decide) rfl (fun ls hl => ?_)
        obtain ⟨v40, e41⟩ : ∃ y : Int32, y = x2 + (1 : Int32) := ⟨_, rfl⟩
        refine lv_iinc (v := v40) (lv' := [(2, .int v40), (1, .int v38), (0, .ref th)]) hx hb dX0_foresee_36 hl (k := 2) rfl (by rw [e41]; rfl) (by decide) rfl (fun ls hl => ?_)
        have hf := pq_nmx hf v40 e41
        refine lv_goto (tgt := 4) hx hb dX0_foresee_39 (by decide) ?_
        exact ih4 v38 v40 c_se c_sz c_step _ _ hh ls (lv_sub hl [2, 1, 0] rfl) hf
  rw [fX0_foresee] at hf
  refine lv_iconst (v := (0 : Int32)) hx hb dX0_foresee_0 (by decide) ?_
  refine lv_istore_n (lv' := [(1, .int (0 : Int32)), (0, .ref th)]) hx hb dX0_foresee_1 rfl hl (by decide) rfl (fun ls hl => ?_)
  refine lv_iconst (v := (0 : Int32)) hx hb dX0_foresee_2 (by decide) ?_
  refine lv_istore_n (lv' := [(2, .int (0 : Int32)), (1, .int (0 : Int32)), (0, .ref th)]) hx hb dX0_foresee_3 rfl hl (by decide) rfl (fun ls hl => ?_)
  exact J4 1100 (0 : Int32) (0 : Int32) c_se c_sz c_step _ _ hh ls (lv_sub hl [2, 1, 0] rfl) hf
set_option maxHeartbeats 4000000 in
set_option maxRecDepth 100000 in
theorem qX0_codeOf (l : Launch) (D : va_G) (cI cL : ClassId) (th : Nat) (th_numbers : Nat) (c_bits : Int32) (c_se : Int32) (c_sz : Int32) (c_step : Int32) (a1 : Int32) (res : Int32) (hf : fX0_codeOf a1 c_bits c_step = some res) : pq_CI l yX0_codeOf qsX0_codeOf 1 21 D cI cL [.ref th, .int a1] (wX0_codeOf cI th th_numbers c_bits c_se c_sz c_step) (wX0_codeOf cI th th_numbers c_bits c_se c_sz c_step) res := by
  refine pq_mkI (cc := cX0_codeOf) (maxL := 8) (RT := .int) (by decide) rfl (Nat.le_of_ble_eq_true rfl) ?_
  intro p e s m args below meth c Q A C hh hret ls hl
  have hx := C.1
  have hb := C.2.1
  have hml := C.2.2.1
  have hown : s.vm.findClass RX0 = some m.cls := C.2.2.2.1
  have hs : ∀ w ∈ wsL_law, w ∈ qsX0_codeOf := fun _ h => List.mem_cons_of_mem _ h
  have htw : ∀ w ∈ wsL_law, w.before args s = true := fun w h => C.2.2.2.2.1 w (hs w h)
  have hl : lv_has ls 8 [(0, .ref th), (1, .int a1)] := hl
  have i0 : ∀ w ∈ wsX00, w ∈ qsX0_codeOf := fun w h => hs w (pq_i0 w h)
  have kf15 := htw (.fieldLink RX0 15 "VoiceDesk$Adpcm" "bits" "I") (pq_m2 _ (List.mem_of_getElem? (i := 17) rfl))
  have kf25 := htw (.fieldLink RX0 25 "VoiceDesk$Adpcm" "step" "I") (pq_m2 _ (List.mem_of_getElem? (i := 20) rfl))
  have kf62 := htw (.fieldLink RX0 62 "VoiceDesk$Adpcm" "BOUNDS" "[I") (pq_m12 _ (List.mem_of_getElem? (i := 15) rfl))
  have kim := htw (.initialized "java/lang/Math") (pq_m10 _ (List.mem_of_getElem? (i := 17) rfl))
  have kk54 := htw (.code Lib.Math.abs.name Lib.Math.abs.code 1 (some .int)) (pq_m11 _ (List.mem_of_getElem? (i := 22) rfl))
  have km54 := htw (.methodLink RX0 54 Lib.Math.abs.name) (pq_m11 _ (List.mem_of_getElem? (i := 20) rfl))
  have ks54 := htw (.static Lib.Math.abs.name) (pq_m11 _ (List.mem_of_getElem? (i := 21) rfl))
  obtain ⟨t7, z7, T7⟩ := pq_tab C 7 rfl
  have J94 : ∀ (x1 : Int32) (x5 : Int32) (x7 : Int32) (H : Heap) (locs : List Loc), pq_H D A s (wX0_codeOf cI th th_numbers c_bits c_se c_sz c_step) H locs → ∀ ls : Array Slot, lv_has ls 8 [(0, .ref th), (1, .int x1), (5, .int x5), (7, .int x7)] → fX0_codeOf_b94  c_bits c_step x1 x5 x7 = some res → W p l e (pq_rm 1 21) s m args below meth c H locs 0 0 Q (F0 m 94 ls []) := by
    intro x1 x5 x7 H locs hh ls hl hf
    rw [fX0_codeOf_b94] at hf
    refine lv_iload_n hx hb dX0_codeOf_94 rfl (lv_at hl 1 rfl) ?_
    refine lv_if_ge (tgt := 108) hx hb dX0_codeOf_95 (by decide) (fun h18 => ?_) (fun h18 => ?_)
    · have hf := pq_brt hf h18
      refine lv_iload hx hb dX0_codeOf_108 (lv_at hl 3 rfl) ?_
      refine lv_if_le (tgt := 116) hx hb dX0_codeOf_110 (by decide) (fun h19 => ?_) (fun h19 => ?_)
      · have hf := pq_brt hf h19
        refine lv_aload_n hx hb dX0_codeOf_116 rfl (lv_at hl 0 rfl) ?_
        refine pq_get C hh i0 0 0 rfl rfl 1 (by decide) kf15 rfl rfl dX0_codeOf_117 ?_
        refine lv_iconst (v := (2 : Int32)) hx hb dX0_codeOf_120 (by decide) ?_
        refine lv_icmp_ne (tgt := 128) hx hb dX0_codeOf_121 (by decide) (fun h20 => ?_) (fun h20 => ?_)
        · have hf := pq_brf hf h20
          refine lv_iconst (v := (2 : Int32)) hx hb dX0_codeOf_128 (by decide) ?_
          refine lv_iload hx hb dX0_codeOf_129 (lv_at hl 2 rfl) ?_
          refine lv_imul hx hb dX0_codeOf_131 ?_
          refine lv_iconst (v := (1 : Int32)) hx hb dX0_codeOf_132 (by decide) ?_
          refine lv_iadd hx hb dX0_codeOf_133 ?_
          obtain rfl := Option.some.inj hf
          exact hret _ _ _ ls hh dX0_codeOf_134 rfl
        · have hf := pq_brt hf h20
          refine lv_iconst (v := (0 : Int32)) hx hb dX0_codeOf_124 (by decide) ?_
          refine lv_goto (tgt := 134) hx hb dX0_codeOf_125 (by decide) ?_
          obtain rfl := Option.some.inj hf
          exact hret _ _ _ ls hh dX0_codeOf_134 rfl
      · have hf := pq_brf hf h19
        refine lv_iload hx hb dX0_codeOf_113 (lv_at hl 3 rfl) ?_
        obtain rfl := Option.some.inj hf
        exact hret _ _ _ ls hh dX0_codeOf_115 rfl
    · have hf := pq_brf hf h18
      refine lv_iconst (v := (2 : Int32)) hx hb dX0_codeOf_98 (by decide) ?_
      refine lv_iload hx hb dX0_codeOf_99 (lv_at hl 2 rfl) ?_
      refine lv_imul hx hb dX0_codeOf_101 ?_
      refine lv_iconst (v := (1 : Int32)) hx hb dX0_codeOf_102 (by decide) ?_
      refine lv_iadd hx hb dX0_codeOf_103 ?_
      refine lv_iload hx hb dX0_codeOf_104 (lv_at hl 3 rfl) ?_
      refine lv_isub hx hb dX0_codeOf_106 ?_
      obtain rfl := Option.some.inj hf
      exact hret _ _ _ ls hh dX0_codeOf_107 rfl
  have J67 : ∀ (fuel67 : Nat) (x1 : Int32) (x4 : Int32) (x5 : Int32) (x6 : Int32) (x7 : Int32) (H : Heap) (locs : List Loc), pq_H D A s (wX0_codeOf cI th th_numbers c_bits c_se c_sz c_step) H locs → ∀ ls : Array Slot, lv_has ls 8 [(0, .ref th), (1, .int x1), (4, .int x4), (5, .int x5), (6, .int x6), (7, .int x7)] → fX0_codeOf_b67  c_bits c_step fuel67 x1 x4 x5 x6 x7 = some res → W p l e (pq_rm 1 21) s m args below meth c H locs 0 0 Q (F0 m 67 ls []) := by
    intro fuel67
    induction fuel67 with
    | zero => intro x1 x4 x5 x6 x7 H locs hh ls hl hf; rw [fX0_codeOf_b67] at hf; cases hf
    | succ fuel67 ih67 =>
      intro x1 x4 x5 x6 x7 H locs hh ls hl hf
      rw [fX0_codeOf_b67] at hf
      refine lv_iload hx hb dX0_codeOf_67 (lv_at hl 5 rfl) ?_
      refine lv_iload hx hb dX0_codeOf_69 (lv_at hl 3 rfl) ?_
      refine lv_icmp_ge (tgt := 94) hx hb dX0_codeOf_71 (by decide) (fun h11 => ?_) (fun h11 => ?_)
      · have hf := pq_brt hf h11
        exact J94 x1 x5 x7 _ _ hh ls (lv_sub hl [0, 1, 3, 5] rfl) hf
      · have hf := pq_brf hf h11
        refine lv_iload hx hb dX0_codeOf_74 (lv_at hl 2 rfl) ?_
        refine pq_gets C hh z7 kf62 dX0_codeOf_76 ?_
        refine lv_iload hx hb dX0_codeOf_79 (lv_at hl 4 rfl) ?_
        refine lv_iload hx hb dX0_codeOf_81 (lv_at hl 5 rfl) ?_
        refine lv_iadd hx hb dX0_codeOf_83 ?_
        obtain ⟨h12, hf⟩ := pq_rdx hf
        refine pq_ti C hh T7 h12 dX0_codeOf_84 (fun v13 e14 => ?_)
        have hf := hf v13 e14
        refine lv_icmp_lt (tgt := 94) hx hb dX0_codeOf_85 (by decide) (fun h15 => ?_) (fun h15 => ?_)
        · have hf := pq_brt hf h15
          exact J94 x1 x5 x7 _ _ hh ls (lv_sub hl [0, 1, 3, 5] rfl) hf
        · have hf := pq_brf hf h15
          obtain ⟨v16, e17⟩ : ∃ y : Int32, y = x7 + (1 : Int32) := ⟨_, rfl⟩
          refine lv_iinc (v := v16) (lv' := [(7, .int v16), (0, .ref th), (1, .int x1), (4, .int x4), (5, .int x5), (6, .int x6)]) hx hb dX0_codeOf_88 hl (k := 5) rfl (by rw [e17]; rfl) (by decide) rfl (fun ls hl => ?_)
          have hf := pq_nmx hf v16 e17
          refine lv_goto (tgt := 67) hx hb dX0_codeOf_91 (by decide) ?_
          exact ih67 x1 x4 x5 x6 v16 _ _ hh ls (lv_sub hl [1, 2, 3, 4, 5, 0] rfl) hf
  rw [fX0_codeOf] at hf
  refine lv_iload_n hx hb dX0_codeOf_0 rfl (lv_at hl 1 rfl) ?_
  refine va_mabs hx hb (by rw [hml]; exact hl.1.symm) hown km54 ks54 kim kk54 (Nat.le_of_ble_eq_true rfl) (Nat.le_of_ble_eq_true rfl) (Nat.zero_le _) (Nat.zero_le _) dX0_codeOf_1 ?_
  refine lv_topi (fun v1 e2 => ?_)
  have hf := pq_nmx hf v1 e2
  refine lv_istore_n (lv' := [(2, .int v1), (0, .ref th), (1, .int a1)]) hx hb dX0_codeOf_4 rfl hl (by decide) rfl (fun ls hl => ?_)
  refine lv_iload_n hx hb dX0_codeOf_5 rfl (lv_at hl 0 rfl) ?_
  refine lv_iconst (v := (1 : Int32)) hx hb dX0_codeOf_6 (by decide) ?_
  refine lv_ishr hx hb dX0_codeOf_7 ?_
  obtain ⟨r3, hu4, hf⟩ := pq_clx hf
  refine pq_csI (n := 1) (As := [.int (v1 >>> ((1 : Int32) &&& 31))]) C hh (qX0_size l D cI cL (v1 >>> ((1 : Int32) &&& 31)) r3 hu4) (gsX0_size hs (pq_m11 _ (List.mem_of_getElem? (i := 23) rfl))) rfl (by decide +kernel) ⟨Nat.le_of_ble_eq_true rfl, Nat.le_of_ble_eq_true rfl⟩ hl.1 rfl rfl (Nat.le_of_ble_eq_true rfl) dX0_codeOf_8 ⟨Nat.zero_le _, Nat.zero_le _⟩ [] [0] [0] rfl rfl (by decide) (by decide) (by decide) rfl (fun H locs (hh : pq_H D A s (wX0_codeOf cI th th_numbers c_bits c_se c_sz c_step) H locs) => ?_)
  refine lv_istore_n (lv' := [(3, .int r3), (2, .int v1), (0, .ref th), (1, .int a1)]) hx hb dX0_codeOf_11 rfl hl (by decide) rfl (fun ls hl => ?_)
  refine lv_sipush (v := (128 : Int32)) hx hb dX0_codeOf_12 (by decide) ?_
  refine lv_iload_n hx hb dX0_codeOf_15 rfl (lv_at hl 0 rfl) ?_
  refine lv_imul hx hb dX0_codeOf_16 ?_
  refine lv_sipush (v := (128 : Int32)) hx hb dX0_codeOf_17 (by decide) ?_
  refine lv_iload_n hx hb dX0_codeOf_20 rfl (lv_at hl 1 rfl) ?_
  refine lv_imul hx hb dX0_codeOf_21 ?_
  refine lv_iload_n hx hb dX0_codeOf_22 rfl (lv_at hl 0 rfl) ?_
  refine lv_ishr hx hb dX0_codeOf_23 ?_
  refine lv_bipush (v := (127 : Int32)) hx hb dX0_codeOf_24 (by decide) ?_
  refine lv_iand hx hb dX0_codeOf_26 ?_
  refine lv_iadd hx hb dX0_codeOf_27 ?_
  refine lv_aload_n hx hb dX0_codeOf_28 rfl (lv_at hl 2 rfl) ?_
  refine pq_get C hh i0 0 0 rfl rfl 4 (by decide) kf25 rfl rfl dX0_codeOf_29 ?_
  refine lv_iconst (v := (2 : Int32)) hx hb dX0_codeOf_32 (by decide) ?_
  refine lv_ishr hx hb dX0_codeOf_33 ?_
  refine lv_isub hx hb dX0_codeOf_34 ?_
  refine lv_topi (fun v5 e6 => ?_)
  have hf := pq_nmx hf v5 e6
  refine lv_istore (lv' := [(4, .int v5), (3, .int r3), (2, .int v1), (0, .ref th), (1, .int a1)]) hx hb dX0_codeOf_35 hl (by decide) rfl (fun ls hl => ?_)
  refine lv_iconst (v := (1 : Int32)) hx hb dX0_codeOf_37 (by decide) ?_
  refine lv_aload_n hx hb dX0_codeOf_38 rfl (lv_at hl 3 rfl) ?_
  refine pq_get C hh i0 0 0 rfl rfl 1 (by decide) kf15 rfl rfl dX0_codeOf_39 ?_
  refine lv_iconst (v := (1 : Int32)) hx hb dX0_codeOf_42 (by decide) ?_
  refine lv_isub hx hb dX0_codeOf_43 ?_
  refine lv_ishl hx hb dX0_codeOf_44 ?_
  refine lv_iconst (v := (1 : Int32)) hx hb dX0_codeOf_45 (by decide) ?_
  refine lv_isub hx hb dX0_codeOf_46 ?_
  refine lv_topi (fun v7 e8 => ?_)
  have hf := pq_nmx hf v7 e8
  refine lv_istore (lv' := [(5, .int v7), (4, .int v5), (3, .int r3), (2, .int v1), (0, .ref th), (1, .int a1)]) hx hb dX0_codeOf_47 hl (by decide) rfl (fun ls hl => ?_)
  refine lv_iconst (v := (1 : Int32)) hx hb dX0_codeOf_49 (by decide) ?_
  refine lv_aload_n hx hb dX0_codeOf_50 rfl (lv_at hl 4 rfl) ?_
  refine pq_get C hh i0 0 0 rfl rfl 1 (by decide) kf15 rfl rfl dX0_codeOf_51 ?_
  refine lv_iconst (v := (1 : Int32)) hx hb dX0_codeOf_54 (by decide) ?_
  refine lv_isub hx hb dX0_codeOf_55 ?_
  refine lv_ishl hx hb dX0_codeOf_56 ?_
  refine lv_aload_n hx hb dX0_codeOf_57 rfl (lv_at hl 4 rfl) ?_
  refine pq_get C hh i0 0 0 rfl rfl 1 (by decide) kf15 rfl rfl dX0_codeOf_58 ?_
  refine lv_isub hx hb dX0_codeOf_61 ?_
  refine lv_topi (fun v9 e10 => ?_)
  have hf := pq_nmx hf v9 e10
  refine lv_istore (lv' := [(6, .int v9), (5, .int v7), (4, .int v5), (3, .int r3), (2, .int v1), (0, .ref th), (1, .int a1)]) hx hb dX0_codeOf_62 hl (by decide) rfl (fun ls hl => ?_)
  refine lv_iconst (v := (0 : Int32)) hx hb dX0_codeOf_64 (by decide) ?_
  refine lv_istore (lv' := [(7, .int (0 : Int32)), (6, .int v9), (5, .int v7), (4, .int v5), (3, .int r3), (2, .int v1), (0, .ref th), (1, .int a1)]) hx hb dX0_codeOf_65 hl (by decide) rfl (fun ls hl => ?_)
  exact J67 1100 a1 v5 v7 v9 (0 : Int32) _ _ hh ls (lv_sub hl [6, 7, 3, 2, 1, 0] rfl) hf
set_option maxHeartbeats 4000000 in
set_option maxRecDepth 100000 in
theorem qX6_cut (l : Launch) (D : va_G) (cI cL : ClassId) (a0 : Int32) (a1 : Int32) (a2 : Int32) (res : Int32) (hf : fX6_cut a0 a1 a2 = some res) : pq_CI l yX6_cut qsX6_cut 0 0 D cI cL [.int a0, .int a1, .int a2] [] [] res := by
  refine pq_mkI (cc := cX6_cut) (maxL := 3) (RT := .int) (by decide) rfl (Nat.le_of_ble_eq_true rfl) ?_
  intro p e s m args below meth c Q A C hh hret ls hl
  have hx := C.1
  have hb := C.2.1
  have hml := C.2.2.1
  have hown : s.vm.findClass RX6 = some m.cls := C.2.2.2.1
  have hs : ∀ w ∈ wsL_law, w ∈ qsX6_cut := fun _ h => List.mem_cons_of_mem _ h
  have htw : ∀ w ∈ wsL_law, w.before args s = true := fun w h => C.2.2.2.2.1 w (hs w h)
  have hl : lv_has ls 3 [(0, .int a0), (1, .int a1), (2, .int a2)] := hl
  rw [fX6_cut] at hf
  refine lv_iload_n hx hb dX6_cut_0 rfl (lv_at hl 0 rfl) ?_
  refine lv_iload_n hx hb dX6_cut_1 rfl (lv_at hl 1 rfl) ?_
  refine lv_icmp_ge (tgt := 7) hx hb dX6_cut_2 (by decide) (fun h1 => ?_) (fun h1 => ?_)
  · have hf := pq_brt hf h1
    refine lv_iload_n hx hb dX6_cut_7 rfl (lv_at hl 0 rfl) ?_
    refine lv_iload_n hx hb dX6_cut_8 rfl (lv_at hl 2 rfl) ?_
    refine lv_icmp_le (tgt := 16) hx hb dX6_cut_9 (by decide) (fun h2 => ?_) (fun h2 => ?_)
    · have hf := pq_brt hf h2
      refine lv_iload_n hx hb dX6_cut_16 rfl (lv_at hl 0 rfl) ?_
      obtain rfl := Option.some.inj hf
      exact hret _ _ _ ls hh dX6_cut_17 rfl
    · have hf := pq_brf hf h2
      refine lv_iload_n hx hb dX6_cut_12 rfl (lv_at hl 2 rfl) ?_
      refine lv_goto (tgt := 17) hx hb dX6_cut_13 (by decide) ?_
      obtain rfl := Option.some.inj hf
      exact hret _ _ _ ls hh dX6_cut_17 rfl
  · have hf := pq_brf hf h1
    refine lv_iload_n hx hb dX6_cut_5 rfl (lv_at hl 1 rfl) ?_
    obtain rfl := Option.some.inj hf
    exact hret _ _ _ ls hh dX6_cut_6 rfl
set_option maxHeartbeats 4000000 in
set_option maxRecDepth 100000 in
theorem qX0_tablePlace (l : Launch) (D : va_G) (cI cL : ClassId) (th : Nat) (th_numbers : Nat) (c_bits : Int32) (c_se : Int32) (c_sz : Int32) (c_step : Int32) (a1 : Int32) (res : Int32) (hf : fX0_tablePlace a1 c_bits = some res) : pq_CI l yX0_tablePlace qsX0_tablePlace 1 22 D cI cL [.ref th, .int a1] (wX0_tablePlace cI th th_numbers c_bits c_se c_sz c_step) (wX0_tablePlace cI th th_numbers c_bits c_se c_sz c_step) res := by
  refine pq_mkI (cc := cX0_tablePlace) (maxL := 5) (RT := .int) (by decide) rfl (Nat.le_of_ble_eq_true rfl) ?_
  intro p e s m args below meth c Q A C hh hret ls hl
  have hx := C.1
  have hb := C.2.1
  have hml := C.2.2.1
  have hown : s.vm.findClass RX0 = some m.cls := C.2.2.2.1
  have hs : ∀ w ∈ wsL_law, w ∈ qsX0_tablePlace := fun _ h => List.mem_cons_of_mem _ h
  have htw : ∀ w ∈ wsL_law, w.before args s = true := fun w h => C.2.2.2.2.1 w (hs w h)
  have hl : lv_has ls 5 [(0, .ref th), (1, .int a1)] := hl
  have i0 : ∀ w ∈ wsX00, w ∈ qsX0_tablePlace := fun w h => hs w (pq_i0 w h)
  have kf15 := htw (.fieldLink RX0 15 "VoiceDesk$Adpcm" "bits" "I") (pq_m2 _ (List.mem_of_getElem? (i := 17) rfl))
  have kiRX6 := htw (.initialized RX6) (pq_m1 _ (List.mem_of_getElem? (i := 2) rfl))
  have ks115 := htw (.static yX6_cut) (pq_m10 _ (List.mem_of_getElem? (i := 9) rfl))
  have J27 : ∀ (x2 : Int32) (s0 : Int32) (H : Heap) (locs : List Loc), pq_H D A s (wX0_tablePlace cI th th_numbers c_bits c_se c_sz c_step) H locs → ∀ ls : Array Slot, lv_has ls 5 [(2, .int x2)] → fX0_tablePlace_b27  c_bits x2 s0 = some res → W p l e (pq_rm 1 22) s m args below meth c H locs 0 0 Q (F0 m 27 ls [.int s0]) := by
    intro x2 s0 H locs hh ls hl hf
    rw [fX0_tablePlace_b27] at hf
    refine lv_istore (lv' := [(4, .int s0), (2, .int x2)]) hx hb dX0_tablePlace_27 hl (by decide) rfl (fun ls hl => ?_)
    refine lv_iload_n hx hb dX0_tablePlace_29 rfl (lv_at hl 1 rfl) ?_
    refine lv_iconst (v := (2 : Int32)) hx hb dX0_tablePlace_30 (by decide) ?_
    refine lv_isub hx hb dX0_tablePlace_31 ?_
    refine lv_iload hx hb dX0_tablePlace_32 (lv_at hl 0 rfl) ?_
    refine lv_iconst (v := (0 : Int32)) hx hb dX0_tablePlace_34 (by decide) ?_
    refine lv_iload_n hx hb dX0_tablePlace_35 rfl (lv_at hl 1 rfl) ?_
    refine lv_iconst (v := (1 : Int32)) hx hb dX0_tablePlace_36 (by decide) ?_
    refine lv_isub hx hb dX0_tablePlace_37 ?_
    obtain ⟨r6, hu7, hf⟩ := pq_clx hf
    refine pq_cnI (n := 3) (As := [.int s0, .int (0 : Int32), .int (x2 - (1 : Int32))]) C hh (qX6_cut l D cI cL s0 (0 : Int32) (x2 - (1 : Int32)) r6 hu7) (gnX6_cut hs) rfl (List.mem_of_getElem? (i := 9) rfl) ks115 kiRX6 (by decide +kernel) ⟨Nat.le_of_ble_eq_true rfl, Nat.le_of_ble_eq_true rfl⟩ hl.1 rfl rfl (Nat.le_of_ble_eq_true rfl) dX0_tablePlace_38 ⟨Nat.zero_le _, Nat.zero_le _⟩ [] [0] [0] rfl rfl (by decide) (by decide) (by decide) rfl (fun H locs (hh : pq_H D A s (wX0_tablePlace cI th th_numbers c_bits c_se c_sz c_step) H locs) => ?_)
    refine lv_iadd hx hb dX0_tablePlace_41 ?_
    obtain rfl := Option.some.inj hf
    exact hret _ _ _ ls hh dX0_tablePlace_42 rfl
  rw [fX0_tablePlace] at hf
  refine lv_iconst (v := (1 : Int32)) hx hb dX0_tablePlace_0 (by decide) ?_
  refine lv_aload_n hx hb dX0_tablePlace_1 rfl (lv_at hl 0 rfl) ?_
  refine pq_get C hh i0 0 0 rfl rfl 1 (by decide) kf15 rfl rfl dX0_tablePlace_2 ?_
  refine lv_iconst (v := (1 : Int32)) hx hb dX0_tablePlace_5 (by decide) ?_
  refine lv_isub hx hb dX0_tablePlace_6 ?_
  refine lv_ishl hx hb dX0_tablePlace_7 ?_
  refine lv_topi (fun v1 e2 => ?_)
  have hf := pq_nmx hf v1 e2
  refine lv_istore_n (lv' := [(2, .int v1), (0, .ref th), (1, .int a1)]) hx hb dX0_tablePlace_8 rfl hl (by decide) rfl (fun ls hl => ?_)
  refine lv_iconst (v := (2 : Int32)) hx hb dX0_tablePlace_9 (by decide) ?_
  refine lv_iload_n hx hb dX0_tablePlace_10 rfl (lv_at hl 0 rfl) ?_
  refine lv_imul hx hb dX0_tablePlace_11 ?_
  refine lv_iconst (v := (1 : Int32)) hx hb dX0_tablePlace_12 (by decide) ?_
  refine lv_isub hx hb dX0_tablePlace_13 ?_
  refine lv_topi (fun v3 e4 => ?_)
  have hf := pq_nmx hf v3 e4
  refine lv_istore_n (lv' := [(3, .int v3), (2, .int v1), (0, .ref th), (1, .int a1)]) hx hb dX0_tablePlace_14 rfl hl (by decide) rfl (fun ls hl => ?_)
  refine lv_iload_n hx hb dX0_tablePlace_15 rfl (lv_at hl 3 rfl) ?_
  refine lv_iload_n hx hb dX0_tablePlace_16 rfl (lv_at hl 1 rfl) ?_
  refine lv_icmp_ge (tgt := 24) hx hb dX0_tablePlace_17 (by decide) (fun h5 => ?_) (fun h5 => ?_)
  · have hf := pq_brt hf h5
    refine lv_iload_n hx hb dX0_tablePlace_24 rfl (lv_at hl 0 rfl) ?_
    refine lv_iload_n hx hb dX0_tablePlace_25 rfl (lv_at hl 3 rfl) ?_
    refine lv_isub hx hb dX0_tablePlace_26 ?_
    exact J27 v1 (v3 - a1) _ _ hh ls (lv_sub hl [1] rfl) hf
  · have hf := pq_brf hf h5
    refine lv_iload_n hx hb dX0_tablePlace_20 rfl (lv_at hl 3 rfl) ?_
    refine lv_goto (tgt := 27) hx hb dX0_tablePlace_21 (by decide) ?_
    exact J27 v1 a1 _ _ hh ls (lv_sub hl [1] rfl) hf
set_option maxHeartbeats 4000000 in
set_option maxRecDepth 100000 in
theorem qX0_amount (l : Launch) (D : va_G) (cI cL : ClassId) (a0 : Int32) (res : Int32) (hf : fX0_amount a0 = some res) : pq_CI l yX0_amount qsX0_amount 0 0 D cI cL [.int a0] [] [] res := by
  refine pq_mkI (cc := cX0_amount) (maxL := 1) (RT := .int) (by decide) rfl (Nat.le_of_ble_eq_true rfl) ?_
  intro p e s m args below meth c Q A C hh hret ls hl
  have hx := C.1
  have hb := C.2.1
  have hml := C.2.2.1
  have hown : s.vm.findClass RX0 = some m.cls := C.2.2.2.1
  have hs : ∀ w ∈ wsL_law, w ∈ qsX0_amount := fun _ h => List.mem_cons_of_mem _ h
  have htw : ∀ w ∈ wsL_law, w.before args s = true := fun w h => C.2.2.2.2.1 w (hs w h)
  have hl : lv_has ls 1 [(0, .int a0)] := hl
  rw [fX0_amount] at hf
  refine lv_iload_n hx hb dX0_amount_0 rfl (lv_at hl 0 rfl) ?_
  refine lv_if_ge (tgt := 6) hx hb dX0_amount_1 (by decide) (fun h1 => ?_) (fun h1 => ?_)
  · have hf := pq_brt hf h1
    refine lv_sipush (v := (128 : Int32)) hx hb dX0_amount_6 (by decide) ?_
    refine lv_iload_n hx hb dX0_amount_9 rfl (lv_at hl 0 rfl) ?_
    refine lv_bipush (v := (127 : Int32)) hx hb dX0_amount_10 (by decide) ?_
    refine lv_iand hx hb dX0_amount_12 ?_
    refine lv_iadd hx hb dX0_amount_13 ?_
    refine lv_sipush (v := (128 : Int32)) hx hb dX0_amount_14 (by decide) ?_
    refine lv_imul hx hb dX0_amount_17 ?_
    refine lv_bipush (v := (14 : Int32)) hx hb dX0_amount_18 (by decide) ?_
    refine lv_iload_n hx hb dX0_amount_20 rfl (lv_at hl 0 rfl) ?_
    refine lv_bipush (v := (7 : Int32)) hx hb dX0_amount_21 (by decide) ?_
    refine lv_ishr hx hb dX0_amount_23 ?_
    refine lv_bipush (v := (15 : Int32)) hx hb dX0_amount_24 (by decide) ?_
    refine lv_iand hx hb dX0_amount_26 ?_
    refine lv_isub hx hb dX0_amount_27 ?_
    refine lv_ishr hx hb dX0_amount_28 ?_
    obtain rfl := Option.some.inj hf
    exact hret _ _ _ ls hh dX0_amount_29 rfl
  · have hf := pq_brf hf h1
    refine lv_iconst (v := (0 : Int32)) hx hb dX0_amount_4 (by decide) ?_
    obtain rfl := Option.some.inj hf
    exact hret _ _ _ ls hh dX0_amount_5 rfl
set_option maxHeartbeats 4000000 in
set_option maxRecDepth 100000 in
theorem qX0_isTransition (l : Launch) (D : va_G) (cI cL : ClassId) (th : Nat) (th_numbers : Nat) (c_bits : Int32) (c_se : Int32) (c_sz : Int32) (c_step : Int32) (f_numbers : Nat → Int32) (a1 : Int32) (res : Int32) (hf : fX0_isTransition a1 f_numbers = some res) : pq_CI l yX0_isTransition qsX0_isTransition 0 0 D cI cL [.ref th, .int a1] (wX0_isTransition cI th th_numbers c_bits c_se c_sz c_step f_numbers) (wX0_isTransition cI th th_numbers c_bits c_se c_sz c_step f_numbers) res := by
  refine pq_mkI (cc := cX0_isTransition) (maxL := 4) (RT := .boolean) (by decide) rfl (Nat.le_of_ble_eq_true rfl) ?_
  intro p e s m args below meth c Q A C hh hret ls hl
  have hx := C.1
  have hb := C.2.1
  have hml := C.2.2.1
  have hown : s.vm.findClass RX0 = some m.cls := C.2.2.2.1
  have hs : ∀ w ∈ wsL_law, w ∈ qsX0_isTransition := fun _ h => List.mem_cons_of_mem _ h
  have htw : ∀ w ∈ wsL_law, w.before args s = true := fun w h => C.2.2.2.2.1 w (hs w h)
  have hl : lv_has ls 4 [(0, .ref th), (1, .int a1)] := hl
  have i0 : ∀ w ∈ wsX00, w ∈ qsX0_isTransition := fun w h => hs w (pq_i0 w h)
  have kf11 := htw (.fieldLink RX0 11 "VoiceDesk$Adpcm" "numbers" "[I") (pq_m2 _ (List.mem_of_getElem? (i := 16) rfl))
  have J50 : ∀ (x1 : Int32) (s0 : Int32) (H : Heap) (locs : List Loc), pq_H D A s (wX0_isTransition cI th th_numbers c_bits c_se c_sz c_step f_numbers) H locs → ∀ ls : Array Slot, lv_has ls 4 [(1, .int x1)] → fX0_isTransition_b50  f_numbers x1 s0 = some res → W p l e (pq_rm 0 0) s m args below meth c H locs 0 0 Q (F0 m 50 ls [.int s0]) := by
    intro x1 s0 H locs hh ls hl hf
    rw [fX0_isTransition_b50] at hf
    refine lv_istore_n (lv' := [(3, .int s0), (1, .int x1)]) hx hb dX0_isTransition_50 rfl hl (by decide) rfl (fun ls hl => ?_)
    refine lv_iload_n hx hb dX0_isTransition_51 rfl (lv_at hl 1 rfl) ?_
    refine lv_iload_n hx hb dX0_isTransition_52 rfl (lv_at hl 0 rfl) ?_
    refine lv_iload_n hx hb dX0_isTransition_53 rfl (lv_at hl 0 rfl) ?_
    refine lv_iconst (v := (1 : Int32)) hx hb dX0_isTransition_54 (by decide) ?_
    refine lv_ishr hx hb dX0_isTransition_55 ?_
    refine lv_iadd hx hb dX0_isTransition_56 ?_
    refine lv_iconst (v := (1 : Int32)) hx hb dX0_isTransition_57 (by decide) ?_
    refine lv_ishr hx hb dX0_isTransition_58 ?_
    refine lv_icmp_le (tgt := 66) hx hb dX0_isTransition_59 (by decide) (fun h14 => ?_) (fun h14 => ?_)
    · have hf := pq_brt hf h14
      refine lv_iconst (v := (0 : Int32)) hx hb dX0_isTransition_66 (by decide) ?_
      obtain rfl := Option.some.inj hf
      exact hret _ _ _ ls hh dX0_isTransition_67 (pq_nb0 rfl)
    · have hf := pq_brf hf h14
      refine lv_iconst (v := (1 : Int32)) hx hb dX0_isTransition_62 (by decide) ?_
      refine lv_goto (tgt := 67) hx hb dX0_isTransition_63 (by decide) ?_
      obtain rfl := Option.some.inj hf
      exact hret _ _ _ ls hh dX0_isTransition_67 (pq_nb1 rfl)
  rw [fX0_isTransition] at hf
  refine lv_aload_n hx hb dX0_isTransition_0 rfl (lv_at hl 0 rfl) ?_
  refine pq_get C hh i0 0 0 rfl rfl 0 (by decide) kf11 rfl rfl dX0_isTransition_1 ?_
  refine lv_iconst (v := (5 : Int32)) hx hb dX0_isTransition_4 (by decide) ?_
  obtain ⟨h1, hf⟩ := pq_rdx hf
  refine pq_iald C hh 1 rfl h1 dX0_isTransition_5 (fun v2 e3 => ?_)
  have hf := hf v2 e3
  refine lv_if_ne (tgt := 11) hx hb dX0_isTransition_6 (by decide) (fun h4 => ?_) (fun h4 => ?_)
  · have hf := pq_brf hf h4
    refine lv_aload_n hx hb dX0_isTransition_11 rfl (lv_at hl 0 rfl) ?_
    refine pq_get C hh i0 0 0 rfl rfl 0 (by decide) kf11 rfl rfl dX0_isTransition_12 ?_
    refine lv_iconst (v := (0 : Int32)) hx hb dX0_isTransition_15 (by decide) ?_
    obtain ⟨h5, hf⟩ := pq_rdx hf
    refine pq_iald C hh 1 rfl h5 dX0_isTransition_16 (fun v6 e7 => ?_)
    have hf := hf v6 e7
    refine lv_bipush (v := (15 : Int32)) hx hb dX0_isTransition_17 (by decide) ?_
    refine lv_ishr hx hb dX0_isTransition_19 ?_
    refine lv_topi (fun v8 e9 => ?_)
    have hf := pq_nmx hf v8 e9
    refine lv_istore_n (lv' := [(2, .int v8), (0, .ref th), (1, .int a1)]) hx hb dX0_isTransition_20 rfl hl (by decide) rfl (fun ls hl => ?_)
    refine lv_iload_n hx hb dX0_isTransition_21 rfl (lv_at hl 0 rfl) ?_
    refine lv_bipush (v := (9 : Int32)) hx hb dX0_isTransition_22 (by decide) ?_
    refine lv_icmp_le (tgt := 33) hx hb dX0_isTransition_24 (by decide) (fun h10 => ?_) (fun h10 => ?_)
    · have hf := pq_brt hf h10
      refine lv_bipush (v := (32 : Int32)) hx hb dX0_isTransition_33 (by decide) ?_
      refine lv_aload_n hx hb dX0_isTransition_35 rfl (lv_at hl 1 rfl) ?_
      refine pq_get C hh i0 0 0 rfl rfl 0 (by decide) kf11 rfl rfl dX0_isTransition_36 ?_
      refine lv_iconst (v := (0 : Int32)) hx hb dX0_isTransition_39 (by decide) ?_
      obtain ⟨h11, hf⟩ := pq_rdx hf
      refine pq_iald C hh 1 rfl h11 dX0_isTransition_40 (fun v12 e13 => ?_)
      have hf := hf v12 e13
      refine lv_bipush (v := (10 : Int32)) hx hb dX0_isTransition_41 (by decide) ?_
      refine lv_ishr hx hb dX0_isTransition_43 ?_
      refine lv_bipush (v := (31 : Int32)) hx hb dX0_isTransition_44 (by decide) ?_
      refine lv_iand hx hb dX0_isTransition_46 ?_
      refine lv_iadd hx hb dX0_isTransition_47 ?_
      refine lv_iload_n hx hb dX0_isTransition_48 rfl (lv_at hl 0 rfl) ?_
      refine lv_ishl hx hb dX0_isTransition_49 ?_
      exact J50 a1 (((32 : Int32) + ((v12 >>> ((10 : Int32) &&& 31)) &&& (31 : Int32))) <<< (v8 &&& 31)) _ _ hh ls (lv_sub hl [2] rfl) hf
    · have hf := pq_brf hf h10
      refine lv_sipush (v := (31744 : Int32)) hx hb dX0_isTransition_27 (by decide) ?_
      refine lv_goto (tgt := 50) hx hb dX0_isTransition_30 (by decide) ?_
      exact J50 a1 (31744 : Int32) _ _ hh ls (lv_sub hl [2] rfl) hf
  · have hf := pq_brt hf h4
    refine lv_iconst (v := (0 : Int32)) hx hb dX0_isTransition_9 (by decide) ?_
    obtain rfl := Option.some.inj hf
    exact hret _ _ _ ls hh dX0_isTransition_10 (pq_nb0 rfl)
set_option maxHeartbeats 4000000 in
set_option maxRecDepth 100000 in
theorem qX0_adaptStep (l : Launch) (D : va_G) (cI cL : ClassId) (th : Nat) (th_numbers : Nat) (c_bits : Int32) (c_se : Int32) (c_sz : Int32) (c_step : Int32) (f_numbers : Nat → Int32) (a1 : Int32) (res : (Nat → Int32)) (hf : fX0_adaptStep a1 c_step f_numbers = some res) : pq_CV l yX0_adaptStep qsX0_adaptStep 1 22 D cI cL [.ref th, .int a1] (wX0_adaptStep cI th th_numbers c_bits c_se c_sz c_step f_numbers) (wX0_adaptStep cI th th_numbers c_bits c_se c_sz c_step res) := by
  refine pq_mkV (cc := cX0_adaptStep) (maxL := 2) (by decide) rfl (Nat.le_of_ble_eq_true rfl) ?_
  intro p e s m args below meth c Q A C hh hret ls hl
  have hx := C.1
  have hb := C.2.1
  have hml := C.2.2.1
  have hown : s.vm.findClass RX0 = some m.cls := C.2.2.2.1
  have hs : ∀ w ∈ wsL_law, w ∈ qsX0_adaptStep := fun _ h => List.mem_cons_of_mem _ h
  have htw : ∀ w ∈ wsL_law, w.before args s = true := fun w h => C.2.2.2.2.1 w (hs w h)
  have hl : lv_has ls 2 [(0, .ref th), (1, .int a1)] := hl
  have i0 : ∀ w ∈ wsX00, w ∈ qsX0_adaptStep := fun w h => hs w (pq_i0 w h)
  have kf11 := htw (.fieldLink RX0 11 "VoiceDesk$Adpcm" "numbers" "[I") (pq_m2 _ (List.mem_of_getElem? (i := 16) rfl))
  have kf25 := htw (.fieldLink RX0 25 "VoiceDesk$Adpcm" "step" "I") (pq_m2 _ (List.mem_of_getElem? (i := 20) rfl))
  have kiRX6 := htw (.initialized RX6) (pq_m1 _ (List.mem_of_getElem? (i := 2) rfl))
  have ks115 := htw (.static yX6_cut) (pq_m10 _ (List.mem_of_getElem? (i := 9) rfl))
  rw [fX0_adaptStep] at hf
  refine lv_aload_n hx hb dX0_adaptStep_0 rfl (lv_at hl 0 rfl) ?_
  refine pq_get C hh i0 0 0 rfl rfl 0 (by decide) kf11 rfl rfl dX0_adaptStep_1 ?_
  refine lv_iconst (v := (1 : Int32)) hx hb dX0_adaptStep_4 (by decide) ?_
  refine lv_aload_n hx hb dX0_adaptStep_5 rfl (lv_at hl 0 rfl) ?_
  refine pq_get C hh i0 0 0 rfl rfl 4 (by decide) kf25 rfl rfl dX0_adaptStep_6 ?_
  refine lv_iload_n hx hb dX0_adaptStep_9 rfl (lv_at hl 1 rfl) ?_
  refine lv_aload_n hx hb dX0_adaptStep_10 rfl (lv_at hl 0 rfl) ?_
  refine pq_get C hh i0 0 0 rfl rfl 4 (by decide) kf25 rfl rfl dX0_adaptStep_11 ?_
  refine lv_isub hx hb dX0_adaptStep_14 ?_
  refine lv_iconst (v := (5 : Int32)) hx hb dX0_adaptStep_15 (by decide) ?_
  refine lv_ishr hx hb dX0_adaptStep_16 ?_
  refine lv_iadd hx hb dX0_adaptStep_17 ?_
  refine lv_sipush (v := (544 : Int32)) hx hb dX0_adaptStep_18 (by decide) ?_
  refine lv_sipush (v := (5120 : Int32)) hx hb dX0_adaptStep_21 (by decide) ?_
  obtain ⟨r1, hu2, hf⟩ := pq_clx hf
  refine pq_cnI (n := 3) (As := [.int (c_step + ((a1 - c_step) >>> ((5 : Int32) &&& 31))), .int (544 : Int32), .int (5120 : Int32)]) C hh (qX6_cut l D cI cL (c_step + ((a1 - c_step) >>> ((5 : Int32) &&& 31))) (544 : Int32) (5120 : Int32) r1 hu2) (gnX6_cut hs) rfl (List.mem_of_getElem? (i := 9) rfl) ks115 kiRX6 (by decide +kernel) ⟨Nat.le_of_ble_eq_true rfl, Nat.le_of_ble_eq_true rfl⟩ hl.1 rfl rfl (Nat.le_of_ble_eq_true rfl) dX0_adaptStep_24 ⟨Nat.zero_le _, Nat.zero_le _⟩ [] [0, 1] [0, 1] rfl rfl (by decide) (by decide) (by decide) rfl (fun H locs (hh : pq_H D A s (wX0_adaptStep cI th th_numbers c_bits c_se c_sz c_step f_numbers) H locs) => ?_)
  obtain ⟨h3, hf⟩ := pq_wrx hf
  refine pq_iast C hh 1 rfl h3 dX0_adaptStep_27 (fun H locs f4 e5 (hh : pq_H D A s (wX0_adaptStep cI th th_numbers c_bits c_se c_sz c_step f4) H locs) => ?_)
  have hf := hf f4 e5
  refine lv_aload_n hx hb dX0_adaptStep_28 rfl (lv_at hl 0 rfl) ?_
  refine pq_get C hh i0 0 0 rfl rfl 0 (by decide) kf11 rfl rfl dX0_adaptStep_29 ?_
  refine lv_iconst (v := (0 : Int32)) hx hb dX0_adaptStep_32 (by decide) ?_
  refine lv_dup2_11 hx hb dX0_adaptStep_33 rfl rfl ?_
  obtain ⟨h6, hf⟩ := pq_rdx hf
  refine pq_iald C hh 1 rfl h6 dX0_adaptStep_34 (fun v7 e8 => ?_)
  have hf := hf v7 e8
  refine lv_aload_n hx hb dX0_adaptStep_35 rfl (lv_at hl 0 rfl) ?_
  refine pq_get C hh i0 0 0 rfl rfl 0 (by decide) kf11 rfl rfl dX0_adaptStep_36 ?_
  refine lv_iconst (v := (1 : Int32)) hx hb dX0_adaptStep_39 (by decide) ?_
  obtain ⟨h9, hf⟩ := pq_rdx hf
  refine pq_iald C hh 1 rfl h9 dX0_adaptStep_40 (fun v10 e11 => ?_)
  have hf := hf v10 e11
  refine lv_aload_n hx hb dX0_adaptStep_41 rfl (lv_at hl 0 rfl) ?_
  refine pq_get C hh i0 0 0 rfl rfl 0 (by decide) kf11 rfl rfl dX0_adaptStep_42 ?_
  refine lv_iconst (v := (0 : Int32)) hx hb dX0_adaptStep_45 (by decide) ?_
  obtain ⟨h12, hf⟩ := pq_rdx hf
  refine pq_iald C hh 1 rfl h12 dX0_adaptStep_46 (fun v13 e14 => ?_)
  have hf := hf v13 e14
  refine lv_ineg hx hb dX0_adaptStep_47 ?_
  refine lv_bipush (v := (6 : Int32)) hx hb dX0_adaptStep_48 (by decide) ?_
  refine lv_ishr hx hb dX0_adaptStep_50 ?_
  refine lv_iadd hx hb dX0_adaptStep_51 ?_
  refine lv_iadd hx hb dX0_adaptStep_52 ?_
  obtain ⟨h15, hf⟩ := pq_wrx hf
  refine pq_iast C hh 1 rfl h15 dX0_adaptStep_53 (fun H locs f16 e17 (hh : pq_H D A s (wX0_adaptStep cI th th_numbers c_bits c_se c_sz c_step f16) H locs) => ?_)
  have hf := hf f16 e17
  obtain rfl := Option.some.inj hf
  exact hret _ _ _ ls hh dX0_adaptStep_54
set_option maxHeartbeats 4000000 in
set_option maxRecDepth 100000 in
theorem qX0_forgetFilters (l : Launch) (D : va_G) (cI cL : ClassId) (th : Nat) (th_numbers : Nat) (c_bits : Int32) (c_se : Int32) (c_sz : Int32) (c_step : Int32) (f_numbers : Nat → Int32) (res : (Nat → Int32)) (hf : fX0_forgetFilters f_numbers = some res) : pq_CV l yX0_forgetFilters qsX0_forgetFilters 0 0 D cI cL [.ref th] (wX0_forgetFilters cI th th_numbers c_bits c_se c_sz c_step f_numbers) (wX0_forgetFilters cI th th_numbers c_bits c_se c_sz c_step res) := by
  refine pq_mkV (cc := cX0_forgetFilters) (maxL := 2) (by decide) rfl (Nat.le_of_ble_eq_true rfl) ?_
  intro p e s m args below meth c Q A C hh hret ls hl
  have hx := C.1
  have hb := C.2.1
  have hml := C.2.2.1
  have hown : s.vm.findClass RX0 = some m.cls := C.2.2.2.1
  have hs : ∀ w ∈ wsL_law, w ∈ qsX0_forgetFilters := fun _ h => List.mem_cons_of_mem _ h
  have htw : ∀ w ∈ wsL_law, w.before args s = true := fun w h => C.2.2.2.2.1 w (hs w h)
  have hl : lv_has ls 2 [(0, .ref th)] := hl
  have i0 : ∀ w ∈ wsX00, w ∈ qsX0_forgetFilters := fun w h => hs w (pq_i0 w h)
  have kf11 := htw (.fieldLink RX0 11 "VoiceDesk$Adpcm" "numbers" "[I") (pq_m2 _ (List.mem_of_getElem? (i := 16) rfl))
  have J18 : ∀ (fuel18 : Nat) (x1 : Int32) (f_numbers : Nat → Int32) (H : Heap) (locs : List Loc), pq_H D A s (wX0_forgetFilters cI th th_numbers c_bits c_se c_sz c_step f_numbers) H locs → ∀ ls : Array Slot, lv_has ls 2 [(0, .ref th), (1, .int x1)] → fX0_forgetFilters_b18   fuel18 x1 f_numbers = some res → W p l e (pq_rm 0 0) s m args below meth c H locs 0 0 Q (F0 m 18 ls []) := by
    intro fuel18
    induction fuel18 with
    | zero => intro x1 f_numbers H locs hh ls hl hf; rw [fX0_forgetFilters_b18] at hf; cases hf
    | succ fuel18 ih18 =>
      intro x1 f_numbers H locs hh ls hl hf
      rw [fX0_forgetFilters_b18] at hf
      refine lv_iload_n hx hb dX0_forgetFilters_18 rfl (lv_at hl 1 rfl) ?_
      refine lv_bipush (v := (6 : Int32)) hx hb dX0_forgetFilters_19 (by decide) ?_
      refine lv_icmp_ge (tgt := 40) hx hb dX0_forgetFilters_21 (by decide) (fun h7 => ?_) (fun h7 => ?_)
      · have hf := pq_brt hf h7
        obtain rfl := Option.some.inj hf
        exact hret _ _ _ ls hh dX0_forgetFilters_40
      · have hf := pq_brf hf h7
        refine lv_aload_n hx hb dX0_forgetFilters_24 rfl (lv_at hl 0 rfl) ?_
        refine pq_get C hh i0 0 0 rfl rfl 0 (by decide) kf11 rfl rfl dX0_forgetFilters_25 ?_
        refine lv_bipush (v := (8 : Int32)) hx hb dX0_forgetFilters_28 (by decide) ?_
        refine lv_iload_n hx hb dX0_forgetFilters_30 rfl (lv_at hl 1 rfl) ?_
        refine lv_iadd hx hb dX0_forgetFilters_31 ?_
        refine lv_iconst (v := (0 : Int32)) hx hb dX0_forgetFilters_32 (by decide) ?_
        obtain ⟨h8, hf⟩ := pq_wrx hf
        refine pq_iast C hh 1 rfl h8 dX0_forgetFilters_33 (fun H locs f9 e10 (hh : pq_H D A s (wX0_forgetFilters cI th th_numbers c_bits c_se c_sz c_step f9) H locs) => ?_)
        have hf := hf f9 e10
        obtain ⟨v11, e12⟩ : ∃ y : Int32, y = x1 + (1 : Int32) := ⟨_, rfl⟩
        refine lv_iinc (v := v11) (lv' := [(1, .int v11), (0, .ref th)]) hx hb dX0_forgetFilters_34 hl (k := 1) rfl (by rw [e12]; rfl) (by decide) rfl (fun ls hl => ?_)
        have hf := pq_nmx hf v11 e12
        refine lv_goto (tgt := 18) hx hb dX0_forgetFilters_37 (by decide) ?_
        exact ih18 v11 f9 _ _ hh ls (lv_sub hl [1, 0] rfl) hf
  rw [fX0_forgetFilters] at hf
  refine lv_aload_n hx hb dX0_forgetFilters_0 rfl (lv_at hl 0 rfl) ?_
  refine pq_get C hh i0 0 0 rfl rfl 0 (by decide) kf11 rfl rfl dX0_forgetFilters_1 ?_
  refine lv_bipush (v := (6 : Int32)) hx hb dX0_forgetFilters_4 (by decide) ?_
  refine lv_iconst (v := (0 : Int32)) hx hb dX0_forgetFilters_6 (by decide) ?_
  obtain ⟨h1, hf⟩ := pq_wrx hf
  refine pq_iast C hh 1 rfl h1 dX0_forgetFilters_7 (fun H locs f2 e3 (hh : pq_H D A s (wX0_forgetFilters cI th th_numbers c_bits c_se c_sz c_step f2) H locs) => ?_)
  have hf := hf f2 e3
  refine lv_aload_n hx hb dX0_forgetFilters_8 rfl (lv_at hl 0 rfl) ?_
  refine pq_get C hh i0 0 0 rfl rfl 0 (by decide) kf11 rfl rfl dX0_forgetFilters_9 ?_
  refine lv_bipush (v := (7 : Int32)) hx hb dX0_forgetFilters_12 (by decide) ?_
  refine lv_iconst (v := (0 : Int32)) hx hb dX0_forgetFilters_14 (by decide) ?_
  obtain ⟨h4, hf⟩ := pq_wrx hf
  refine pq_iast C hh 1 rfl h4 dX0_forgetFilters_15 (fun H locs f5 e6 (hh : pq_H D A s (wX0_forgetFilters cI th th_numbers c_bits c_se c_sz c_step f5) H locs) => ?_)
  have hf := hf f5 e6
  refine lv_iconst (v := (0 : Int32)) hx hb dX0_forgetFilters_16 (by decide) ?_
  refine lv_istore_n (lv' := [(1, .int (0 : Int32)), (0, .ref th)]) hx hb dX0_forgetFilters_17 rfl hl (by decide) rfl (fun ls hl => ?_)
  exact J18 1100 (0 : Int32) f5 _ _ hh ls (lv_sub hl [1, 0] rfl) hf
set_option maxHeartbeats 4000000 in
set_option maxRecDepth 100000 in
theorem qX6_sign (l : Launch) (D : va_G) (cI cL : ClassId) (a0 : Int32) (res : Int32) (hf : fX6_sign a0 = some res) : pq_CI l yX6_sign qsX6_sign 0 0 D cI cL [.int a0] [] [] res := by
  refine pq_mkI (cc := cX6_sign) (maxL := 1) (RT := .int) (by decide) rfl (Nat.le_of_ble_eq_true rfl) ?_
  intro p e s m args below meth c Q A C hh hret ls hl
  have hx := C.1
  have hb := C.2.1
  have hml := C.2.2.1
  have hown : s.vm.findClass RX6 = some m.cls := C.2.2.2.1
  have hs : ∀ w ∈ wsL_law, w ∈ qsX6_sign := fun _ h => List.mem_cons_of_mem _ h
  have htw : ∀ w ∈ wsL_law, w.before args s = true := fun w h => C.2.2.2.2.1 w (hs w h)
  have hl : lv_has ls 1 [(0, .int a0)] := hl
  rw [fX6_sign] at hf
  refine lv_iload_n hx hb dX6_sign_0 rfl (lv_at hl 0 rfl) ?_
  refine lv_if_ge (tgt := 8) hx hb dX6_sign_1 (by decide) (fun h1 => ?_) (fun h1 => ?_)
  · have hf := pq_brt hf h1
    refine lv_iconst (v := (0 : Int32)) hx hb dX6_sign_8 (by decide) ?_
    obtain rfl := Option.some.inj hf
    exact hret _ _ _ ls hh dX6_sign_9 rfl
  · have hf := pq_brf hf h1
    refine lv_iconst (v := (1 : Int32)) hx hb dX6_sign_4 (by decide) ?_
    refine lv_goto (tgt := 9) hx hb dX6_sign_5 (by decide) ?_
    obtain rfl := Option.some.inj hf
    exact hret _ _ _ ls hh dX6_sign_9 rfl
set_option maxHeartbeats 4000000 in
set_option maxRecDepth 100000 in
theorem qX0_nudgedA2 (l : Launch) (D : va_G) (cI cL : ClassId) (a0 : Int32) (a1 : Int32) (res : Int32) (hf : fX0_nudgedA2 a0 a1 = some res) : pq_CI l yX0_nudgedA2 qsX0_nudgedA2 0 0 D cI cL [.int a0, .int a1] [] [] res := by
  refine pq_mkI (cc := cX0_nudgedA2) (maxL := 2) (RT := .int) (by decide) rfl (Nat.le_of_ble_eq_true rfl) ?_
  intro p e s m args below meth c Q A C hh hret ls hl
  have hx := C.1
  have hb := C.2.1
  have hml := C.2.2.1
  have hown : s.vm.findClass RX0 = some m.cls := C.2.2.2.1
  have hs : ∀ w ∈ wsL_law, w ∈ qsX0_nudgedA2 := fun _ h => List.mem_cons_of_mem _ h
  have htw : ∀ w ∈ wsL_law, w.before args s = true := fun w h => C.2.2.2.2.1 w (hs w h)
  have hl : lv_has ls 2 [(0, .int a0), (1, .int a1)] := hl
  rw [fX0_nudgedA2] at hf
  refine lv_iload_n hx hb dX0_nudgedA2_0 rfl (lv_at hl 0 rfl) ?_
  refine lv_sipush (v := (-12288 : Int32)) hx hb dX0_nudgedA2_1 (by decide) ?_
  refine lv_iload_n hx hb dX0_nudgedA2_4 rfl (lv_at hl 1 rfl) ?_
  refine lv_isub hx hb dX0_nudgedA2_5 ?_
  refine lv_icmp_gt (tgt := 13) hx hb dX0_nudgedA2_6 (by decide) (fun h1 => ?_) (fun h1 => ?_)
  · have hf := pq_brt hf h1
    refine lv_iload_n hx hb dX0_nudgedA2_13 rfl (lv_at hl 0 rfl) ?_
    refine lv_sipush (v := (12288 : Int32)) hx hb dX0_nudgedA2_14 (by decide) ?_
    refine lv_iload_n hx hb dX0_nudgedA2_17 rfl (lv_at hl 1 rfl) ?_
    refine lv_isub hx hb dX0_nudgedA2_18 ?_
    refine lv_icmp_lt (tgt := 26) hx hb dX0_nudgedA2_19 (by decide) (fun h2 => ?_) (fun h2 => ?_)
    · have hf := pq_brt hf h2
      refine lv_iload_n hx hb dX0_nudgedA2_26 rfl (lv_at hl 0 rfl) ?_
      refine lv_iload_n hx hb dX0_nudgedA2_27 rfl (lv_at hl 1 rfl) ?_
      refine lv_iadd hx hb dX0_nudgedA2_28 ?_
      obtain rfl := Option.some.inj hf
      exact hret _ _ _ ls hh dX0_nudgedA2_29 rfl
    · have hf := pq_brf hf h2
      refine lv_sipush (v := (12288 : Int32)) hx hb dX0_nudgedA2_22 (by decide) ?_
      obtain rfl := Option.some.inj hf
      exact hret _ _ _ ls hh dX0_nudgedA2_25 rfl
  · have hf := pq_brf hf h1
    refine lv_sipush (v := (-12288 : Int32)) hx hb dX0_nudgedA2_9 (by decide) ?_
    obtain rfl := Option.some.inj hf
    exact hret _ _ _ ls hh dX0_nudgedA2_12 rfl
