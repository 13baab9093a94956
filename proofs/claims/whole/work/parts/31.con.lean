set_option maxHeartbeats 4000000 in
set_option maxRecDepth 100000 in
theorem qX0_adaptA2 (l : Launch) (D : va_G) (cI cL : ClassId) (th : Nat) (th_numbers : Nat) (c_bits : Int32) (c_se : Int32) (c_sz : Int32) (c_step : Int32) (f_numbers : Nat → Int32) (a1 : Int32) (res : (Nat → Int32)) (hf : fX0_adaptA2 a1 f_numbers = some res) : pq_CV l yX0_adaptA2 qsX0_adaptA2 1 21 D cI cL [.ref th, .int a1] (wX0_adaptA2 cI th th_numbers c_bits c_se c_sz c_step f_numbers) (wX0_adaptA2 cI th th_numbers c_bits c_se c_sz c_step res) := by
  refine pq_mkV (cc := cX0_adaptA2) (maxL := 5) (by decide) rfl (Nat.le_of_ble_eq_true rfl) ?_
  intro p e s m args below meth c Q A C hh hret ls hl
  have hx := C.1
  have hb := C.2.1
  have hml := C.2.2.1
  have hown : s.vm.findClass RX0 = some m.cls := C.2.2.2.1
  have hs : ∀ w ∈ wsL_law, w ∈ qsX0_adaptA2 := fun _ h => List.mem_cons_of_mem _ h
  have htw : ∀ w ∈ wsL_law, w.before args s = true := fun w h => C.2.2.2.2.1 w (hs w h)
  have hl : lv_has ls 5 [(0, .ref th), (1, .int a1)] := hl
  have i0 : ∀ w ∈ wsX00, w ∈ qsX0_adaptA2 := fun w h => hs w (pq_i0 w h)
  have kf11 := htw (.fieldLink RX0 11 "VoiceDesk$Adpcm" "numbers" "[I") (pq_m2 _ (List.mem_of_getElem? (i := 16) rfl))
  have kiRX6 := htw (.initialized RX6) (pq_m1 _ (List.mem_of_getElem? (i := 2) rfl))
  have ks102 := htw (.static yX6_sign) (pq_m10 _ (List.mem_of_getElem? (i := 19) rfl))
  have J124 : ∀ (x2 : Int32) (f_numbers : Nat → Int32) (H : Heap) (locs : List Loc), pq_H D A s (wX0_adaptA2 cI th th_numbers c_bits c_se c_sz c_step f_numbers) H locs → ∀ ls : Array Slot, lv_has ls 5 [(0, .ref th), (2, .int x2)] → fX0_adaptA2_b124   x2 f_numbers = some res → W p l e (pq_rm 1 21) s m args below meth c H locs 0 0 Q (F0 m 124 ls []) := by
    intro x2 f_numbers H locs hh ls hl hf
    rw [fX0_adaptA2_b124] at hf
    refine lv_aload_n hx hb dX0_adaptA2_124 rfl (lv_at hl 0 rfl) ?_
    refine pq_get C hh i0 0 0 rfl rfl 0 (by decide) kf11 rfl rfl dX0_adaptA2_125 ?_
    refine lv_bipush (v := (7 : Int32)) hx hb dX0_adaptA2_128 (by decide) ?_
    refine lv_iload_n hx hb dX0_adaptA2_130 rfl (lv_at hl 1 rfl) ?_
    obtain ⟨h36, hf⟩ := pq_wrx hf
    refine pq_iast C hh 1 rfl h36 dX0_adaptA2_131 (fun H locs f37 e38 (hh : pq_H D A s (wX0_adaptA2 cI th th_numbers c_bits c_se c_sz c_step f37) H locs) => ?_)
    have hf := hf f37 e38
    obtain rfl := Option.some.inj hf
    exact hret _ _ _ ls hh dX0_adaptA2_132
  have J120 : ∀ (s0 : Int32) (s1 : Int32) (f_numbers : Nat → Int32) (H : Heap) (locs : List Loc), pq_H D A s (wX0_adaptA2 cI th th_numbers c_bits c_se c_sz c_step f_numbers) H locs → ∀ ls : Array Slot, lv_has ls 5 [(0, .ref th)] → fX0_adaptA2_b120   s0 s1 f_numbers = some res → W p l e (pq_rm 1 21) s m args below meth c H locs 0 0 Q (F0 m 120 ls [.int s1, .int s0]) := by
    intro s0 s1 f_numbers H locs hh ls hl hf
    rw [fX0_adaptA2_b120] at hf
    obtain ⟨r34, hu35, hf⟩ := pq_clx hf
    refine pq_csI (n := 2) (As := [.int s0, .int s1]) C hh (qX0_nudgedA2 l D cI cL s0 s1 r34 hu35) (gsX0_nudgedA2 hs (pq_m13 _ (List.mem_of_getElem? (i := 22) rfl))) rfl (by decide +kernel) ⟨Nat.le_of_ble_eq_true rfl, Nat.le_of_ble_eq_true rfl⟩ hl.1 rfl rfl (Nat.le_of_ble_eq_true rfl) dX0_adaptA2_120 ⟨Nat.zero_le _, Nat.zero_le _⟩ [] [0, 1] [0, 1] rfl rfl (by decide) (by decide) (by decide) rfl (fun H locs (hh : pq_H D A s (wX0_adaptA2 cI th th_numbers c_bits c_se c_sz c_step f_numbers) H locs) => ?_)
    refine lv_istore_n (lv' := [(2, .int r34), (0, .ref th)]) hx hb dX0_adaptA2_123 rfl hl (by decide) rfl (fun ls hl => ?_)
    exact J124 r34 f_numbers _ _ hh ls (lv_sub hl [1, 0] rfl) hf
  have J100 : ∀ (x2 : Int32) (x3 : Int32) (f_numbers : Nat → Int32) (H : Heap) (locs : List Loc), pq_H D A s (wX0_adaptA2 cI th th_numbers c_bits c_se c_sz c_step f_numbers) H locs → ∀ ls : Array Slot, lv_has ls 5 [(0, .ref th), (2, .int x2), (3, .int x3)] → fX0_adaptA2_b100   x2 x3 f_numbers = some res → W p l e (pq_rm 1 21) s m args below meth c H locs 0 0 Q (F0 m 100 ls []) := by
    intro x2 x3 f_numbers H locs hh ls hl hf
    rw [fX0_adaptA2_b100] at hf
    refine lv_iload_n hx hb dX0_adaptA2_100 rfl (lv_at hl 1 rfl) ?_
    refine lv_iload_n hx hb dX0_adaptA2_101 rfl (lv_at hl 2 rfl) ?_
    refine lv_aload_n hx hb dX0_adaptA2_102 rfl (lv_at hl 0 rfl) ?_
    refine pq_get C hh i0 0 0 rfl rfl 0 (by decide) kf11 rfl rfl dX0_adaptA2_103 ?_
    refine lv_bipush (v := (23 : Int32)) hx hb dX0_adaptA2_106 (by decide) ?_
    obtain ⟨h30, hf⟩ := pq_rdx hf
    refine pq_iald C hh 1 rfl h30 dX0_adaptA2_108 (fun v31 e32 => ?_)
    have hf := hf v31 e32
    refine lv_icmp_eq (tgt := 117) hx hb dX0_adaptA2_109 (by decide) (fun h33 => ?_) (fun h33 => ?_)
    · have hf := pq_brt hf h33
      refine lv_sipush (v := (128 : Int32)) hx hb dX0_adaptA2_117 (by decide) ?_
      exact J120 x2 (128 : Int32) f_numbers _ _ hh ls (lv_sub hl [0] rfl) hf
    · have hf := pq_brf hf h33
      refine lv_bipush (v := (-128 : Int32)) hx hb dX0_adaptA2_112 (by decide) ?_
      refine lv_goto (tgt := 120) hx hb dX0_adaptA2_114 (by decide) ?_
      exact J120 x2 (-128 : Int32) f_numbers _ _ hh ls (lv_sub hl [0] rfl) hf
  have J57 : ∀ (x2 : Int32) (x3 : Int32) (s0 : Int32) (f_numbers : Nat → Int32) (H : Heap) (locs : List Loc), pq_H D A s (wX0_adaptA2 cI th th_numbers c_bits c_se c_sz c_step f_numbers) H locs → ∀ ls : Array Slot, lv_has ls 5 [(0, .ref th), (2, .int x2), (3, .int x3)] → fX0_adaptA2_b57   x2 x3 s0 f_numbers = some res → W p l e (pq_rm 1 21) s m args below meth c H locs 0 0 Q (F0 m 57 ls [.int s0]) := by
    intro x2 x3 s0 f_numbers H locs hh ls hl hf
    rw [fX0_adaptA2_b57] at hf
    refine lv_istore (lv' := [(4, .int s0), (0, .ref th), (2, .int x2), (3, .int x3)]) hx hb dX0_adaptA2_57 hl (by decide) rfl (fun ls hl => ?_)
    refine lv_iload hx hb dX0_adaptA2_59 (lv_at hl 0 rfl) ?_
    refine lv_sipush (v := (-8191 : Int32)) hx hb dX0_adaptA2_61 (by decide) ?_
    refine lv_icmp_ge (tgt := 76) hx hb dX0_adaptA2_64 (by decide) (fun h22 => ?_) (fun h22 => ?_)
    · have hf := pq_brt hf h22
      refine lv_iload hx hb dX0_adaptA2_76 (lv_at hl 0 rfl) ?_
      refine lv_sipush (v := (8191 : Int32)) hx hb dX0_adaptA2_78 (by decide) ?_
      refine lv_icmp_le (tgt := 93) hx hb dX0_adaptA2_81 (by decide) (fun h23 => ?_) (fun h23 => ?_)
      · have hf := pq_brt hf h23
        refine lv_iload_n hx hb dX0_adaptA2_93 rfl (lv_at hl 2 rfl) ?_
        refine lv_iload hx hb dX0_adaptA2_94 (lv_at hl 0 rfl) ?_
        refine lv_iconst (v := (5 : Int32)) hx hb dX0_adaptA2_96 (by decide) ?_
        refine lv_ishr hx hb dX0_adaptA2_97 ?_
        refine lv_iadd hx hb dX0_adaptA2_98 ?_
        refine lv_topi (fun v24 e25 => ?_)
        have hf := pq_nmx hf v24 e25
        refine lv_istore_n (lv' := [(2, .int v24), (4, .int s0), (0, .ref th), (3, .int x3)]) hx hb dX0_adaptA2_99 rfl hl (by decide) rfl (fun ls hl => ?_)
        exact J100 v24 x3 f_numbers _ _ hh ls (lv_sub hl [2, 0, 3] rfl) hf
      · have hf := pq_brf hf h23
        obtain ⟨v26, e27⟩ : ∃ y : Int32, y = x2 + (255 : Int32) := ⟨_, rfl⟩
        refine lv_iincW (v := v26) (lv' := [(2, .int v26), (4, .int s0), (0, .ref th), (3, .int x3)]) hx hb dX0_adaptA2_84 hl (k := 2) rfl (by rw [e27]; rfl) (by decide) rfl (fun ls hl => ?_)
        have hf := pq_nmx hf v26 e27
        refine lv_goto (tgt := 100) hx hb dX0_adaptA2_90 (by decide) ?_
        exact J100 v26 x3 f_numbers _ _ hh ls (lv_sub hl [2, 0, 3] rfl) hf
    · have hf := pq_brf hf h22
      obtain ⟨v28, e29⟩ : ∃ y : Int32, y = x2 + (-256 : Int32) := ⟨_, rfl⟩
      refine lv_iincW (v := v28) (lv' := [(2, .int v28), (4, .int s0), (0, .ref th), (3, .int x3)]) hx hb dX0_adaptA2_67 hl (k := 2) rfl (by rw [e29]; rfl) (by decide) rfl (fun ls hl => ?_)
      have hf := pq_nmx hf v28 e29
      refine lv_goto (tgt := 100) hx hb dX0_adaptA2_73 (by decide) ?_
      exact J100 v28 x3 f_numbers _ _ hh ls (lv_sub hl [2, 0, 3] rfl) hf
  rw [fX0_adaptA2] at hf
  refine lv_aload_n hx hb dX0_adaptA2_0 rfl (lv_at hl 0 rfl) ?_
  refine pq_get C hh i0 0 0 rfl rfl 0 (by decide) kf11 rfl rfl dX0_adaptA2_1 ?_
  refine lv_bipush (v := (7 : Int32)) hx hb dX0_adaptA2_4 (by decide) ?_
  obtain ⟨h1, hf⟩ := pq_rdx hf
  refine pq_iald C hh 1 rfl h1 dX0_adaptA2_6 (fun v2 e3 => ?_)
  have hf := hf v2 e3
  refine lv_aload_n hx hb dX0_adaptA2_7 rfl (lv_at hl 0 rfl) ?_
  refine pq_get C hh i0 0 0 rfl rfl 0 (by decide) kf11 rfl rfl dX0_adaptA2_8 ?_
  refine lv_bipush (v := (7 : Int32)) hx hb dX0_adaptA2_11 (by decide) ?_
  obtain ⟨h4, hf⟩ := pq_rdx hf
  refine pq_iald C hh 1 rfl h4 dX0_adaptA2_13 (fun v5 e6 => ?_)
  have hf := hf v5 e6
  refine lv_bipush (v := (7 : Int32)) hx hb dX0_adaptA2_14 (by decide) ?_
  refine lv_ishr hx hb dX0_adaptA2_16 ?_
  refine lv_isub hx hb dX0_adaptA2_17 ?_
  refine lv_topi (fun v7 e8 => ?_)
  have hf := pq_nmx hf v7 e8
  refine lv_istore_n (lv' := [(2, .int v7), (0, .ref th), (1, .int a1)]) hx hb dX0_adaptA2_18 rfl hl (by decide) rfl (fun ls hl => ?_)
  refine lv_iload_n hx hb dX0_adaptA2_19 rfl (lv_at hl 2 rfl) ?_
  refine lv_if_eq (tgt := 124) hx hb dX0_adaptA2_20 (by decide) (fun h9 => ?_) (fun h9 => ?_)
  · have hf := pq_brt hf h9
    exact J124 v7 f_numbers _ _ hh ls (lv_sub hl [1, 0] rfl) hf
  · have hf := pq_brf hf h9
    refine lv_iload_n hx hb dX0_adaptA2_23 rfl (lv_at hl 2 rfl) ?_
    obtain ⟨r10, hu11, hf⟩ := pq_clx hf
    refine pq_cnI (n := 1) (As := [.int a1]) C hh (qX6_sign l D cI cL a1 r10 hu11) (gnX6_sign hs) rfl (List.mem_of_getElem? (i := 10) rfl) ks102 kiRX6 (by decide +kernel) ⟨Nat.le_of_ble_eq_true rfl, Nat.le_of_ble_eq_true rfl⟩ hl.1 rfl rfl (Nat.le_of_ble_eq_true rfl) dX0_adaptA2_24 ⟨Nat.zero_le _, Nat.zero_le _⟩ [] [0, 1] [0, 1] rfl rfl (by decide) (by decide) (by decide) rfl (fun H locs (hh : pq_H D A s (wX0_adaptA2 cI th th_numbers c_bits c_se c_sz c_step f_numbers) H locs) => ?_)
    refine lv_istore_n (lv' := [(3, .int r10), (2, .int v7), (0, .ref th), (1, .int a1)]) hx hb dX0_adaptA2_27 rfl hl (by decide) rfl (fun ls hl => ?_)
    refine lv_iload_n hx hb dX0_adaptA2_28 rfl (lv_at hl 0 rfl) ?_
    refine lv_aload_n hx hb dX0_adaptA2_29 rfl (lv_at hl 2 rfl) ?_
    refine pq_get C hh i0 0 0 rfl rfl 0 (by decide) kf11 rfl rfl dX0_adaptA2_30 ?_
    refine lv_bipush (v := (22 : Int32)) hx hb dX0_adaptA2_33 (by decide) ?_
    obtain ⟨h12, hf⟩ := pq_rdx hf
    refine pq_iald C hh 1 rfl h12 dX0_adaptA2_35 (fun v13 e14 => ?_)
    have hf := hf v13 e14
    refine lv_icmp_eq (tgt := 49) hx hb dX0_adaptA2_36 (by decide) (fun h15 => ?_) (fun h15 => ?_)
    · have hf := pq_brt hf h15
      refine lv_aload_n hx hb dX0_adaptA2_49 rfl (lv_at hl 2 rfl) ?_
      refine pq_get C hh i0 0 0 rfl rfl 0 (by decide) kf11 rfl rfl dX0_adaptA2_50 ?_
      refine lv_bipush (v := (6 : Int32)) hx hb dX0_adaptA2_53 (by decide) ?_
      obtain ⟨h16, hf⟩ := pq_rdx hf
      refine pq_iald C hh 1 rfl h16 dX0_adaptA2_55 (fun v17 e18 => ?_)
      have hf := hf v17 e18
      refine lv_ineg hx hb dX0_adaptA2_56 ?_
      exact J57 v7 r10 (-v17) f_numbers _ _ hh ls (lv_sub hl [2, 1, 0] rfl) hf
    · have hf := pq_brf hf h15
      refine lv_aload_n hx hb dX0_adaptA2_39 rfl (lv_at hl 2 rfl) ?_
      refine pq_get C hh i0 0 0 rfl rfl 0 (by decide) kf11 rfl rfl dX0_adaptA2_40 ?_
      refine lv_bipush (v := (6 : Int32)) hx hb dX0_adaptA2_43 (by decide) ?_
      obtain ⟨h19, hf⟩ := pq_rdx hf
      refine pq_iald C hh 1 rfl h19 dX0_adaptA2_45 (fun v20 e21 => ?_)
      have hf := hf v20 e21
      refine lv_goto (tgt := 57) hx hb dX0_adaptA2_46 (by decide) ?_
      exact J57 v7 r10 v20 f_numbers _ _ hh ls (lv_sub hl [2, 1, 0] rfl) hf
set_option maxHeartbeats 4000000 in
set_option maxRecDepth 100000 in
theorem qX0_adaptA1 (l : Launch) (D : va_G) (cI cL : ClassId) (th : Nat) (th_numbers : Nat) (c_bits : Int32) (c_se : Int32) (c_sz : Int32) (c_step : Int32) (f_numbers : Nat → Int32) (a1 : Int32) (res : (Nat → Int32)) (hf : fX0_adaptA1 a1 f_numbers = some res) : pq_CV l yX0_adaptA1 qsX0_adaptA1 1 22 D cI cL [.ref th, .int a1] (wX0_adaptA1 cI th th_numbers c_bits c_se c_sz c_step f_numbers) (wX0_adaptA1 cI th th_numbers c_bits c_se c_sz c_step res) := by
  refine pq_mkV (cc := cX0_adaptA1) (maxL := 4) (by decide) rfl (Nat.le_of_ble_eq_true rfl) ?_
  intro p e s m args below meth c Q A C hh hret ls hl
  have hx := C.1
  have hb := C.2.1
  have hml := C.2.2.1
  have hown : s.vm.findClass RX0 = some m.cls := C.2.2.2.1
  have hs : ∀ w ∈ wsL_law, w ∈ qsX0_adaptA1 := fun _ h => List.mem_cons_of_mem _ h
  have htw : ∀ w ∈ wsL_law, w.before args s = true := fun w h => C.2.2.2.2.1 w (hs w h)
  have hl : lv_has ls 4 [(0, .ref th), (1, .int a1)] := hl
  have i0 : ∀ w ∈ wsX00, w ∈ qsX0_adaptA1 := fun w h => hs w (pq_i0 w h)
  have kf11 := htw (.fieldLink RX0 11 "VoiceDesk$Adpcm" "numbers" "[I") (pq_m2 _ (List.mem_of_getElem? (i := 16) rfl))
  have kiRX6 := htw (.initialized RX6) (pq_m1 _ (List.mem_of_getElem? (i := 2) rfl))
  have ks102 := htw (.static yX6_sign) (pq_m10 _ (List.mem_of_getElem? (i := 19) rfl))
  have ks115 := htw (.static yX6_cut) (pq_m10 _ (List.mem_of_getElem? (i := 9) rfl))
  have J49 : ∀ (x2 : Int32) (f_numbers : Nat → Int32) (H : Heap) (locs : List Loc), pq_H D A s (wX0_adaptA1 cI th th_numbers c_bits c_se c_sz c_step f_numbers) H locs → ∀ ls : Array Slot, lv_has ls 4 [(0, .ref th), (2, .int x2)] → fX0_adaptA1_b49   x2 f_numbers = some res → W p l e (pq_rm 1 22) s m args below meth c H locs 0 0 Q (F0 m 49 ls []) := by
    intro x2 f_numbers H locs hh ls hl hf
    rw [fX0_adaptA1_b49] at hf
    refine lv_sipush (v := (15360 : Int32)) hx hb dX0_adaptA1_49 (by decide) ?_
    refine lv_aload_n hx hb dX0_adaptA1_52 rfl (lv_at hl 0 rfl) ?_
    refine pq_get C hh i0 0 0 rfl rfl 0 (by decide) kf11 rfl rfl dX0_adaptA1_53 ?_
    refine lv_bipush (v := (7 : Int32)) hx hb dX0_adaptA1_56 (by decide) ?_
    obtain ⟨h18, hf⟩ := pq_rdx hf
    refine pq_iald C hh 1 rfl h18 dX0_adaptA1_58 (fun v19 e20 => ?_)
    have hf := hf v19 e20
    refine lv_isub hx hb dX0_adaptA1_59 ?_
    refine lv_topi (fun v21 e22 => ?_)
    have hf := pq_nmx hf v21 e22
    refine lv_istore_n (lv' := [(3, .int v21), (0, .ref th), (2, .int x2)]) hx hb dX0_adaptA1_60 rfl hl (by decide) rfl (fun ls hl => ?_)
    refine lv_aload_n hx hb dX0_adaptA1_61 rfl (lv_at hl 1 rfl) ?_
    refine pq_get C hh i0 0 0 rfl rfl 0 (by decide) kf11 rfl rfl dX0_adaptA1_62 ?_
    refine lv_bipush (v := (6 : Int32)) hx hb dX0_adaptA1_65 (by decide) ?_
    refine lv_iload_n hx hb dX0_adaptA1_67 rfl (lv_at hl 2 rfl) ?_
    refine lv_iload_n hx hb dX0_adaptA1_68 rfl (lv_at hl 0 rfl) ?_
    refine lv_ineg hx hb dX0_adaptA1_69 ?_
    refine lv_iload_n hx hb dX0_adaptA1_70 rfl (lv_at hl 0 rfl) ?_
    obtain ⟨r23, hu24, hf⟩ := pq_clx hf
    refine pq_cnI (n := 3) (As := [.int x2, .int (-v21), .int v21]) C hh (qX6_cut l D cI cL x2 (-v21) v21 r23 hu24) (gnX6_cut hs) rfl (List.mem_of_getElem? (i := 9) rfl) ks115 kiRX6 (by decide +kernel) ⟨Nat.le_of_ble_eq_true rfl, Nat.le_of_ble_eq_true rfl⟩ hl.1 rfl rfl (Nat.le_of_ble_eq_true rfl) dX0_adaptA1_71 ⟨Nat.zero_le _, Nat.zero_le _⟩ [] [0, 1] [0, 1] rfl rfl (by decide) (by decide) (by decide) rfl (fun H locs (hh : pq_H D A s (wX0_adaptA1 cI th th_numbers c_bits c_se c_sz c_step f_numbers) H locs) => ?_)
    obtain ⟨h25, hf⟩ := pq_wrx hf
    refine pq_iast C hh 1 rfl h25 dX0_adaptA1_74 (fun H locs f26 e27 (hh : pq_H D A s (wX0_adaptA1 cI th th_numbers c_bits c_se c_sz c_step f26) H locs) => ?_)
    have hf := hf f26 e27
    obtain rfl := Option.some.inj hf
    exact hret _ _ _ ls hh dX0_adaptA1_75
  have J47 : ∀ (s0 : Int32) (s1 : Int32) (f_numbers : Nat → Int32) (H : Heap) (locs : List Loc), pq_H D A s (wX0_adaptA1 cI th th_numbers c_bits c_se c_sz c_step f_numbers) H locs → ∀ ls : Array Slot, lv_has ls 4 [(0, .ref th)] → fX0_adaptA1_b47   s0 s1 f_numbers = some res → W p l e (pq_rm 1 22) s m args below meth c H locs 0 0 Q (F0 m 47 ls [.int s1, .int s0]) := by
    intro s0 s1 f_numbers H locs hh ls hl hf
    rw [fX0_adaptA1_b47] at hf
    refine lv_iadd hx hb dX0_adaptA1_47 ?_
    refine lv_topi (fun v16 e17 => ?_)
    have hf := pq_nmx hf v16 e17
    refine lv_istore_n (lv' := [(2, .int v16), (0, .ref th)]) hx hb dX0_adaptA1_48 rfl hl (by decide) rfl (fun ls hl => ?_)
    exact J49 v16 f_numbers _ _ hh ls (lv_sub hl [1, 0] rfl) hf
  rw [fX0_adaptA1] at hf
  refine lv_aload_n hx hb dX0_adaptA1_0 rfl (lv_at hl 0 rfl) ?_
  refine pq_get C hh i0 0 0 rfl rfl 0 (by decide) kf11 rfl rfl dX0_adaptA1_1 ?_
  refine lv_bipush (v := (6 : Int32)) hx hb dX0_adaptA1_4 (by decide) ?_
  obtain ⟨h1, hf⟩ := pq_rdx hf
  refine pq_iald C hh 1 rfl h1 dX0_adaptA1_6 (fun v2 e3 => ?_)
  have hf := hf v2 e3
  refine lv_aload_n hx hb dX0_adaptA1_7 rfl (lv_at hl 0 rfl) ?_
  refine pq_get C hh i0 0 0 rfl rfl 0 (by decide) kf11 rfl rfl dX0_adaptA1_8 ?_
  refine lv_bipush (v := (6 : Int32)) hx hb dX0_adaptA1_11 (by decide) ?_
  obtain ⟨h4, hf⟩ := pq_rdx hf
  refine pq_iald C hh 1 rfl h4 dX0_adaptA1_13 (fun v5 e6 => ?_)
  have hf := hf v5 e6
  refine lv_bipush (v := (8 : Int32)) hx hb dX0_adaptA1_14 (by decide) ?_
  refine lv_ishr hx hb dX0_adaptA1_16 ?_
  refine lv_isub hx hb dX0_adaptA1_17 ?_
  refine lv_topi (fun v7 e8 => ?_)
  have hf := pq_nmx hf v7 e8
  refine lv_istore_n (lv' := [(2, .int v7), (0, .ref th), (1, .int a1)]) hx hb dX0_adaptA1_18 rfl hl (by decide) rfl (fun ls hl => ?_)
  refine lv_iload_n hx hb dX0_adaptA1_19 rfl (lv_at hl 2 rfl) ?_
  refine lv_if_eq (tgt := 49) hx hb dX0_adaptA1_20 (by decide) (fun h9 => ?_) (fun h9 => ?_)
  · have hf := pq_brt hf h9
    exact J49 v7 f_numbers _ _ hh ls (lv_sub hl [1, 0] rfl) hf
  · have hf := pq_brf hf h9
    refine lv_iload_n hx hb dX0_adaptA1_23 rfl (lv_at hl 0 rfl) ?_
    refine lv_iload_n hx hb dX0_adaptA1_24 rfl (lv_at hl 2 rfl) ?_
    obtain ⟨r10, hu11, hf⟩ := pq_clx hf
    refine pq_cnI (n := 1) (As := [.int a1]) C hh (qX6_sign l D cI cL a1 r10 hu11) (gnX6_sign hs) rfl (List.mem_of_getElem? (i := 10) rfl) ks102 kiRX6 (by decide +kernel) ⟨Nat.le_of_ble_eq_true rfl, Nat.le_of_ble_eq_true rfl⟩ hl.1 rfl rfl (Nat.le_of_ble_eq_true rfl) dX0_adaptA1_25 ⟨Nat.zero_le _, Nat.zero_le _⟩ [] [0, 1] [0, 1] rfl rfl (by decide) (by decide) (by decide) rfl (fun H locs (hh : pq_H D A s (wX0_adaptA1 cI th th_numbers c_bits c_se c_sz c_step f_numbers) H locs) => ?_)
    refine lv_aload_n hx hb dX0_adaptA1_28 rfl (lv_at hl 1 rfl) ?_
    refine pq_get C hh i0 0 0 rfl rfl 0 (by decide) kf11 rfl rfl dX0_adaptA1_29 ?_
    refine lv_bipush (v := (22 : Int32)) hx hb dX0_adaptA1_32 (by decide) ?_
    obtain ⟨h12, hf⟩ := pq_rdx hf
    refine pq_iald C hh 1 rfl h12 dX0_adaptA1_34 (fun v13 e14 => ?_)
    have hf := hf v13 e14
    refine lv_icmp_ne (tgt := 44) hx hb dX0_adaptA1_35 (by decide) (fun h15 => ?_) (fun h15 => ?_)
    · have hf := pq_brf hf h15
      refine lv_sipush (v := (-192 : Int32)) hx hb dX0_adaptA1_44 (by decide) ?_
      exact J47 v7 (-192 : Int32) f_numbers _ _ hh ls (lv_sub hl [1] rfl) hf
    · have hf := pq_brt hf h15
      refine lv_sipush (v := (192 : Int32)) hx hb dX0_adaptA1_38 (by decide) ?_
      refine lv_goto (tgt := 47) hx hb dX0_adaptA1_41 (by decide) ?_
      exact J47 v7 (192 : Int32) f_numbers _ _ hh ls (lv_sub hl [1] rfl) hf
set_option maxHeartbeats 4000000 in
set_option maxRecDepth 100000 in
theorem qX0_adaptZeros (l : Launch) (D : va_G) (cI cL : ClassId) (th : Nat) (th_numbers : Nat) (c_bits : Int32) (c_se : Int32) (c_sz : Int32) (c_step : Int32) (f_numbers : Nat → Int32) (a1 : Int32) (a2 : Int32) (res : (Nat → Int32)) (hf : fX0_adaptZeros a1 a2 c_bits f_numbers = some res) : pq_CV l yX0_adaptZeros qsX0_adaptZeros 1 20 D cI cL [.ref th, .int a1, .int a2] (wX0_adaptZeros cI th th_numbers c_bits c_se c_sz c_step f_numbers) (wX0_adaptZeros cI th th_numbers c_bits c_se c_sz c_step res) := by
  refine pq_mkV (cc := cX0_adaptZeros) (maxL := 6) (by decide) rfl (Nat.le_of_ble_eq_true rfl) ?_
  intro p e s m args below meth c Q A C hh hret ls hl
  have hx := C.1
  have hb := C.2.1
  have hml := C.2.2.1
  have hown : s.vm.findClass RX0 = some m.cls := C.2.2.2.1
  have hs : ∀ w ∈ wsL_law, w ∈ qsX0_adaptZeros := fun _ h => List.mem_cons_of_mem _ h
  have htw : ∀ w ∈ wsL_law, w.before args s = true := fun w h => C.2.2.2.2.1 w (hs w h)
  have hl : lv_has ls 6 [(0, .ref th), (1, .int a1), (2, .int a2)] := hl
  have i0 : ∀ w ∈ wsX00, w ∈ qsX0_adaptZeros := fun w h => hs w (pq_i0 w h)
  have kf11 := htw (.fieldLink RX0 11 "VoiceDesk$Adpcm" "numbers" "[I") (pq_m2 _ (List.mem_of_getElem? (i := 16) rfl))
  have kf15 := htw (.fieldLink RX0 15 "VoiceDesk$Adpcm" "bits" "I") (pq_m2 _ (List.mem_of_getElem? (i := 17) rfl))
  have kiRX6 := htw (.initialized RX6) (pq_m1 _ (List.mem_of_getElem? (i := 2) rfl))
  have ks47 := htw (.static yX6_wrapped) (pq_m12 _ (List.mem_of_getElem? (i := 5) rfl))
  have J19 : ∀ (fuel19 : Nat) (x1 : Int32) (x2 : Int32) (x3 : Int32) (x4 : Int32) (f_numbers : Nat → Int32) (H : Heap) (locs : List Loc), pq_H D A s (wX0_adaptZeros cI th th_numbers c_bits c_se c_sz c_step f_numbers) H locs → ∀ ls : Array Slot, lv_has ls 6 [(0, .ref th), (1, .int x1), (2, .int x2), (3, .int x3), (4, .int x4)] → fX0_adaptZeros_b19  c_bits fuel19 x1 x2 x3 x4 f_numbers = some res → W p l e (pq_rm 1 20) s m args below meth c H locs 0 0 Q (F0 m 19 ls []) := by
    intro fuel19
    induction fuel19 with
    | zero => intro x1 x2 x3 x4 f_numbers H locs hh ls hl hf; rw [fX0_adaptZeros_b19] at hf; cases hf
    | succ fuel19 ih19 =>
      have J86 : ∀ (x1 : Int32) (x2 : Int32) (x3 : Int32) (x4 : Int32) (x5 : Int32) (f_numbers : Nat → Int32) (H : Heap) (locs : List Loc), pq_H D A s (wX0_adaptZeros cI th th_numbers c_bits c_se c_sz c_step f_numbers) H locs → ∀ ls : Array Slot, lv_has ls 6 [(0, .ref th), (1, .int x1), (2, .int x2), (3, .int x3), (4, .int x4), (5, .int x5)] → fX0_adaptZeros_b86 (fX0_adaptZeros_b19  c_bits fuel19) c_bits x1 x2 x3 x4 x5 f_numbers = some res → W p l e (pq_rm 1 20) s m args below meth c H locs 0 0 Q (F0 m 86 ls []) := by
        intro x1 x2 x3 x4 x5 f_numbers H locs hh ls hl hf
        rw [fX0_adaptZeros_b86] at hf
        refine lv_aload_n hx hb dX0_adaptZeros_86 rfl (lv_at hl 0 rfl) ?_
        refine pq_get C hh i0 0 0 rfl rfl 0 (by decide) kf11 rfl rfl dX0_adaptZeros_87 ?_
        refine lv_bipush (v := (8 : Int32)) hx hb dX0_adaptZeros_90 (by decide) ?_
        refine lv_iload hx hb dX0_adaptZeros_92 (lv_at hl 4 rfl) ?_
        refine lv_iadd hx hb dX0_adaptZeros_94 ?_
        refine lv_iload hx hb dX0_adaptZeros_95 (lv_at hl 5 rfl) ?_
        obtain ⟨r16, hu17, hf⟩ := pq_clx hf
        refine pq_cnI (n := 1) (As := [.int x5]) C hh (qX6_wrapped l D cI cL x5 r16 hu17) (gnX6_wrapped hs) rfl (List.mem_of_getElem? (i := 8) rfl) ks47 kiRX6 (by decide +kernel) ⟨Nat.le_of_ble_eq_true rfl, Nat.le_of_ble_eq_true rfl⟩ hl.1 rfl rfl (Nat.le_of_ble_eq_true rfl) dX0_adaptZeros_97 ⟨Nat.zero_le _, Nat.zero_le _⟩ [] [0, 1] [0, 1] rfl rfl (by decide) (by decide) (by decide) rfl (fun H locs (hh : pq_H D A s (wX0_adaptZeros cI th th_numbers c_bits c_se c_sz c_step f_numbers) H locs) => ?_)
        obtain ⟨h18, hf⟩ := pq_wrx hf
        refine pq_iast C hh 1 rfl h18 dX0_adaptZeros_100 (fun H locs f19 e20 (hh : pq_H D A s (wX0_adaptZeros cI th th_numbers c_bits c_se c_sz c_step f19) H locs) => ?_)
        have hf := hf f19 e20
        obtain ⟨v21, e22⟩ : ∃ y : Int32, y = x4 + (1 : Int32) := ⟨_, rfl⟩
        refine lv_iinc (v := v21) (lv' := [(4, .int v21), (0, .ref th), (1, .int x1), (2, .int x2), (3, .int x3), (5, .int x5)]) hx hb dX0_adaptZeros_101 hl (k := 4) rfl (by rw [e22]; rfl) (by decide) rfl (fun ls hl => ?_)
        have hf := pq_nmx hf v21 e22
        refine lv_goto (tgt := 19) hx hb dX0_adaptZeros_104 (by decide) ?_
        exact ih19 x1 x2 x3 v21 f19 _ _ hh ls (lv_sub hl [1, 2, 3, 4, 0] rfl) hf
      have J83 : ∀ (x1 : Int32) (x2 : Int32) (x3 : Int32) (x4 : Int32) (s0 : Int32) (s1 : Int32) (f_numbers : Nat → Int32) (H : Heap) (locs : List Loc), pq_H D A s (wX0_adaptZeros cI th th_numbers c_bits c_se c_sz c_step f_numbers) H locs → ∀ ls : Array Slot, lv_has ls 6 [(0, .ref th), (1, .int x1), (2, .int x2), (3, .int x3), (4, .int x4)] → fX0_adaptZeros_b83 (fX0_adaptZeros_b19  c_bits fuel19) c_bits x1 x2 x3 x4 s0 s1 f_numbers = some res → W p l e (pq_rm 1 20) s m args below meth c H locs 0 0 Q (F0 m 83 ls [.int s1, .int s0]) := by
        intro x1 x2 x3 x4 s0 s1 f_numbers H locs hh ls hl hf
        rw [fX0_adaptZeros_b83] at hf
        refine lv_iadd hx hb dX0_adaptZeros_83 ?_
        refine lv_topi (fun v14 e15 => ?_)
        have hf := pq_nmx hf v14 e15
        refine lv_istore (lv' := [(5, .int v14), (0, .ref th), (1, .int x1), (2, .int x2), (3, .int x3), (4, .int x4)]) hx hb dX0_adaptZeros_84 hl (by decide) rfl (fun ls hl => ?_)
        exact J86 x1 x2 x3 x4 v14 f_numbers _ _ hh ls (lv_sub hl [1, 2, 3, 4, 5, 0] rfl) hf
      have J72 : ∀ (x1 : Int32) (x2 : Int32) (x3 : Int32) (x4 : Int32) (s0 : Int32) (s1 : Int32) (s2 : Int32) (f_numbers : Nat → Int32) (H : Heap) (locs : List Loc), pq_H D A s (wX0_adaptZeros cI th th_numbers c_bits c_se c_sz c_step f_numbers) H locs → ∀ ls : Array Slot, lv_has ls 6 [(0, .ref th), (1, .int x1), (2, .int x2), (3, .int x3), (4, .int x4)] → fX0_adaptZeros_b72 (fX0_adaptZeros_b19  c_bits fuel19) c_bits x1 x2 x3 x4 s0 s1 s2 f_numbers = some res → W p l e (pq_rm 1 20) s m args below meth c H locs 0 0 Q (F0 m 72 ls [.int s2, .int s1, .int s0]) := by
        intro x1 x2 x3 x4 s0 s1 s2 f_numbers H locs hh ls hl hf
        rw [fX0_adaptZeros_b72] at hf
        refine lv_icmp_ne (tgt := 81) hx hb dX0_adaptZeros_72 (by decide) (fun h13 => ?_) (fun h13 => ?_)
        · have hf := pq_brf hf h13
          refine lv_bipush (v := (-128 : Int32)) hx hb dX0_adaptZeros_81 (by decide) ?_
          exact J83 x1 x2 x3 x4 s0 (-128 : Int32) f_numbers _ _ hh ls (lv_sub hl [0, 1, 2, 3, 4] rfl) hf
        · have hf := pq_brt hf h13
          refine lv_sipush (v := (128 : Int32)) hx hb dX0_adaptZeros_75 (by decide) ?_
          refine lv_goto (tgt := 83) hx hb dX0_adaptZeros_78 (by decide) ?_
          exact J83 x1 x2 x3 x4 s0 (128 : Int32) f_numbers _ _ hh ls (lv_sub hl [0, 1, 2, 3, 4] rfl) hf
      intro x1 x2 x3 x4 f_numbers H locs hh ls hl hf
      rw [fX0_adaptZeros_b19] at hf
      refine lv_iload hx hb dX0_adaptZeros_19 (lv_at hl 4 rfl) ?_
      refine lv_bipush (v := (6 : Int32)) hx hb dX0_adaptZeros_21 (by decide) ?_
      refine lv_icmp_ge (tgt := 107) hx hb dX0_adaptZeros_23 (by decide) (fun h2 => ?_) (fun h2 => ?_)
      · have hf := pq_brt hf h2
        obtain rfl := Option.some.inj hf
        exact hret _ _ _ ls hh dX0_adaptZeros_107
      · have hf := pq_brf hf h2
        refine lv_aload_n hx hb dX0_adaptZeros_26 rfl (lv_at hl 0 rfl) ?_
        refine pq_get C hh i0 0 0 rfl rfl 0 (by decide) kf11 rfl rfl dX0_adaptZeros_27 ?_
        refine lv_bipush (v := (8 : Int32)) hx hb dX0_adaptZeros_30 (by decide) ?_
        refine lv_iload hx hb dX0_adaptZeros_32 (lv_at hl 4 rfl) ?_
        refine lv_iadd hx hb dX0_adaptZeros_34 ?_
        obtain ⟨h3, hf⟩ := pq_rdx hf
        refine pq_iald C hh 1 rfl h3 dX0_adaptZeros_35 (fun v4 e5 => ?_)
        have hf := hf v4 e5
        refine lv_istore (lv' := [(5, .int v4), (0, .ref th), (1, .int x1), (2, .int x2), (3, .int x3), (4, .int x4)]) hx hb dX0_adaptZeros_36 hl (by decide) rfl (fun ls hl => ?_)
        refine lv_iload hx hb dX0_adaptZeros_38 (lv_at hl 0 rfl) ?_
        refine lv_iload hx hb dX0_adaptZeros_40 (lv_at hl 0 rfl) ?_
        refine lv_iload_n hx hb dX0_adaptZeros_42 rfl (lv_at hl 4 rfl) ?_
        refine lv_ishr hx hb dX0_adaptZeros_43 ?_
        refine lv_isub hx hb dX0_adaptZeros_44 ?_
        refine lv_topi (fun v6 e7 => ?_)
        have hf := pq_nmx hf v6 e7
        refine lv_istore (lv' := [(5, .int v6), (0, .ref th), (1, .int x1), (2, .int x2), (3, .int x3), (4, .int x4)]) hx hb dX0_adaptZeros_45 hl (by decide) rfl (fun ls hl => ?_)
        refine lv_iload_n hx hb dX0_adaptZeros_47 rfl (lv_at hl 2 rfl) ?_
        refine lv_if_eq (tgt := 86) hx hb dX0_adaptZeros_48 (by decide) (fun h8 => ?_) (fun h8 => ?_)
        · have hf := pq_brt hf h8
          exact J86 x1 x2 x3 x4 v6 f_numbers _ _ hh ls (lv_sub hl [1, 2, 3, 4, 5, 0] rfl) hf
        · have hf := pq_brf hf h8
          refine lv_iload hx hb dX0_adaptZeros_51 (lv_at hl 0 rfl) ?_
          refine lv_iload_n hx hb dX0_adaptZeros_53 rfl (lv_at hl 3 rfl) ?_
          refine lv_aload_n hx hb dX0_adaptZeros_54 rfl (lv_at hl 1 rfl) ?_
          refine pq_get C hh i0 0 0 rfl rfl 0 (by decide) kf11 rfl rfl dX0_adaptZeros_55 ?_
          refine lv_bipush (v := (16 : Int32)) hx hb dX0_adaptZeros_58 (by decide) ?_
          refine lv_iload hx hb dX0_adaptZeros_60 (lv_at hl 5 rfl) ?_
          refine lv_iadd hx hb dX0_adaptZeros_62 ?_
          obtain ⟨h9, hf⟩ := pq_rdx hf
          refine pq_iald C hh 1 rfl h9 dX0_adaptZeros_63 (fun v10 e11 => ?_)
          have hf := hf v10 e11
          refine lv_if_ge (tgt := 71) hx hb dX0_adaptZeros_64 (by decide) (fun h12 => ?_) (fun h12 => ?_)
          · have hf := pq_brt hf h12
            refine lv_iconst (v := (0 : Int32)) hx hb dX0_adaptZeros_71 (by decide) ?_
            exact J72 x1 x2 x3 x4 v6 x2 (0 : Int32) f_numbers _ _ hh ls (lv_sub hl [1, 2, 3, 4, 5] rfl) hf
          · have hf := pq_brf hf h12
            refine lv_iconst (v := (1 : Int32)) hx hb dX0_adaptZeros_67 (by decide) ?_
            refine lv_goto (tgt := 72) hx hb dX0_adaptZeros_68 (by decide) ?_
            exact J72 x1 x2 x3 x4 v6 x2 (1 : Int32) f_numbers _ _ hh ls (lv_sub hl [1, 2, 3, 4, 5] rfl) hf
  have J15 : ∀ (x1 : Int32) (x2 : Int32) (s0 : Int32) (f_numbers : Nat → Int32) (H : Heap) (locs : List Loc), pq_H D A s (wX0_adaptZeros cI th th_numbers c_bits c_se c_sz c_step f_numbers) H locs → ∀ ls : Array Slot, lv_has ls 6 [(0, .ref th), (1, .int x1), (2, .int x2)] → fX0_adaptZeros_b15  c_bits x1 x2 s0 f_numbers = some res → W p l e (pq_rm 1 20) s m args below meth c H locs 0 0 Q (F0 m 15 ls [.int s0]) := by
    intro x1 x2 s0 f_numbers H locs hh ls hl hf
    rw [fX0_adaptZeros_b15] at hf
    refine lv_istore_n (lv' := [(3, .int s0), (0, .ref th), (1, .int x1), (2, .int x2)]) hx hb dX0_adaptZeros_15 rfl hl (by decide) rfl (fun ls hl => ?_)
    refine lv_iconst (v := (0 : Int32)) hx hb dX0_adaptZeros_16 (by decide) ?_
    refine lv_istore (lv' := [(4, .int (0 : Int32)), (3, .int s0), (0, .ref th), (1, .int x1), (2, .int x2)]) hx hb dX0_adaptZeros_17 hl (by decide) rfl (fun ls hl => ?_)
    exact J19 1100 x1 x2 s0 (0 : Int32) f_numbers _ _ hh ls (lv_sub hl [2, 3, 4, 1, 0] rfl) hf
  rw [fX0_adaptZeros] at hf
  refine lv_aload_n hx hb dX0_adaptZeros_0 rfl (lv_at hl 0 rfl) ?_
  refine pq_get C hh i0 0 0 rfl rfl 1 (by decide) kf15 rfl rfl dX0_adaptZeros_1 ?_
  refine lv_iconst (v := (5 : Int32)) hx hb dX0_adaptZeros_4 (by decide) ?_
  refine lv_icmp_ne (tgt := 13) hx hb dX0_adaptZeros_5 (by decide) (fun h1 => ?_) (fun h1 => ?_)
  · have hf := pq_brf hf h1
    refine lv_bipush (v := (8 : Int32)) hx hb dX0_adaptZeros_13 (by decide) ?_
    exact J15 a1 a2 (8 : Int32) f_numbers _ _ hh ls (lv_sub hl [0, 1, 2] rfl) hf
  · have hf := pq_brt hf h1
    refine lv_bipush (v := (9 : Int32)) hx hb dX0_adaptZeros_8 (by decide) ?_
    refine lv_goto (tgt := 15) hx hb dX0_adaptZeros_10 (by decide) ?_
    exact J15 a1 a2 (9 : Int32) f_numbers _ _ hh ls (lv_sub hl [0, 1, 2] rfl) hf
set_option maxHeartbeats 4000000 in
set_option maxRecDepth 100000 in
theorem qX0_floatOf (l : Launch) (D : va_G) (cI cL : ClassId) (a0 : Int32) (a1 : Int32) (res : Int32) (hf : fX0_floatOf a0 a1 = some res) : pq_CI l yX0_floatOf qsX0_floatOf 1 21 D cI cL [.int a0, .int a1] [] [] res := by
  refine pq_mkI (cc := cX0_floatOf) (maxL := 4) (RT := .int) (by decide) rfl (Nat.le_of_ble_eq_true rfl) ?_
  intro p e s m args below meth c Q A C hh hret ls hl
  have hx := C.1
  have hb := C.2.1
  have hml := C.2.2.1
  have hown : s.vm.findClass RX0 = some m.cls := C.2.2.2.1
  have hs : ∀ w ∈ wsL_law, w ∈ qsX0_floatOf := fun _ h => List.mem_cons_of_mem _ h
  have htw : ∀ w ∈ wsL_law, w.before args s = true := fun w h => C.2.2.2.2.1 w (hs w h)
  have hl : lv_has ls 4 [(0, .int a0), (1, .int a1)] := hl
  have kc125 := htw (.constant RX0 125 (32768)) (pq_m14 _ (List.mem_of_getElem? (i := 12) rfl))
  have J30 : ∀ (x1 : Int32) (x2 : Int32) (H : Heap) (locs : List Loc), pq_H D A s [] H locs → ∀ ls : Array Slot, lv_has ls 4 [(1, .int x1), (2, .int x2)] → fX0_floatOf_b30   x1 x2 = some res → W p l e (pq_rm 1 21) s m args below meth c H locs 0 0 Q (F0 m 30 ls []) := by
    intro x1 x2 H locs hh ls hl hf
    rw [fX0_floatOf_b30] at hf
    refine lv_iload_n hx hb dX0_floatOf_30 rfl (lv_at hl 0 rfl) ?_
    refine lv_if_eq (tgt := 42) hx hb dX0_floatOf_31 (by decide) (fun h7 => ?_) (fun h7 => ?_)
    · have hf := pq_brt hf h7
      refine lv_iload_n hx hb dX0_floatOf_42 rfl (lv_at hl 1 rfl) ?_
      obtain rfl := Option.some.inj hf
      exact hret _ _ _ ls hh dX0_floatOf_43 rfl
    · have hf := pq_brf hf h7
      refine lv_iload_n hx hb dX0_floatOf_34 rfl (lv_at hl 1 rfl) ?_
      refine lv_sipush (v := (1024 : Int32)) hx hb dX0_floatOf_35 (by decide) ?_
      refine lv_isub hx hb dX0_floatOf_38 ?_
      refine lv_goto (tgt := 43) hx hb dX0_floatOf_39 (by decide) ?_
      obtain rfl := Option.some.inj hf
      exact hret _ _ _ ls hh dX0_floatOf_43 rfl
  rw [fX0_floatOf] at hf
  refine lv_bipush (v := (32 : Int32)) hx hb dX0_floatOf_0 (by decide) ?_
  refine lv_istore_n (lv' := [(2, .int (32 : Int32)), (0, .int a0), (1, .int a1)]) hx hb dX0_floatOf_2 rfl hl (by decide) rfl (fun ls hl => ?_)
  refine lv_iload_n hx hb dX0_floatOf_3 rfl (lv_at hl 1 rfl) ?_
  refine lv_if_le (tgt := 30) hx hb dX0_floatOf_4 (by decide) (fun h1 => ?_) (fun h1 => ?_)
  · have hf := pq_brt hf h1
    exact J30 a1 (32 : Int32) _ _ hh ls (lv_sub hl [2, 0] rfl) hf
  · have hf := pq_brf hf h1
    refine lv_iload_n hx hb dX0_floatOf_7 rfl (lv_at hl 1 rfl) ?_
    refine lv_ldc (v := (32768 : Int32)) hx hb hown kc125 dX0_floatOf_8 ?_
    refine lv_icmp_ge (tgt := 30) hx hb dX0_floatOf_10 (by decide) (fun h2 => ?_) (fun h2 => ?_)
    · have hf := pq_brt hf h2
      exact J30 a1 (32 : Int32) _ _ hh ls (lv_sub hl [2, 0] rfl) hf
    · have hf := pq_brf hf h2
      refine lv_iload_n hx hb dX0_floatOf_13 rfl (lv_at hl 1 rfl) ?_
      obtain ⟨r3, hu4, hf⟩ := pq_clx hf
      refine pq_csI (n := 1) (As := [.int a0]) C hh (qX0_size l D cI cL a0 r3 hu4) (gsX0_size hs (pq_m11 _ (List.mem_of_getElem? (i := 23) rfl))) rfl (by decide +kernel) ⟨Nat.le_of_ble_eq_true rfl, Nat.le_of_ble_eq_true rfl⟩ hl.1 rfl rfl (Nat.le_of_ble_eq_true rfl) dX0_floatOf_14 ⟨Nat.zero_le _, Nat.zero_le _⟩ [] [] [] rfl rfl (by decide) (by decide) (by decide) rfl (fun H locs (hh : pq_H D A s [] H locs) => ?_)
      refine lv_istore_n (lv' := [(3, .int r3), (2, .int (32 : Int32)), (0, .int a0), (1, .int a1)]) hx hb dX0_floatOf_17 rfl hl (by decide) rfl (fun ls hl => ?_)
      refine lv_bipush (v := (64 : Int32)) hx hb dX0_floatOf_18 (by decide) ?_
      refine lv_iload_n hx hb dX0_floatOf_20 rfl (lv_at hl 0 rfl) ?_
      refine lv_imul hx hb dX0_floatOf_21 ?_
      refine lv_bipush (v := (64 : Int32)) hx hb dX0_floatOf_22 (by decide) ?_
      refine lv_iload_n hx hb dX0_floatOf_24 rfl (lv_at hl 2 rfl) ?_
      refine lv_imul hx hb dX0_floatOf_25 ?_
      refine lv_iload_n hx hb dX0_floatOf_26 rfl (lv_at hl 0 rfl) ?_
      refine lv_ishr hx hb dX0_floatOf_27 ?_
      refine lv_iadd hx hb dX0_floatOf_28 ?_
      refine lv_topi (fun v5 e6 => ?_)
      have hf := pq_nmx hf v5 e6
      refine lv_istore_n (lv' := [(2, .int v5), (3, .int r3), (0, .int a0), (1, .int a1)]) hx hb dX0_floatOf_29 rfl hl (by decide) rfl (fun ls hl => ?_)
      exact J30 a1 v5 _ _ hh ls (lv_sub hl [3, 0] rfl) hf
set_option maxHeartbeats 4000000 in
set_option maxRecDepth 100000 in
theorem qX0_remember (l : Launch) (D : va_G) (cI cL : ClassId) (th : Nat) (th_numbers : Nat) (c_bits : Int32) (c_se : Int32) (c_sz : Int32) (c_step : Int32) (f_numbers : Nat → Int32) (a1 : Int32) (a2 : Int32) (a3 : Int32) (res : (Nat → Int32)) (hf : fX0_remember a1 a2 a3 f_numbers = some res) : pq_CV l yX0_remember qsX0_remember 0 0 D cI cL [.ref th, .int a1, .int a2, .int a3] (wX0_remember cI th th_numbers c_bits c_se c_sz c_step f_numbers) (wX0_remember cI th th_numbers c_bits c_se c_sz c_step res) := by
  refine pq_mkV (cc := cX0_remember) (maxL := 5) (by decide) rfl (Nat.le_of_ble_eq_true rfl) ?_
  intro p e s m args below meth c Q A C hh hret ls hl
  have hx := C.1
  have hb := C.2.1
  have hml := C.2.2.1
  have hown : s.vm.findClass RX0 = some m.cls := C.2.2.2.1
  have hs : ∀ w ∈ wsL_law, w ∈ qsX0_remember := fun _ h => List.mem_cons_of_mem _ h
  have htw : ∀ w ∈ wsL_law, w.before args s = true := fun w h => C.2.2.2.2.1 w (hs w h)
  have hl : lv_has ls 5 [(0, .ref th), (1, .int a1), (2, .int a2), (3, .int a3)] := hl
  have i0 : ∀ w ∈ wsX00, w ∈ qsX0_remember := fun w h => hs w (pq_i0 w h)
  have kf11 := htw (.fieldLink RX0 11 "VoiceDesk$Adpcm" "numbers" "[I") (pq_m2 _ (List.mem_of_getElem? (i := 16) rfl))
  have J3 : ∀ (fuel3 : Nat) (x1 : Int32) (x2 : Int32) (x3 : Int32) (x4 : Int32) (f_numbers : Nat → Int32) (H : Heap) (locs : List Loc), pq_H D A s (wX0_remember cI th th_numbers c_bits c_se c_sz c_step f_numbers) H locs → ∀ ls : Array Slot, lv_has ls 5 [(0, .ref th), (1, .int x1), (2, .int x2), (3, .int x3), (4, .int x4)] → fX0_remember_b3   fuel3 x1 x2 x3 x4 f_numbers = some res → W p l e (pq_rm 0 0) s m args below meth c H locs 0 0 Q (F0 m 3 ls []) := by
    intro fuel3
    induction fuel3 with
    | zero => intro x1 x2 x3 x4 f_numbers H locs hh ls hl hf; rw [fX0_remember_b3] at hf; cases hf
    | succ fuel3 ih3 =>
      intro x1 x2 x3 x4 f_numbers H locs hh ls hl hf
      rw [fX0_remember_b3] at hf
      refine lv_iload hx hb dX0_remember_3 (lv_at hl 4 rfl) ?_
      refine lv_if_le (tgt := 36) hx hb dX0_remember_5 (by decide) (fun h1 => ?_) (fun h1 => ?_)
      · have hf := pq_brt hf h1
        refine lv_aload_n hx hb dX0_remember_36 rfl (lv_at hl 0 rfl) ?_
        refine pq_get C hh i0 0 0 rfl rfl 0 (by decide) kf11 rfl rfl dX0_remember_37 ?_
        refine lv_bipush (v := (16 : Int32)) hx hb dX0_remember_40 (by decide) ?_
        refine lv_iload_n hx hb dX0_remember_42 rfl (lv_at hl 1 rfl) ?_
        obtain ⟨h2, hf⟩ := pq_wrx hf
        refine pq_iast C hh 1 rfl h2 dX0_remember_43 (fun H locs f3 e4 (hh : pq_H D A s (wX0_remember cI th th_numbers c_bits c_se c_sz c_step f3) H locs) => ?_)
        have hf := hf f3 e4
        refine lv_aload_n hx hb dX0_remember_44 rfl (lv_at hl 0 rfl) ?_
        refine pq_get C hh i0 0 0 rfl rfl 0 (by decide) kf11 rfl rfl dX0_remember_45 ?_
        refine lv_bipush (v := (15 : Int32)) hx hb dX0_remember_48 (by decide) ?_
        refine lv_aload_n hx hb dX0_remember_50 rfl (lv_at hl 0 rfl) ?_
        refine pq_get C hh i0 0 0 rfl rfl 0 (by decide) kf11 rfl rfl dX0_remember_51 ?_
        refine lv_bipush (v := (14 : Int32)) hx hb dX0_remember_54 (by decide) ?_
        obtain ⟨h5, hf⟩ := pq_rdx hf
        refine pq_iald C hh 1 rfl h5 dX0_remember_56 (fun v6 e7 => ?_)
        have hf := hf v6 e7
        obtain ⟨h8, hf⟩ := pq_wrx hf
        refine pq_iast C hh 1 rfl h8 dX0_remember_57 (fun H locs f9 e10 (hh : pq_H D A s (wX0_remember cI th th_numbers c_bits c_se c_sz c_step f9) H locs) => ?_)
        have hf := hf f9 e10
        refine lv_aload_n hx hb dX0_remember_58 rfl (lv_at hl 0 rfl) ?_
        refine pq_get C hh i0 0 0 rfl rfl 0 (by decide) kf11 rfl rfl dX0_remember_59 ?_
        refine lv_bipush (v := (14 : Int32)) hx hb dX0_remember_62 (by decide) ?_
        refine lv_iload_n hx hb dX0_remember_64 rfl (lv_at hl 2 rfl) ?_
        obtain ⟨h11, hf⟩ := pq_wrx hf
        refine pq_iast C hh 1 rfl h11 dX0_remember_65 (fun H locs f12 e13 (hh : pq_H D A s (wX0_remember cI th th_numbers c_bits c_se c_sz c_step f12) H locs) => ?_)
        have hf := hf f12 e13
        refine lv_aload_n hx hb dX0_remember_66 rfl (lv_at hl 0 rfl) ?_
        refine pq_get C hh i0 0 0 rfl rfl 0 (by decide) kf11 rfl rfl dX0_remember_67 ?_
        refine lv_bipush (v := (23 : Int32)) hx hb dX0_remember_70 (by decide) ?_
        refine lv_aload_n hx hb dX0_remember_72 rfl (lv_at hl 0 rfl) ?_
        refine pq_get C hh i0 0 0 rfl rfl 0 (by decide) kf11 rfl rfl dX0_remember_73 ?_
        refine lv_bipush (v := (22 : Int32)) hx hb dX0_remember_76 (by decide) ?_
        obtain ⟨h14, hf⟩ := pq_rdx hf
        refine pq_iald C hh 1 rfl h14 dX0_remember_78 (fun v15 e16 => ?_)
        have hf := hf v15 e16
        obtain ⟨h17, hf⟩ := pq_wrx hf
        refine pq_iast C hh 1 rfl h17 dX0_remember_79 (fun H locs f18 e19 (hh : pq_H D A s (wX0_remember cI th th_numbers c_bits c_se c_sz c_step f18) H locs) => ?_)
        have hf := hf f18 e19
        refine lv_aload_n hx hb dX0_remember_80 rfl (lv_at hl 0 rfl) ?_
        refine pq_get C hh i0 0 0 rfl rfl 0 (by decide) kf11 rfl rfl dX0_remember_81 ?_
        refine lv_bipush (v := (22 : Int32)) hx hb dX0_remember_84 (by decide) ?_
        refine lv_iload_n hx hb dX0_remember_86 rfl (lv_at hl 3 rfl) ?_
        obtain ⟨h20, hf⟩ := pq_wrx hf
        refine pq_iast C hh 1 rfl h20 dX0_remember_87 (fun H locs f21 e22 (hh : pq_H D A s (wX0_remember cI th th_numbers c_bits c_se c_sz c_step f21) H locs) => ?_)
        have hf := hf f21 e22
        obtain rfl := Option.some.inj hf
        exact hret _ _ _ ls hh dX0_remember_88
      · have hf := pq_brf hf h1
        refine lv_aload_n hx hb dX0_remember_8 rfl (lv_at hl 0 rfl) ?_
        refine pq_get C hh i0 0 0 rfl rfl 0 (by decide) kf11 rfl rfl dX0_remember_9 ?_
        refine lv_bipush (v := (16 : Int32)) hx hb dX0_remember_12 (by decide) ?_
        refine lv_iload hx hb dX0_remember_14 (lv_at hl 4 rfl) ?_
        refine lv_iadd hx hb dX0_remember_16 ?_
        refine lv_aload_n hx hb dX0_remember_17 rfl (lv_at hl 0 rfl) ?_
        refine pq_get C hh i0 0 0 rfl rfl 0 (by decide) kf11 rfl rfl dX0_remember_18 ?_
        refine lv_bipush (v := (16 : Int32)) hx hb dX0_remember_21 (by decide) ?_
        refine lv_iload hx hb dX0_remember_23 (lv_at hl 4 rfl) ?_
        refine lv_iadd hx hb dX0_remember_25 ?_
        refine lv_iconst (v := (1 : Int32)) hx hb dX0_remember_26 (by decide) ?_
        refine lv_isub hx hb dX0_remember_27 ?_
        obtain ⟨h23, hf⟩ := pq_rdx hf
        refine pq_iald C hh 1 rfl h23 dX0_remember_28 (fun v24 e25 => ?_)
        have hf := hf v24 e25
        obtain ⟨h26, hf⟩ := pq_wrx hf
        refine pq_iast C hh 1 rfl h26 dX0_remember_29 (fun H locs f27 e28 (hh : pq_H D A s (wX0_remember cI th th_numbers c_bits c_se c_sz c_step f27) H locs) => ?_)
        have hf := hf f27 e28
        obtain ⟨v29, e30⟩ : ∃ y : Int32, y = x4 + (-1 : Int32) := ⟨_, rfl⟩
        refine lv_iinc (v := v29) (lv' := [(4, .int v29), (0, .ref th), (1, .int x1), (2, .int x2), (3, .int x3)]) hx hb dX0_remember_30 hl (k := 4) rfl (by rw [e30]; rfl) (by decide) rfl (fun ls hl => ?_)
        have hf := pq_nmx hf v29 e30
        refine lv_goto (tgt := 3) hx hb dX0_remember_33 (by decide) ?_
        exact ih3 x1 x2 x3 v29 f27 _ _ hh ls (lv_sub hl [1, 2, 3, 4, 0] rfl) hf
  rw [fX0_remember] at hf
  refine lv_iconst (v := (5 : Int32)) hx hb dX0_remember_0 (by decide) ?_
  refine lv_istore (lv' := [(4, .int (5 : Int32)), (0, .ref th), (1, .int a1), (2, .int a2), (3, .int a3)]) hx hb dX0_remember_1 hl (by decide) rfl (fun ls hl => ?_)
  exact J3 1100 a1 a2 a3 (5 : Int32) f_numbers _ _ hh ls (lv_sub hl [1, 2, 3, 4, 0] rfl) hf
set_option maxHeartbeats 4000000 in
set_option maxRecDepth 100000 in
theorem qX0_adaptPace (l : Launch) (D : va_G) (cI cL : ClassId) (th : Nat) (th_numbers : Nat) (c_bits : Int32) (c_se : Int32) (c_sz : Int32) (c_step : Int32) (f_numbers : Nat → Int32) (a1 : Int32) (a2 : Int32) (res : (Nat → Int32)) (hf : fX0_adaptPace a1 a2 c_step f_numbers = some res) : pq_CV l yX0_adaptPace qsX0_adaptPace 1 13 D cI cL [.ref th, .int a1, .int a2] (wX0_adaptPace cI th th_numbers c_bits c_se c_sz c_step f_numbers) (wX0_adaptPace cI th th_numbers c_bits c_se c_sz c_step res) := by
  refine pq_mkV (cc := cX0_adaptPace) (maxL := 4) (by decide) rfl (Nat.le_of_ble_eq_true rfl) ?_
  intro p e s m args below meth c Q A C hh hret ls hl
  have hx := C.1
  have hb := C.2.1
  have hml := C.2.2.1
  have hown : s.vm.findClass RX0 = some m.cls := C.2.2.2.1
  have hs : ∀ w ∈ wsL_law, w ∈ qsX0_adaptPace := fun _ h => List.mem_cons_of_mem _ h
  have htw : ∀ w ∈ wsL_law, w.before args s = true := fun w h => C.2.2.2.2.1 w (hs w h)
  have hl : lv_has ls 4 [(0, .ref th), (1, .int a1), (2, .int a2)] := hl
  have i0 : ∀ w ∈ wsX00, w ∈ qsX0_adaptPace := fun w h => hs w (pq_i0 w h)
  have kf11 := htw (.fieldLink RX0 11 "VoiceDesk$Adpcm" "numbers" "[I") (pq_m2 _ (List.mem_of_getElem? (i := 16) rfl))
  have kf25 := htw (.fieldLink RX0 25 "VoiceDesk$Adpcm" "step" "I") (pq_m2 _ (List.mem_of_getElem? (i := 20) rfl))
  have kim := htw (.initialized "java/lang/Math") (pq_m10 _ (List.mem_of_getElem? (i := 17) rfl))
  have kk54 := htw (.code Lib.Math.abs.name Lib.Math.abs.code 1 (some .int)) (pq_m11 _ (List.mem_of_getElem? (i := 22) rfl))
  have km54 := htw (.methodLink RX0 54 Lib.Math.abs.name) (pq_m11 _ (List.mem_of_getElem? (i := 20) rfl))
  have ks54 := htw (.static Lib.Math.abs.name) (pq_m11 _ (List.mem_of_getElem? (i := 21) rfl))
  have J108 : ∀ (f_numbers : Nat → Int32) (H : Heap) (locs : List Loc), pq_H D A s (wX0_adaptPace cI th th_numbers c_bits c_se c_sz c_step f_numbers) H locs → ∀ ls : Array Slot, lv_has ls 4 [(0, .ref th)] → fX0_adaptPace_b108  c_step f_numbers = some res → W p l e (pq_rm 1 13) s m args below meth c H locs 0 0 Q (F0 m 108 ls []) := by
    intro f_numbers H locs hh ls hl hf
    rw [fX0_adaptPace_b108] at hf
    refine lv_aload_n hx hb dX0_adaptPace_108 rfl (lv_at hl 0 rfl) ?_
    refine pq_get C hh i0 0 0 rfl rfl 0 (by decide) kf11 rfl rfl dX0_adaptPace_109 ?_
    refine lv_iconst (v := (4 : Int32)) hx hb dX0_adaptPace_112 (by decide) ?_
    refine lv_dup2_11 hx hb dX0_adaptPace_113 rfl rfl ?_
    obtain ⟨h49, hf⟩ := pq_rdx hf
    refine pq_iald C hh 1 rfl h49 dX0_adaptPace_114 (fun v50 e51 => ?_)
    have hf := hf v50 e51
    refine lv_sipush (v := (512 : Int32)) hx hb dX0_adaptPace_115 (by decide) ?_
    refine lv_aload_n hx hb dX0_adaptPace_118 rfl (lv_at hl 0 rfl) ?_
    refine pq_get C hh i0 0 0 rfl rfl 0 (by decide) kf11 rfl rfl dX0_adaptPace_119 ?_
    refine lv_iconst (v := (4 : Int32)) hx hb dX0_adaptPace_122 (by decide) ?_
    obtain ⟨h52, hf⟩ := pq_rdx hf
    refine pq_iald C hh 1 rfl h52 dX0_adaptPace_123 (fun v53 e54 => ?_)
    have hf := hf v53 e54
    refine lv_isub hx hb dX0_adaptPace_124 ?_
    refine lv_iconst (v := (4 : Int32)) hx hb dX0_adaptPace_125 (by decide) ?_
    refine lv_ishr hx hb dX0_adaptPace_126 ?_
    refine lv_iadd hx hb dX0_adaptPace_127 ?_
    obtain ⟨h55, hf⟩ := pq_wrx hf
    refine pq_iast C hh 1 rfl h55 dX0_adaptPace_128 (fun H locs f56 e57 (hh : pq_H D A s (wX0_adaptPace cI th th_numbers c_bits c_se c_sz c_step f56) H locs) => ?_)
    have hf := hf f56 e57
    refine lv_goto (tgt := 150) hx hb dX0_adaptPace_129 (by decide) ?_
    obtain rfl := Option.some.inj hf
    exact hret _ _ _ ls hh dX0_adaptPace_150
  rw [fX0_adaptPace] at hf
  refine lv_aload_n hx hb dX0_adaptPace_0 rfl (lv_at hl 0 rfl) ?_
  refine pq_get C hh i0 0 0 rfl rfl 0 (by decide) kf11 rfl rfl dX0_adaptPace_1 ?_
  refine lv_iconst (v := (2 : Int32)) hx hb dX0_adaptPace_4 (by decide) ?_
  refine lv_dup2_11 hx hb dX0_adaptPace_5 rfl rfl ?_
  obtain ⟨h1, hf⟩ := pq_rdx hf
  refine pq_iald C hh 1 rfl h1 dX0_adaptPace_6 (fun v2 e3 => ?_)
  have hf := hf v2 e3
  refine lv_iload_n hx hb dX0_adaptPace_7 rfl (lv_at hl 1 rfl) ?_
  refine lv_aload_n hx hb dX0_adaptPace_8 rfl (lv_at hl 0 rfl) ?_
  refine pq_get C hh i0 0 0 rfl rfl 0 (by decide) kf11 rfl rfl dX0_adaptPace_9 ?_
  refine lv_iconst (v := (2 : Int32)) hx hb dX0_adaptPace_12 (by decide) ?_
  obtain ⟨h4, hf⟩ := pq_rdx hf
  refine pq_iald C hh 1 rfl h4 dX0_adaptPace_13 (fun v5 e6 => ?_)
  have hf := hf v5 e6
  refine lv_isub hx hb dX0_adaptPace_14 ?_
  refine lv_iconst (v := (5 : Int32)) hx hb dX0_adaptPace_15 (by decide) ?_
  refine lv_ishr hx hb dX0_adaptPace_16 ?_
  refine lv_iadd hx hb dX0_adaptPace_17 ?_
  obtain ⟨h7, hf⟩ := pq_wrx hf
  refine pq_iast C hh 1 rfl h7 dX0_adaptPace_18 (fun H locs f8 e9 (hh : pq_H D A s (wX0_adaptPace cI th th_numbers c_bits c_se c_sz c_step f8) H locs) => ?_)
  have hf := hf f8 e9
  refine lv_aload_n hx hb dX0_adaptPace_19 rfl (lv_at hl 0 rfl) ?_
  refine pq_get C hh i0 0 0 rfl rfl 0 (by decide) kf11 rfl rfl dX0_adaptPace_20 ?_
  refine lv_iconst (v := (3 : Int32)) hx hb dX0_adaptPace_23 (by decide) ?_
  refine lv_dup2_11 hx hb dX0_adaptPace_24 rfl rfl ?_
  obtain ⟨h10, hf⟩ := pq_rdx hf
  refine pq_iald C hh 1 rfl h10 dX0_adaptPace_25 (fun v11 e12 => ?_)
  have hf := hf v11 e12
  refine lv_iconst (v := (4 : Int32)) hx hb dX0_adaptPace_26 (by decide) ?_
  refine lv_iload_n hx hb dX0_adaptPace_27 rfl (lv_at hl 1 rfl) ?_
  refine lv_imul hx hb dX0_adaptPace_28 ?_
  refine lv_aload_n hx hb dX0_adaptPace_29 rfl (lv_at hl 0 rfl) ?_
  refine pq_get C hh i0 0 0 rfl rfl 0 (by decide) kf11 rfl rfl dX0_adaptPace_30 ?_
  refine lv_iconst (v := (3 : Int32)) hx hb dX0_adaptPace_33 (by decide) ?_
  obtain ⟨h13, hf⟩ := pq_rdx hf
  refine pq_iald C hh 1 rfl h13 dX0_adaptPace_34 (fun v14 e15 => ?_)
  have hf := hf v14 e15
  refine lv_isub hx hb dX0_adaptPace_35 ?_
  refine lv_bipush (v := (7 : Int32)) hx hb dX0_adaptPace_36 (by decide) ?_
  refine lv_ishr hx hb dX0_adaptPace_38 ?_
  refine lv_iadd hx hb dX0_adaptPace_39 ?_
  obtain ⟨h16, hf⟩ := pq_wrx hf
  refine pq_iast C hh 1 rfl h16 dX0_adaptPace_40 (fun H locs f17 e18 (hh : pq_H D A s (wX0_adaptPace cI th th_numbers c_bits c_se c_sz c_step f17) H locs) => ?_)
  have hf := hf f17 e18
  refine lv_iconst (v := (4 : Int32)) hx hb dX0_adaptPace_41 (by decide) ?_
  refine lv_aload_n hx hb dX0_adaptPace_42 rfl (lv_at hl 0 rfl) ?_
  refine pq_get C hh i0 0 0 rfl rfl 0 (by decide) kf11 rfl rfl dX0_adaptPace_43 ?_
  refine lv_iconst (v := (2 : Int32)) hx hb dX0_adaptPace_46 (by decide) ?_
  obtain ⟨h19, hf⟩ := pq_rdx hf
  refine pq_iald C hh 1 rfl h19 dX0_adaptPace_47 (fun v20 e21 => ?_)
  have hf := hf v20 e21
  refine lv_imul hx hb dX0_adaptPace_48 ?_
  refine lv_aload_n hx hb dX0_adaptPace_49 rfl (lv_at hl 0 rfl) ?_
  refine pq_get C hh i0 0 0 rfl rfl 0 (by decide) kf11 rfl rfl dX0_adaptPace_50 ?_
  refine lv_iconst (v := (3 : Int32)) hx hb dX0_adaptPace_53 (by decide) ?_
  obtain ⟨h22, hf⟩ := pq_rdx hf
  refine pq_iald C hh 1 rfl h22 dX0_adaptPace_54 (fun v23 e24 => ?_)
  have hf := hf v23 e24
  refine lv_isub hx hb dX0_adaptPace_55 ?_
  refine va_mabs hx hb (by rw [hml]; exact hl.1.symm) hown km54 ks54 kim kk54 (Nat.le_of_ble_eq_true rfl) (Nat.le_of_ble_eq_true rfl) (Nat.zero_le _) (Nat.zero_le _) dX0_adaptPace_56 ?_
  refine lv_topi (fun v25 e26 => ?_)
  have hf := pq_nmx hf v25 e26
  refine lv_istore_n (lv' := [(3, .int v25), (0, .ref th), (1, .int a1), (2, .int a2)]) hx hb dX0_adaptPace_59 rfl hl (by decide) rfl (fun ls hl => ?_)
  refine lv_iload_n hx hb dX0_adaptPace_60 rfl (lv_at hl 3 rfl) ?_
  refine lv_if_eq (tgt := 76) hx hb dX0_adaptPace_61 (by decide) (fun h27 => ?_) (fun h27 => ?_)
  · have hf := pq_brt hf h27
    refine lv_aload_n hx hb dX0_adaptPace_76 rfl (lv_at hl 1 rfl) ?_
    refine pq_get C hh i0 0 0 rfl rfl 4 (by decide) kf25 rfl rfl dX0_adaptPace_77 ?_
    refine lv_sipush (v := (1536 : Int32)) hx hb dX0_adaptPace_80 (by decide) ?_
    refine lv_icmp_lt (tgt := 108) hx hb dX0_adaptPace_83 (by decide) (fun h28 => ?_) (fun h28 => ?_)
    · have hf := pq_brt hf h28
      exact J108 f17 _ _ hh ls (lv_sub hl [1] rfl) hf
    · have hf := pq_brf hf h28
      refine lv_aload_n hx hb dX0_adaptPace_86 rfl (lv_at hl 1 rfl) ?_
      refine pq_get C hh i0 0 0 rfl rfl 0 (by decide) kf11 rfl rfl dX0_adaptPace_87 ?_
      refine lv_iconst (v := (5 : Int32)) hx hb dX0_adaptPace_90 (by decide) ?_
      obtain ⟨h29, hf⟩ := pq_rdx hf
      refine pq_iald C hh 1 rfl h29 dX0_adaptPace_91 (fun v30 e31 => ?_)
      have hf := hf v30 e31
      refine lv_iconst (v := (1 : Int32)) hx hb dX0_adaptPace_92 (by decide) ?_
      refine lv_icmp_eq (tgt := 108) hx hb dX0_adaptPace_93 (by decide) (fun h32 => ?_) (fun h32 => ?_)
      · have hf := pq_brt hf h32
        exact J108 f17 _ _ hh ls (lv_sub hl [1] rfl) hf
      · have hf := pq_brf hf h32
        refine lv_iload_n hx hb dX0_adaptPace_96 rfl (lv_at hl 0 rfl) ?_
        refine lv_aload_n hx hb dX0_adaptPace_97 rfl (lv_at hl 1 rfl) ?_
        refine pq_get C hh i0 0 0 rfl rfl 0 (by decide) kf11 rfl rfl dX0_adaptPace_98 ?_
        refine lv_iconst (v := (3 : Int32)) hx hb dX0_adaptPace_101 (by decide) ?_
        obtain ⟨h33, hf⟩ := pq_rdx hf
        refine pq_iald C hh 1 rfl h33 dX0_adaptPace_102 (fun v34 e35 => ?_)
        have hf := hf v34 e35
        refine lv_iconst (v := (3 : Int32)) hx hb dX0_adaptPace_103 (by decide) ?_
        refine lv_ishr hx hb dX0_adaptPace_104 ?_
        refine lv_icmp_lt (tgt := 132) hx hb dX0_adaptPace_105 (by decide) (fun h36 => ?_) (fun h36 => ?_)
        · have hf := pq_brt hf h36
          refine lv_aload_n hx hb dX0_adaptPace_132 rfl (lv_at hl 1 rfl) ?_
          refine pq_get C hh i0 0 0 rfl rfl 0 (by decide) kf11 rfl rfl dX0_adaptPace_133 ?_
          refine lv_iconst (v := (4 : Int32)) hx hb dX0_adaptPace_136 (by decide) ?_
          refine lv_dup2_11 hx hb dX0_adaptPace_137 rfl rfl ?_
          obtain ⟨h37, hf⟩ := pq_rdx hf
          refine pq_iald C hh 1 rfl h37 dX0_adaptPace_138 (fun v38 e39 => ?_)
          have hf := hf v38 e39
          refine lv_aload_n hx hb dX0_adaptPace_139 rfl (lv_at hl 1 rfl) ?_
          refine pq_get C hh i0 0 0 rfl rfl 0 (by decide) kf11 rfl rfl dX0_adaptPace_140 ?_
          refine lv_iconst (v := (4 : Int32)) hx hb dX0_adaptPace_143 (by decide) ?_
          obtain ⟨h40, hf⟩ := pq_rdx hf
          refine pq_iald C hh 1 rfl h40 dX0_adaptPace_144 (fun v41 e42 => ?_)
          have hf := hf v41 e42
          refine lv_ineg hx hb dX0_adaptPace_145 ?_
          refine lv_iconst (v := (4 : Int32)) hx hb dX0_adaptPace_146 (by decide) ?_
          refine lv_ishr hx hb dX0_adaptPace_147 ?_
          refine lv_iadd hx hb dX0_adaptPace_148 ?_
          obtain ⟨h43, hf⟩ := pq_wrx hf
          refine pq_iast C hh 1 rfl h43 dX0_adaptPace_149 (fun H locs f44 e45 (hh : pq_H D A s (wX0_adaptPace cI th th_numbers c_bits c_se c_sz c_step f44) H locs) => ?_)
          have hf := hf f44 e45
          obtain rfl := Option.some.inj hf
          exact hret _ _ _ ls hh dX0_adaptPace_150
        · have hf := pq_brf hf h36
          exact J108 f17 _ _ hh ls (lv_sub hl [1] rfl) hf
  · have hf := pq_brf hf h27
    refine lv_aload_n hx hb dX0_adaptPace_64 rfl (lv_at hl 1 rfl) ?_
    refine pq_get C hh i0 0 0 rfl rfl 0 (by decide) kf11 rfl rfl dX0_adaptPace_65 ?_
    refine lv_iconst (v := (4 : Int32)) hx hb dX0_adaptPace_68 (by decide) ?_
    refine lv_sipush (v := (256 : Int32)) hx hb dX0_adaptPace_69 (by decide) ?_
    obtain ⟨h46, hf⟩ := pq_wrx hf
    refine pq_iast C hh 1 rfl h46 dX0_adaptPace_72 (fun H locs f47 e48 (hh : pq_H D A s (wX0_adaptPace cI th th_numbers c_bits c_se c_sz c_step f47) H locs) => ?_)
    have hf := hf f47 e48
    refine lv_goto (tgt := 150) hx hb dX0_adaptPace_73 (by decide) ?_
    obtain rfl := Option.some.inj hf
    exact hret _ _ _ ls hh dX0_adaptPace_150
set_option maxHeartbeats 4000000 in
set_option maxRecDepth 100000 in
theorem qX0_settle (l : Launch) (D : va_G) (cI cL : ClassId) (th : Nat) (th_numbers : Nat) (c_bits : Int32) (c_se : Int32) (c_sz : Int32) (c_step : Int32) (f_numbers : Nat → Int32) (a1 : Int32) (res : Int32 × (Nat → Int32)) (hf : fX0_settle a1 c_bits c_se c_sz c_step f_numbers = some res) : pq_CI l yX0_settle qsX0_settle 2 46 D cI cL [.ref th, .int a1] (wX0_settle cI th th_numbers c_bits c_se c_sz c_step f_numbers) (wX0_settle cI th th_numbers c_bits c_se c_sz c_step res.2) res.1 := by
  refine pq_mkI (cc := cX0_settle) (maxL := 8) (RT := .int) (by decide) rfl (Nat.le_of_ble_eq_true rfl) ?_
  intro p e s m args below meth c Q A C hh hret ls hl
  have hx := C.1
  have hb := C.2.1
  have hml := C.2.2.1
  have hown : s.vm.findClass RX0 = some m.cls := C.2.2.2.1
  have hs : ∀ w ∈ wsL_law, w ∈ qsX0_settle := fun _ h => List.mem_cons_of_mem _ h
  have htw : ∀ w ∈ wsL_law, w.before args s = true := fun w h => C.2.2.2.2.1 w (hs w h)
  have hl : lv_has ls 8 [(0, .ref th), (1, .int a1)] := hl
  have i0 : ∀ w ∈ wsX00, w ∈ qsX0_settle := fun w h => hs w (pq_i0 w h)
  have kf109 := htw (.fieldLink RX0 109 "VoiceDesk$Adpcm" "PACE" "[I") (pq_m12 _ (List.mem_of_getElem? (i := 22) rfl))
  have kf11 := htw (.fieldLink RX0 11 "VoiceDesk$Adpcm" "numbers" "[I") (pq_m2 _ (List.mem_of_getElem? (i := 16) rfl))
  have kf15 := htw (.fieldLink RX0 15 "VoiceDesk$Adpcm" "bits" "I") (pq_m2 _ (List.mem_of_getElem? (i := 17) rfl))
  have kf19 := htw (.fieldLink RX0 19 "VoiceDesk$Adpcm" "se" "I") (pq_m2 _ (List.mem_of_getElem? (i := 18) rfl))
  have kf22 := htw (.fieldLink RX0 22 "VoiceDesk$Adpcm" "sz" "I") (pq_m2 _ (List.mem_of_getElem? (i := 19) rfl))
  have kf25 := htw (.fieldLink RX0 25 "VoiceDesk$Adpcm" "step" "I") (pq_m2 _ (List.mem_of_getElem? (i := 20) rfl))
  have kf68 := htw (.fieldLink RX0 68 "VoiceDesk$Adpcm" "TABLE" "[I") (pq_m12 _ (List.mem_of_getElem? (i := 20) rfl))
  have kf78 := htw (.fieldLink RX0 78 "VoiceDesk$Adpcm" "WEIGHT" "[I") (pq_m12 _ (List.mem_of_getElem? (i := 21) rfl))
  have kiRX6 := htw (.initialized RX6) (pq_m1 _ (List.mem_of_getElem? (i := 2) rfl))
  have kim := htw (.initialized "java/lang/Math") (pq_m10 _ (List.mem_of_getElem? (i := 17) rfl))
  have kk54 := htw (.code Lib.Math.abs.name Lib.Math.abs.code 1 (some .int)) (pq_m11 _ (List.mem_of_getElem? (i := 22) rfl))
  have km54 := htw (.methodLink RX0 54 Lib.Math.abs.name) (pq_m11 _ (List.mem_of_getElem? (i := 20) rfl))
  have ks102 := htw (.static yX6_sign) (pq_m10 _ (List.mem_of_getElem? (i := 19) rfl))
  have ks47 := htw (.static yX6_wrapped) (pq_m12 _ (List.mem_of_getElem? (i := 5) rfl))
  have ks54 := htw (.static Lib.Math.abs.name) (pq_m11 _ (List.mem_of_getElem? (i := 21) rfl))
  obtain ⟨t8, z8, T8⟩ := pq_tab C 8 rfl
  obtain ⟨t9, z9, T9⟩ := pq_tab C 9 rfl
  obtain ⟨t10, z10, T10⟩ := pq_tab C 10 rfl
  have J193 : ∀ (x2 : Int32) (x5 : Int32) (x7 : Int32) (s1 : Int32) (s2 : Int32) (f_numbers : Nat → Int32) (H : Heap) (locs : List Loc), pq_H D A s (wX0_settle cI th th_numbers c_bits c_se c_sz c_step f_numbers) H locs → ∀ ls : Array Slot, lv_has ls 8 [(0, .ref th), (2, .int x2), (5, .int x5), (7, .int x7)] → fX0_settle_b193  c_bits c_se c_sz c_step x2 x5 x7 s1 s2 f_numbers = some res → W p l e (pq_rm 2 46) s m args below meth c H locs 0 0 Q (F0 m 193 ls [.int s2, .int s1, .ref th_numbers]) := by
    intro x2 x5 x7 s1 s2 f_numbers H locs hh ls hl hf
    rw [fX0_settle_b193] at hf
    obtain ⟨h46, hf⟩ := pq_wrx hf
    refine pq_iast C hh 1 rfl h46 dX0_settle_193 (fun H locs f47 e48 (hh : pq_H D A s (wX0_settle cI th th_numbers c_bits c_se c_sz c_step f47) H locs) => ?_)
    have hf := hf f47 e48
    refine lv_aload_n hx hb dX0_settle_194 rfl (lv_at hl 0 rfl) ?_
    refine pq_gets C hh z10 kf109 dX0_settle_195 ?_
    refine lv_iload_n hx hb dX0_settle_198 rfl (lv_at hl 1 rfl) ?_
    obtain ⟨h49, hf⟩ := pq_rdx hf
    refine pq_ti C hh T10 h49 dX0_settle_199 (fun v50 e51 => ?_)
    have hf := hf v50 e51
    refine lv_iload hx hb dX0_settle_200 (lv_at hl 3 rfl) ?_
    obtain ⟨f52, hu53, hf⟩ := pq_clx hf
    refine pq_cvV (n := 2) (As := [.int v50, .int x7]) C hh (qX0_adaptPace l D cI cL th th_numbers c_bits c_se c_sz c_step f47 v50 x7 f52 hu53) (gvX0_adaptPace hs (pq_m14 _ (List.mem_of_getElem? (i := 17) rfl))) rfl (by decide +kernel) ⟨Nat.le_of_ble_eq_true rfl, Nat.le_of_ble_eq_true rfl⟩ 0 0 rfl rfl rfl hl.1 rfl rfl (Nat.le_of_ble_eq_true rfl) dX0_settle_202 ⟨Nat.zero_le _, Nat.zero_le _⟩ [0, 1] [] [0, 1] rfl rfl (by decide) (by decide) (by decide) rfl (fun H locs (hh : pq_H D A s (wX0_settle cI th th_numbers c_bits c_se c_sz c_step f52) H locs) => ?_)
    refine lv_iload hx hb dX0_settle_205 (lv_at hl 2 rfl) ?_
    obtain rfl := Option.some.inj hf
    exact hret _ _ _ ls hh dX0_settle_207 rfl
  have J192 : ∀ (x2 : Int32) (x5 : Int32) (x7 : Int32) (s1 : Int32) (f_numbers : Nat → Int32) (H : Heap) (locs : List Loc), pq_H D A s (wX0_settle cI th th_numbers c_bits c_se c_sz c_step f_numbers) H locs → ∀ ls : Array Slot, lv_has ls 8 [(0, .ref th), (2, .int x2), (5, .int x5), (7, .int x7)] → fX0_settle_b192  c_bits c_se c_sz c_step x2 x5 x7 s1 f_numbers = some res → W p l e (pq_rm 2 46) s m args below meth c H locs 0 0 Q (F0 m 192 ls [.int s1, .ref th_numbers]) := by
    intro x2 x5 x7 s1 f_numbers H locs hh ls hl hf
    rw [fX0_settle_b192] at hf
    refine lv_iconst (v := (0 : Int32)) hx hb dX0_settle_192 (by decide) ?_
    exact J193 x2 x5 x7 s1 (0 : Int32) f_numbers _ _ hh ls (lv_sub hl [0, 1, 2, 3] rfl) hf
  have J154 : ∀ (x2 : Int32) (x5 : Int32) (x6 : Int32) (x7 : Int32) (s1 : Int32) (s2 : Int32) (s3 : Int32) (f_numbers : Nat → Int32) (H : Heap) (locs : List Loc), pq_H D A s (wX0_settle cI th th_numbers c_bits c_se c_sz c_step f_numbers) H locs → ∀ ls : Array Slot, lv_has ls 8 [(0, .ref th), (2, .int x2), (5, .int x5), (6, .int x6), (7, .int x7)] → fX0_settle_b154  c_bits c_se c_sz c_step x2 x5 x6 x7 s1 s2 s3 f_numbers = some res → W p l e (pq_rm 2 46) s m args below meth c H locs 0 0 Q (F0 m 154 ls [.int s3, .int s2, .int s1, .ref th]) := by
    intro x2 x5 x6 x7 s1 s2 s3 f_numbers H locs hh ls hl hf
    rw [fX0_settle_b154] at hf
    obtain ⟨r35, hu36, hf⟩ := pq_clx hf
    refine pq_csI (n := 2) (As := [.int s2, .int s3]) C hh (qX0_floatOf l D cI cL s2 s3 r35 hu36) (gsX0_floatOf hs (pq_m14 _ (List.mem_of_getElem? (i := 9) rfl))) rfl (by decide +kernel) ⟨Nat.le_of_ble_eq_true rfl, Nat.le_of_ble_eq_true rfl⟩ hl.1 rfl rfl (Nat.le_of_ble_eq_true rfl) dX0_settle_154 ⟨Nat.zero_le _, Nat.zero_le _⟩ [] [0, 1] [0, 1] rfl rfl (by decide) (by decide) (by decide) rfl (fun H locs (hh : pq_H D A s (wX0_settle cI th th_numbers c_bits c_se c_sz c_step f_numbers) H locs) => ?_)
    refine lv_iload hx hb dX0_settle_157 (lv_at hl 3 rfl) ?_
    obtain ⟨r37, hu38, hf⟩ := pq_clx hf
    refine pq_cnI (n := 1) (As := [.int x6]) C hh (qX6_sign l D cI cL x6 r37 hu38) (gnX6_sign hs) rfl (List.mem_of_getElem? (i := 10) rfl) ks102 kiRX6 (by decide +kernel) ⟨Nat.le_of_ble_eq_true rfl, Nat.le_of_ble_eq_true rfl⟩ hl.1 rfl rfl (Nat.le_of_ble_eq_true rfl) dX0_settle_159 ⟨Nat.zero_le _, Nat.zero_le _⟩ [] [0, 1] [0, 1] rfl rfl (by decide) (by decide) (by decide) rfl (fun H locs (hh : pq_H D A s (wX0_settle cI th th_numbers c_bits c_se c_sz c_step f_numbers) H locs) => ?_)
    obtain ⟨f39, hu40, hf⟩ := pq_clx hf
    refine pq_cvV (n := 3) (As := [.int s1, .int r35, .int r37]) C hh (qX0_remember l D cI cL th th_numbers c_bits c_se c_sz c_step f_numbers s1 r35 r37 f39 hu40) (gvX0_remember hs (pq_m14 _ (List.mem_of_getElem? (i := 13) rfl))) rfl (by decide +kernel) ⟨Nat.le_of_ble_eq_true rfl, Nat.le_of_ble_eq_true rfl⟩ 0 0 rfl rfl rfl hl.1 rfl rfl (Nat.le_of_ble_eq_true rfl) dX0_settle_162 ⟨Nat.zero_le _, Nat.zero_le _⟩ [0, 1] [] [0, 1] rfl rfl (by decide) (by decide) (by decide) rfl (fun H locs (hh : pq_H D A s (wX0_settle cI th th_numbers c_bits c_se c_sz c_step f39) H locs) => ?_)
    refine lv_aload_n hx hb dX0_settle_165 rfl (lv_at hl 0 rfl) ?_
    refine pq_get C hh i0 0 0 rfl rfl 0 (by decide) kf11 rfl rfl dX0_settle_166 ?_
    refine lv_iconst (v := (5 : Int32)) hx hb dX0_settle_169 (by decide) ?_
    refine lv_iload hx hb dX0_settle_170 (lv_at hl 4 rfl) ?_
    refine lv_if_ne (tgt := 192) hx hb dX0_settle_172 (by decide) (fun h41 => ?_) (fun h41 => ?_)
    · have hf := pq_brf hf h41
      exact J192 x2 x5 x7 (5 : Int32) f39 _ _ hh ls (lv_sub hl [0, 1, 2, 4] rfl) hf
    · have hf := pq_brt hf h41
      refine lv_aload_n hx hb dX0_settle_175 rfl (lv_at hl 0 rfl) ?_
      refine pq_get C hh i0 0 0 rfl rfl 0 (by decide) kf11 rfl rfl dX0_settle_176 ?_
      refine lv_bipush (v := (7 : Int32)) hx hb dX0_settle_179 (by decide) ?_
      obtain ⟨h42, hf⟩ := pq_rdx hf
      refine pq_iald C hh 1 rfl h42 dX0_settle_181 (fun v43 e44 => ?_)
      have hf := hf v43 e44
      refine lv_sipush (v := (-11776 : Int32)) hx hb dX0_settle_182 (by decide) ?_
      refine lv_icmp_ge (tgt := 192) hx hb dX0_settle_185 (by decide) (fun h45 => ?_) (fun h45 => ?_)
      · have hf := pq_brt hf h45
        exact J192 x2 x5 x7 (5 : Int32) f39 _ _ hh ls (lv_sub hl [0, 1, 2, 4] rfl) hf
      · have hf := pq_brf hf h45
        refine lv_iconst (v := (1 : Int32)) hx hb dX0_settle_188 (by decide) ?_
        refine lv_goto (tgt := 193) hx hb dX0_settle_189 (by decide) ?_
        exact J193 x2 x5 x7 (5 : Int32) (1 : Int32) f39 _ _ hh ls (lv_sub hl [0, 1, 2, 4] rfl) hf
  have J132 : ∀ (x2 : Int32) (x3 : Int32) (x4 : Int32) (x5 : Int32) (x6 : Int32) (x7 : Int32) (f_numbers : Nat → Int32) (H : Heap) (locs : List Loc), pq_H D A s (wX0_settle cI th th_numbers c_bits c_se c_sz c_step f_numbers) H locs → ∀ ls : Array Slot, lv_has ls 8 [(0, .ref th), (2, .int x2), (3, .int x3), (4, .int x4), (5, .int x5), (6, .int x6), (7, .int x7)] → fX0_settle_b132  c_bits c_se c_sz c_step x2 x3 x4 x5 x6 x7 f_numbers = some res → W p l e (pq_rm 2 46) s m args below meth c H locs 0 0 Q (F0 m 132 ls []) := by
    intro x2 x3 x4 x5 x6 x7 f_numbers H locs hh ls hl hf
    rw [fX0_settle_b132] at hf
    refine lv_aload_n hx hb dX0_settle_132 rfl (lv_at hl 0 rfl) ?_
    refine lv_iload hx hb dX0_settle_133 (lv_at hl 3 rfl) ?_
    refine lv_iload_n hx hb dX0_settle_135 rfl (lv_at hl 2 rfl) ?_
    obtain ⟨r30, hu31, hf⟩ := pq_clx hf
    refine pq_csI (n := 2) (As := [.int x4, .int x3]) C hh (qX0_floatOf l D cI cL x4 x3 r30 hu31) (gsX0_floatOf hs (pq_m14 _ (List.mem_of_getElem? (i := 9) rfl))) rfl (by decide +kernel) ⟨Nat.le_of_ble_eq_true rfl, Nat.le_of_ble_eq_true rfl⟩ hl.1 rfl rfl (Nat.le_of_ble_eq_true rfl) dX0_settle_136 ⟨Nat.zero_le _, Nat.zero_le _⟩ [] [0, 1] [0, 1] rfl rfl (by decide) (by decide) (by decide) rfl (fun H locs (hh : pq_H D A s (wX0_settle cI th th_numbers c_bits c_se c_sz c_step f_numbers) H locs) => ?_)
    refine lv_iload hx hb dX0_settle_139 (lv_at hl 4 rfl) ?_
    refine va_mabs hx hb (by rw [hml]; exact hl.1.symm) hown km54 ks54 kim kk54 (Nat.le_of_ble_eq_true rfl) (Nat.le_of_ble_eq_true rfl) (Nat.zero_le _) (Nat.zero_le _) dX0_settle_141 ?_
    refine lv_topi (fun v32 e33 => ?_)
    have hf := pq_nmx hf v32 e33
    refine lv_iload hx hb dX0_settle_144 (lv_at hl 4 rfl) ?_
    refine lv_if_ge (tgt := 153) hx hb dX0_settle_146 (by decide) (fun h34 => ?_) (fun h34 => ?_)
    · have hf := pq_brt hf h34
      refine lv_iconst (v := (0 : Int32)) hx hb dX0_settle_153 (by decide) ?_
      exact J154 x2 x5 x6 x7 r30 v32 (0 : Int32) f_numbers _ _ hh ls (lv_sub hl [0, 1, 4, 5, 6] rfl) hf
    · have hf := pq_brf hf h34
      refine lv_iconst (v := (1 : Int32)) hx hb dX0_settle_149 (by decide) ?_
      refine lv_goto (tgt := 154) hx hb dX0_settle_150 (by decide) ?_
      exact J154 x2 x5 x6 x7 r30 v32 (1 : Int32) f_numbers _ _ hh ls (lv_sub hl [0, 1, 4, 5, 6] rfl) hf
  have J62 : ∀ (x2 : Int32) (x3 : Int32) (x4 : Int32) (s0 : Int32) (f_numbers : Nat → Int32) (H : Heap) (locs : List Loc), pq_H D A s (wX0_settle cI th th_numbers c_bits c_se c_sz c_step f_numbers) H locs → ∀ ls : Array Slot, lv_has ls 8 [(0, .ref th), (2, .int x2), (3, .int x3), (4, .int x4)] → fX0_settle_b62  c_bits c_se c_sz c_step x2 x3 x4 s0 f_numbers = some res → W p l e (pq_rm 2 46) s m args below meth c H locs 0 0 Q (F0 m 62 ls [.int s0]) := by
    intro x2 x3 x4 s0 f_numbers H locs hh ls hl hf
    rw [fX0_settle_b62] at hf
    obtain ⟨r10, hu11, hf⟩ := pq_clx hf
    refine pq_cnI (n := 1) (As := [.int s0]) C hh (qX6_wrapped l D cI cL s0 r10 hu11) (gnX6_wrapped hs) rfl (List.mem_of_getElem? (i := 8) rfl) ks47 kiRX6 (by decide +kernel) ⟨Nat.le_of_ble_eq_true rfl, Nat.le_of_ble_eq_true rfl⟩ hl.1 rfl rfl (Nat.le_of_ble_eq_true rfl) dX0_settle_62 ⟨Nat.zero_le _, Nat.zero_le _⟩ [] [0, 1] [0, 1] rfl rfl (by decide) (by decide) (by decide) rfl (fun H locs (hh : pq_H D A s (wX0_settle cI th th_numbers c_bits c_se c_sz c_step f_numbers) H locs) => ?_)
    refine lv_istore (lv' := [(5, .int r10), (0, .ref th), (2, .int x2), (3, .int x3), (4, .int x4)]) hx hb dX0_settle_65 hl (by decide) rfl (fun ls hl => ?_)
    refine lv_iload hx hb dX0_settle_67 (lv_at hl 0 rfl) ?_
    refine lv_aload_n hx hb dX0_settle_69 rfl (lv_at hl 1 rfl) ?_
    refine pq_get C hh i0 0 0 rfl rfl 3 (by decide) kf22 rfl rfl dX0_settle_70 ?_
    refine lv_iadd hx hb dX0_settle_73 ?_
    refine lv_aload_n hx hb dX0_settle_74 rfl (lv_at hl 1 rfl) ?_
    refine pq_get C hh i0 0 0 rfl rfl 2 (by decide) kf19 rfl rfl dX0_settle_75 ?_
    refine lv_isub hx hb dX0_settle_78 ?_
    obtain ⟨r12, hu13, hf⟩ := pq_clx hf
    refine pq_cnI (n := 1) (As := [.int ((r10 + c_sz) - c_se)]) C hh (qX6_wrapped l D cI cL ((r10 + c_sz) - c_se) r12 hu13) (gnX6_wrapped hs) rfl (List.mem_of_getElem? (i := 8) rfl) ks47 kiRX6 (by decide +kernel) ⟨Nat.le_of_ble_eq_true rfl, Nat.le_of_ble_eq_true rfl⟩ hl.1 rfl rfl (Nat.le_of_ble_eq_true rfl) dX0_settle_79 ⟨Nat.zero_le _, Nat.zero_le _⟩ [] [0, 1] [0, 1] rfl rfl (by decide) (by decide) (by decide) rfl (fun H locs (hh : pq_H D A s (wX0_settle cI th th_numbers c_bits c_se c_sz c_step f_numbers) H locs) => ?_)
    refine lv_istore (lv' := [(6, .int r12), (5, .int r10), (0, .ref th), (2, .int x2), (3, .int x3), (4, .int x4)]) hx hb dX0_settle_82 hl (by decide) rfl (fun ls hl => ?_)
    refine lv_aload_n hx hb dX0_settle_84 rfl (lv_at hl 2 rfl) ?_
    refine lv_iload hx hb dX0_settle_85 (lv_at hl 5 rfl) ?_
    obtain ⟨r14, hu15, hf⟩ := pq_clx hf
    refine pq_cvI (n := 1) (As := [.int x4]) C hh (qX0_isTransition l D cI cL th th_numbers c_bits c_se c_sz c_step f_numbers x4 r14 hu15) (gvX0_isTransition hs (pq_m13 _ (List.mem_of_getElem? (i := 6) rfl))) rfl (by decide +kernel) ⟨Nat.le_of_ble_eq_true rfl, Nat.le_of_ble_eq_true rfl⟩ 0 0 rfl rfl rfl hl.1 rfl rfl (Nat.le_of_ble_eq_true rfl) dX0_settle_87 ⟨Nat.zero_le _, Nat.zero_le _⟩ [0, 1] [] [0, 1] rfl rfl (by decide) (by decide) (by decide) rfl (fun H locs (hh : pq_H D A s (wX0_settle cI th th_numbers c_bits c_se c_sz c_step f_numbers) H locs) => ?_)
    refine lv_istore (lv' := [(7, .int r14), (6, .int r12), (5, .int r10), (0, .ref th), (2, .int x2), (3, .int x3), (4, .int x4)]) hx hb dX0_settle_90 hl (by decide) rfl (fun ls hl => ?_)
    refine lv_aload_n hx hb dX0_settle_92 rfl (lv_at hl 3 rfl) ?_
    refine pq_gets C hh z9 kf78 dX0_settle_93 ?_
    refine lv_iload_n hx hb dX0_settle_96 rfl (lv_at hl 4 rfl) ?_
    obtain ⟨h16, hf⟩ := pq_rdx hf
    refine pq_ti C hh T9 h16 dX0_settle_97 (fun v17 e18 => ?_)
    have hf := hf v17 e18
    obtain ⟨f19, hu20, hf⟩ := pq_clx hf
    refine pq_cvV (n := 1) (As := [.int v17]) C hh (qX0_adaptStep l D cI cL th th_numbers c_bits c_se c_sz c_step f_numbers v17 f19 hu20) (gvX0_adaptStep hs (pq_m13 _ (List.mem_of_getElem? (i := 10) rfl))) rfl (by decide +kernel) ⟨Nat.le_of_ble_eq_true rfl, Nat.le_of_ble_eq_true rfl⟩ 0 0 rfl rfl rfl hl.1 rfl rfl (Nat.le_of_ble_eq_true rfl) dX0_settle_98 ⟨Nat.zero_le _, Nat.zero_le _⟩ [0, 1] [] [0, 1] rfl rfl (by decide) (by decide) (by decide) rfl (fun H locs (hh : pq_H D A s (wX0_settle cI th th_numbers c_bits c_se c_sz c_step f19) H locs) => ?_)
    refine lv_iload hx hb dX0_settle_101 (lv_at hl 0 rfl) ?_
    refine lv_if_eq (tgt := 113) hx hb dX0_settle_103 (by decide) (fun h21 => ?_) (fun h21 => ?_)
    · have hf := pq_brt hf h21
      refine lv_aload_n hx hb dX0_settle_113 rfl (lv_at hl 3 rfl) ?_
      refine lv_iload hx hb dX0_settle_114 (lv_at hl 1 rfl) ?_
      obtain ⟨f22, hu23, hf⟩ := pq_clx hf
      refine pq_cvV (n := 1) (As := [.int r12]) C hh (qX0_adaptA2 l D cI cL th th_numbers c_bits c_se c_sz c_step f19 r12 f22 hu23) (gvX0_adaptA2 hs (pq_m13 _ (List.mem_of_getElem? (i := 18) rfl))) rfl (by decide +kernel) ⟨Nat.le_of_ble_eq_true rfl, Nat.le_of_ble_eq_true rfl⟩ 0 0 rfl rfl rfl hl.1 rfl rfl (Nat.le_of_ble_eq_true rfl) dX0_settle_116 ⟨Nat.zero_le _, Nat.zero_le _⟩ [0, 1] [] [0, 1] rfl rfl (by decide) (by decide) (by decide) rfl (fun H locs (hh : pq_H D A s (wX0_settle cI th th_numbers c_bits c_se c_sz c_step f22) H locs) => ?_)
      refine lv_aload_n hx hb dX0_settle_119 rfl (lv_at hl 3 rfl) ?_
      refine lv_iload hx hb dX0_settle_120 (lv_at hl 1 rfl) ?_
      obtain ⟨f24, hu25, hf⟩ := pq_clx hf
      refine pq_cvV (n := 1) (As := [.int r12]) C hh (qX0_adaptA1 l D cI cL th th_numbers c_bits c_se c_sz c_step f22 r12 f24 hu25) (gvX0_adaptA1 hs (pq_m14 _ (List.mem_of_getElem? (i := 1) rfl))) rfl (by decide +kernel) ⟨Nat.le_of_ble_eq_true rfl, Nat.le_of_ble_eq_true rfl⟩ 0 0 rfl rfl rfl hl.1 rfl rfl (Nat.le_of_ble_eq_true rfl) dX0_settle_122 ⟨Nat.zero_le _, Nat.zero_le _⟩ [0, 1] [] [0, 1] rfl rfl (by decide) (by decide) (by decide) rfl (fun H locs (hh : pq_H D A s (wX0_settle cI th th_numbers c_bits c_se c_sz c_step f24) H locs) => ?_)
      refine lv_aload_n hx hb dX0_settle_125 rfl (lv_at hl 3 rfl) ?_
      refine lv_iload hx hb dX0_settle_126 (lv_at hl 6 rfl) ?_
      refine lv_iload_n hx hb dX0_settle_128 rfl (lv_at hl 5 rfl) ?_
      obtain ⟨f26, hu27, hf⟩ := pq_clx hf
      refine pq_cvV (n := 2) (As := [.int x4, .int x3]) C hh (qX0_adaptZeros l D cI cL th th_numbers c_bits c_se c_sz c_step f24 x4 x3 f26 hu27) (gvX0_adaptZeros hs (pq_m14 _ (List.mem_of_getElem? (i := 5) rfl))) rfl (by decide +kernel) ⟨Nat.le_of_ble_eq_true rfl, Nat.le_of_ble_eq_true rfl⟩ 0 0 rfl rfl rfl hl.1 rfl rfl (Nat.le_of_ble_eq_true rfl) dX0_settle_129 ⟨Nat.zero_le _, Nat.zero_le _⟩ [0, 1] [] [0, 1] rfl rfl (by decide) (by decide) (by decide) rfl (fun H locs (hh : pq_H D A s (wX0_settle cI th th_numbers c_bits c_se c_sz c_step f26) H locs) => ?_)
      exact J132 x2 x3 x4 r10 r12 r14 f26 _ _ hh ls (lv_sub hl [3, 4, 5, 6, 2, 1, 0] rfl) hf
    · have hf := pq_brf hf h21
      refine lv_aload_n hx hb dX0_settle_106 rfl (lv_at hl 3 rfl) ?_
      obtain ⟨f28, hu29, hf⟩ := pq_clx hf
      refine pq_cvV (n := 0) (As := []) C hh (qX0_forgetFilters l D cI cL th th_numbers c_bits c_se c_sz c_step f19 f28 hu29) (gvX0_forgetFilters hs (pq_m13 _ (List.mem_of_getElem? (i := 14) rfl))) rfl (by decide +kernel) ⟨Nat.le_of_ble_eq_true rfl, Nat.le_of_ble_eq_true rfl⟩ 0 0 rfl rfl rfl hl.1 rfl rfl (Nat.le_of_ble_eq_true rfl) dX0_settle_107 ⟨Nat.zero_le _, Nat.zero_le _⟩ [0, 1] [] [0, 1] rfl rfl (by decide) (by decide) (by decide) rfl (fun H locs (hh : pq_H D A s (wX0_settle cI th th_numbers c_bits c_se c_sz c_step f28) H locs) => ?_)
      refine lv_goto (tgt := 132) hx hb dX0_settle_110 (by decide) ?_
      exact J132 x2 x3 x4 r10 r12 r14 f28 _ _ hh ls (lv_sub hl [3, 4, 5, 6, 2, 1, 0] rfl) hf
  have J23 : ∀ (x2 : Int32) (s0 : Int32) (f_numbers : Nat → Int32) (H : Heap) (locs : List Loc), pq_H D A s (wX0_settle cI th th_numbers c_bits c_se c_sz c_step f_numbers) H locs → ∀ ls : Array Slot, lv_has ls 8 [(0, .ref th), (2, .int x2)] → fX0_settle_b23  c_bits c_se c_sz c_step x2 s0 f_numbers = some res → W p l e (pq_rm 2 46) s m args below meth c H locs 0 0 Q (F0 m 23 ls [.int s0]) := by
    intro x2 s0 f_numbers H locs hh ls hl hf
    rw [fX0_settle_b23] at hf
    refine lv_istore_n (lv' := [(3, .int s0), (0, .ref th), (2, .int x2)]) hx hb dX0_settle_23 rfl hl (by decide) rfl (fun ls hl => ?_)
    refine pq_gets C hh z8 kf68 dX0_settle_24 ?_
    refine lv_iload_n hx hb dX0_settle_27 rfl (lv_at hl 2 rfl) ?_
    obtain ⟨h4, hf⟩ := pq_rdx hf
    refine pq_ti C hh T8 h4 dX0_settle_28 (fun v5 e6 => ?_)
    have hf := hf v5 e6
    refine lv_aload_n hx hb dX0_settle_29 rfl (lv_at hl 1 rfl) ?_
    refine pq_get C hh i0 0 0 rfl rfl 4 (by decide) kf25 rfl rfl dX0_settle_30 ?_
    refine lv_iconst (v := (2 : Int32)) hx hb dX0_settle_33 (by decide) ?_
    refine lv_ishr hx hb dX0_settle_34 ?_
    refine lv_iadd hx hb dX0_settle_35 ?_
    obtain ⟨r7, hu8, hf⟩ := pq_clx hf
    refine pq_csI (n := 1) (As := [.int (v5 + (c_step >>> ((2 : Int32) &&& 31)))]) C hh (qX0_amount l D cI cL (v5 + (c_step >>> ((2 : Int32) &&& 31))) r7 hu8) (gsX0_amount hs (pq_m13 _ (List.mem_of_getElem? (i := 3) rfl))) rfl (by decide +kernel) ⟨Nat.le_of_ble_eq_true rfl, Nat.le_of_ble_eq_true rfl⟩ hl.1 rfl rfl (Nat.le_of_ble_eq_true rfl) dX0_settle_36 ⟨Nat.zero_le _, Nat.zero_le _⟩ [] [0, 1] [0, 1] rfl rfl (by decide) (by decide) (by decide) rfl (fun H locs (hh : pq_H D A s (wX0_settle cI th th_numbers c_bits c_se c_sz c_step f_numbers) H locs) => ?_)
    refine lv_istore (lv' := [(4, .int r7), (3, .int s0), (0, .ref th), (2, .int x2)]) hx hb dX0_settle_39 hl (by decide) rfl (fun ls hl => ?_)
    refine lv_iload_n hx hb dX0_settle_41 rfl (lv_at hl 1 rfl) ?_
    refine lv_if_eq (tgt := 55) hx hb dX0_settle_42 (by decide) (fun h9 => ?_) (fun h9 => ?_)
    · have hf := pq_brt hf h9
      refine lv_aload_n hx hb dX0_settle_55 rfl (lv_at hl 2 rfl) ?_
      refine pq_get C hh i0 0 0 rfl rfl 2 (by decide) kf19 rfl rfl dX0_settle_56 ?_
      refine lv_iload hx hb dX0_settle_59 (lv_at hl 0 rfl) ?_
      refine lv_iadd hx hb dX0_settle_61 ?_
      exact J62 x2 s0 r7 (c_se + r7) f_numbers _ _ hh ls (lv_sub hl [2, 3, 1, 0] rfl) hf
    · have hf := pq_brf hf h9
      refine lv_aload_n hx hb dX0_settle_45 rfl (lv_at hl 2 rfl) ?_
      refine pq_get C hh i0 0 0 rfl rfl 2 (by decide) kf19 rfl rfl dX0_settle_46 ?_
      refine lv_iload hx hb dX0_settle_49 (lv_at hl 0 rfl) ?_
      refine lv_isub hx hb dX0_settle_51 ?_
      refine lv_goto (tgt := 62) hx hb dX0_settle_52 (by decide) ?_
      exact J62 x2 s0 r7 (c_se - r7) f_numbers _ _ hh ls (lv_sub hl [2, 3, 1, 0] rfl) hf
  rw [fX0_settle] at hf
  refine lv_aload_n hx hb dX0_settle_0 rfl (lv_at hl 0 rfl) ?_
  refine lv_iload_n hx hb dX0_settle_1 rfl (lv_at hl 1 rfl) ?_
  obtain ⟨r1, hu2, hf⟩ := pq_clx hf
  refine pq_cvI (n := 1) (As := [.int a1]) C hh (qX0_tablePlace l D cI cL th th_numbers c_bits c_se c_sz c_step a1 r1 hu2) (gvX0_tablePlace hs (pq_m12 _ (List.mem_of_getElem? (i := 23) rfl))) rfl (by decide +kernel) ⟨Nat.le_of_ble_eq_true rfl, Nat.le_of_ble_eq_true rfl⟩ 0 0 rfl rfl rfl hl.1 rfl rfl (Nat.le_of_ble_eq_true rfl) dX0_settle_2 ⟨Nat.zero_le _, Nat.zero_le _⟩ [0] [1] [1, 0] rfl rfl (by decide) (by decide) (by decide) rfl (fun H locs (hh : pq_H D A s (wX0_settle cI th th_numbers c_bits c_se c_sz c_step f_numbers) H locs) => ?_)
  refine lv_istore_n (lv' := [(2, .int r1), (0, .ref th), (1, .int a1)]) hx hb dX0_settle_5 rfl hl (by decide) rfl (fun ls hl => ?_)
  refine lv_iload_n hx hb dX0_settle_6 rfl (lv_at hl 2 rfl) ?_
  refine lv_iconst (v := (1 : Int32)) hx hb dX0_settle_7 (by decide) ?_
  refine lv_aload_n hx hb dX0_settle_8 rfl (lv_at hl 1 rfl) ?_
  refine pq_get C hh i0 0 0 rfl rfl 1 (by decide) kf15 rfl rfl dX0_settle_9 ?_
  refine lv_iconst (v := (1 : Int32)) hx hb dX0_settle_12 (by decide) ?_
  refine lv_isub hx hb dX0_settle_13 ?_
  refine lv_ishl hx hb dX0_settle_14 ?_
  refine lv_icmp_lt (tgt := 22) hx hb dX0_settle_15 (by decide) (fun h3 => ?_) (fun h3 => ?_)
  · have hf := pq_brt hf h3
    refine lv_iconst (v := (0 : Int32)) hx hb dX0_settle_22 (by decide) ?_
    exact J23 r1 (0 : Int32) f_numbers _ _ hh ls (lv_sub hl [1, 0] rfl) hf
  · have hf := pq_brf hf h3
    refine lv_iconst (v := (1 : Int32)) hx hb dX0_settle_18 (by decide) ?_
    refine lv_goto (tgt := 23) hx hb dX0_settle_19 (by decide) ?_
    exact J23 r1 (1 : Int32) f_numbers _ _ hh ls (lv_sub hl [1, 0] rfl) hf
set_option maxHeartbeats 4000000 in
set_option maxRecDepth 100000 in
theorem qX0_encode (l : Launch) (D : va_G) (cI cL : ClassId) (th : Nat) (th_numbers : Nat) (c_bits : Int32) (c_se : Int32) (c_sz : Int32) (c_step : Int32) (f_numbers : Nat → Int32) (a1 : Int32) (res : Int32 × Int32 × Int32 × Int32 × (Nat → Int32)) (hf : fX0_encode a1 c_bits c_se c_sz c_step f_numbers = some res) : pq_CI l yX0_encode qsX0_encode 3 73 D cI cL [.ref th, .int a1] (wX0_encode cI th th_numbers c_bits c_se c_sz c_step f_numbers) (wX0_encode cI th th_numbers c_bits res.2.1 res.2.2.1 res.2.2.2.1 res.2.2.2.2) res.1 := by
  refine pq_mkI (cc := cX0_encode) (maxL := 3) (RT := .int) (by decide) rfl (Nat.le_of_ble_eq_true rfl) ?_
  intro p e s m args below meth c Q A C hh hret ls hl
  have hx := C.1
  have hb := C.2.1
  have hml := C.2.2.1
  have hown : s.vm.findClass RX0 = some m.cls := C.2.2.2.1
  have hs : ∀ w ∈ wsL_law, w ∈ qsX0_encode := fun _ h => List.mem_cons_of_mem _ h
  have htw : ∀ w ∈ wsL_law, w.before args s = true := fun w h => C.2.2.2.2.1 w (hs w h)
  have hl : lv_has ls 3 [(0, .ref th), (1, .int a1)] := hl
  have i0 : ∀ w ∈ wsX00, w ∈ qsX0_encode := fun w h => hs w (pq_i0 w h)
  have kf19 := htw (.fieldLink RX0 19 "VoiceDesk$Adpcm" "se" "I") (pq_m2 _ (List.mem_of_getElem? (i := 18) rfl))
  rw [fX0_encode] at hf
  refine lv_aload_n hx hb dX0_encode_0 rfl (lv_at hl 0 rfl) ?_
  obtain ⟨⟨c1, c2, c3⟩, hu4, hf⟩ := pq_clx hf
  have hf := pq_nmx hf c1 rfl
  have hf := pq_nmx hf c2 rfl
  have hf := pq_nmx hf c3 rfl
  refine pq_cvV (n := 0) (As := []) C hh (qX0_foresee l D cI cL th th_numbers c_bits c_se c_sz c_step f_numbers (c1, c2, c3) hu4) (gvX0_foresee hs (pq_m11 _ (List.mem_of_getElem? (i := 13) rfl))) rfl (by decide +kernel) ⟨Nat.le_of_ble_eq_true rfl, Nat.le_of_ble_eq_true rfl⟩ 0 0 rfl rfl rfl hl.1 rfl rfl (Nat.le_of_ble_eq_true rfl) dX0_encode_1 ⟨Nat.zero_le _, Nat.zero_le _⟩ [0, 1] [] [0, 1] rfl rfl (by decide) (by decide) (by decide) rfl (fun H locs (hh : pq_H D A s (wX0_encode cI th th_numbers c_bits c1 c2 c3 f_numbers) H locs) => ?_)
  refine lv_aload_n hx hb dX0_encode_4 rfl (lv_at hl 0 rfl) ?_
  refine lv_iload_n hx hb dX0_encode_5 rfl (lv_at hl 1 rfl) ?_
  refine lv_iconst (v := (2 : Int32)) hx hb dX0_encode_6 (by decide) ?_
  refine lv_ishr hx hb dX0_encode_7 ?_
  refine lv_aload_n hx hb dX0_encode_8 rfl (lv_at hl 0 rfl) ?_
  refine pq_get C hh i0 0 0 rfl rfl 2 (by decide) kf19 rfl rfl dX0_encode_9 ?_
  refine lv_isub hx hb dX0_encode_12 ?_
  obtain ⟨r6, hu7, hf⟩ := pq_clx hf
  refine pq_cvI (n := 1) (As := [.int ((a1 >>> ((2 : Int32) &&& 31)) - c1)]) C hh (qX0_codeOf l D cI cL th th_numbers c_bits c1 c2 c3 ((a1 >>> ((2 : Int32) &&& 31)) - c1) r6 hu7) (gvX0_codeOf hs (pq_m12 _ (List.mem_of_getElem? (i := 11) rfl))) rfl (by decide +kernel) ⟨Nat.le_of_ble_eq_true rfl, Nat.le_of_ble_eq_true rfl⟩ 0 0 rfl rfl rfl hl.1 rfl rfl (Nat.le_of_ble_eq_true rfl) dX0_encode_13 ⟨Nat.zero_le _, Nat.zero_le _⟩ [0] [1] [1, 0] rfl rfl (by decide) (by decide) (by decide) rfl (fun H locs (hh : pq_H D A s (wX0_encode cI th th_numbers c_bits c1 c2 c3 f_numbers) H locs) => ?_)
  refine lv_istore_n (lv' := [(2, .int r6), (0, .ref th), (1, .int a1)]) hx hb dX0_encode_16 rfl hl (by decide) rfl (fun ls hl => ?_)
  refine lv_aload_n hx hb dX0_encode_17 rfl (lv_at hl 1 rfl) ?_
  refine lv_iload_n hx hb dX0_encode_18 rfl (lv_at hl 0 rfl) ?_
  obtain ⟨⟨r8, f9⟩, hu10, hf⟩ := pq_clx hf
  have hf := pq_nmx hf r8 rfl
  have hf := pq_nmx hf f9 rfl
  refine pq_cvI (n := 1) (As := [.int r6]) C hh (qX0_settle l D cI cL th th_numbers c_bits c1 c2 c3 f_numbers r6 (r8, f9) hu10) (gvX0_settle hs (pq_m12 _ (List.mem_of_getElem? (i := 16) rfl))) rfl (by decide +kernel) ⟨Nat.le_of_ble_eq_true rfl, Nat.le_of_ble_eq_true rfl⟩ 0 0 rfl rfl rfl hl.1 rfl rfl (Nat.le_of_ble_eq_true rfl) dX0_encode_19 ⟨Nat.zero_le _, Nat.zero_le _⟩ [0, 1] [] [0, 1] rfl rfl (by decide) (by decide) (by decide) rfl (fun H locs (hh : pq_H D A s (wX0_encode cI th th_numbers c_bits c1 c2 c3 f9) H locs) => ?_)
  refine lv_pop hx hb dX0_encode_22 rfl ?_
  refine lv_iload_n hx hb dX0_encode_23 rfl (lv_at hl 0 rfl) ?_
  obtain rfl := Option.some.inj hf
  exact hret _ _ _ ls hh dX0_encode_24 rfl
set_option maxHeartbeats 4000000 in
set_option maxRecDepth 100000 in
theorem qX6_limited (l : Launch) (D : va_G) (cI cL : ClassId) (a0 : Int32) (res : Int32) (hf : fX6_limited a0 = some res) : pq_CI l yX6_limited qsX6_limited 0 0 D cI cL [.int a0] [] [] res := by
  refine pq_mkI (cc := cX6_limited) (maxL := 1) (RT := .int) (by decide) rfl (Nat.le_of_ble_eq_true rfl) ?_
  intro p e s m args below meth c Q A C hh hret ls hl
  have hx := C.1
  have hb := C.2.1
  have hml := C.2.2.1
  have hown : s.vm.findClass RX6 = some m.cls := C.2.2.2.1
  have hs : ∀ w ∈ wsL_law, w ∈ qsX6_limited := fun _ h => List.mem_cons_of_mem _ h
  have htw : ∀ w ∈ wsL_law, w.before args s = true := fun w h => C.2.2.2.2.1 w (hs w h)
  have hl : lv_has ls 1 [(0, .int a0)] := hl
  rw [fX6_limited] at hf
  refine lv_iload_n hx hb dX6_limited_0 rfl (lv_at hl 0 rfl) ?_
  refine lv_sipush (v := (-32768 : Int32)) hx hb dX6_limited_1 (by decide) ?_
  refine lv_icmp_ge (tgt := 11) hx hb dX6_limited_4 (by decide) (fun h1 => ?_) (fun h1 => ?_)
  · have hf := pq_brt hf h1
    refine lv_iload_n hx hb dX6_limited_11 rfl (lv_at hl 0 rfl) ?_
    refine lv_sipush (v := (32767 : Int32)) hx hb dX6_limited_12 (by decide) ?_
    refine lv_icmp_le (tgt := 24) hx hb dX6_limited_15 (by decide) (fun h2 => ?_) (fun h2 => ?_)
    · have hf := pq_brt hf h2
      refine lv_iload_n hx hb dX6_limited_24 rfl (lv_at hl 0 rfl) ?_
      obtain rfl := Option.some.inj hf
      exact hret _ _ _ ls hh dX6_limited_25 rfl
    · have hf := pq_brf hf h2
      refine lv_sipush (v := (32767 : Int32)) hx hb dX6_limited_18 (by decide) ?_
      refine lv_goto (tgt := 25) hx hb dX6_limited_21 (by decide) ?_
      obtain rfl := Option.some.inj hf
      exact hret _ _ _ ls hh dX6_limited_25 rfl
  · have hf := pq_brf hf h1
    refine lv_sipush (v := (-32768 : Int32)) hx hb dX6_limited_7 (by decide) ?_
    obtain rfl := Option.some.inj hf
    exact hret _ _ _ ls hh dX6_limited_10 rfl
set_option maxHeartbeats 4000000 in
set_option maxRecDepth 100000 in
theorem qX0_decode (l : Launch) (D : va_G) (cI cL : ClassId) (th : Nat) (th_numbers : Nat) (c_bits : Int32) (c_se : Int32) (c_sz : Int32) (c_step : Int32) (f_numbers : Nat → Int32) (a1 : Int32) (res : Int32 × Int32 × Int32 × Int32 × (Nat → Int32)) (hf : fX0_decode a1 c_bits c_se c_sz c_step f_numbers = some res) : pq_CI l yX0_decode qsX0_decode 3 73 D cI cL [.ref th, .int a1] (wX0_decode cI th th_numbers c_bits c_se c_sz c_step f_numbers) (wX0_decode cI th th_numbers c_bits res.2.1 res.2.2.1 res.2.2.2.1 res.2.2.2.2) res.1 := by
  refine pq_mkI (cc := cX0_decode) (maxL := 2) (RT := .int) (by decide) rfl (Nat.le_of_ble_eq_true rfl) ?_
  intro p e s m args below meth c Q A C hh hret ls hl
  have hx := C.1
  have hb := C.2.1
  have hml := C.2.2.1
  have hown : s.vm.findClass RX0 = some m.cls := C.2.2.2.1
  have hs : ∀ w ∈ wsL_law, w ∈ qsX0_decode := fun _ h => List.mem_cons_of_mem _ h
  have htw : ∀ w ∈ wsL_law, w.before args s = true := fun w h => C.2.2.2.2.1 w (hs w h)
  have hl : lv_has ls 2 [(0, .ref th), (1, .int a1)] := hl
  have kiRX6 := htw (.initialized RX6) (pq_m1 _ (List.mem_of_getElem? (i := 2) rfl))
  have ks40 := htw (.static yX6_limited) (pq_m8 _ (List.mem_of_getElem? (i := 21) rfl))
  rw [fX0_decode] at hf
  refine lv_aload_n hx hb dX0_decode_0 rfl (lv_at hl 0 rfl) ?_
  obtain ⟨⟨c1, c2, c3⟩, hu4, hf⟩ := pq_clx hf
  have hf := pq_nmx hf c1 rfl
  have hf := pq_nmx hf c2 rfl
  have hf := pq_nmx hf c3 rfl
  refine pq_cvV (n := 0) (As := []) C hh (qX0_foresee l D cI cL th th_numbers c_bits c_se c_sz c_step f_numbers (c1, c2, c3) hu4) (gvX0_foresee hs (pq_m11 _ (List.mem_of_getElem? (i := 13) rfl))) rfl (by decide +kernel) ⟨Nat.le_of_ble_eq_true rfl, Nat.le_of_ble_eq_true rfl⟩ 0 0 rfl rfl rfl hl.1 rfl rfl (Nat.le_of_ble_eq_true rfl) dX0_decode_1 ⟨Nat.zero_le _, Nat.zero_le _⟩ [0, 1] [] [0, 1] rfl rfl (by decide) (by decide) (by decide) rfl (fun H locs (hh : pq_H D A s (wX0_decode cI th th_numbers c_bits c1 c2 c3 f_numbers) H locs) => ?_)
  refine lv_iconst (v := (4 : Int32)) hx hb dX0_decode_4 (by decide) ?_
  refine lv_aload_n hx hb dX0_decode_5 rfl (lv_at hl 0 rfl) ?_
  refine lv_iload_n hx hb dX0_decode_6 rfl (lv_at hl 1 rfl) ?_
  obtain ⟨⟨r6, f7⟩, hu8, hf⟩ := pq_clx hf
  have hf := pq_nmx hf r6 rfl
  have hf := pq_nmx hf f7 rfl
  refine pq_cvI (n := 1) (As := [.int a1]) C hh (qX0_settle l D cI cL th th_numbers c_bits c1 c2 c3 f_numbers a1 (r6, f7) hu8) (gvX0_settle hs (pq_m12 _ (List.mem_of_getElem? (i := 16) rfl))) rfl (by decide +kernel) ⟨Nat.le_of_ble_eq_true rfl, Nat.le_of_ble_eq_true rfl⟩ 0 0 rfl rfl rfl hl.1 rfl rfl (Nat.le_of_ble_eq_true rfl) dX0_decode_7 ⟨Nat.zero_le _, Nat.zero_le _⟩ [0, 1] [] [0, 1] rfl rfl (by decide) (by decide) (by decide) rfl (fun H locs (hh : pq_H D A s (wX0_decode cI th th_numbers c_bits c1 c2 c3 f7) H locs) => ?_)
  refine lv_imul hx hb dX0_decode_10 ?_
  obtain ⟨r10, hu11, hf⟩ := pq_clx hf
  refine pq_cnI (n := 1) (As := [.int ((4 : Int32) * r6)]) C hh (qX6_limited l D cI cL ((4 : Int32) * r6) r10 hu11) (gnX6_limited hs) rfl (List.mem_of_getElem? (i := 12) rfl) ks40 kiRX6 (by decide +kernel) ⟨Nat.le_of_ble_eq_true rfl, Nat.le_of_ble_eq_true rfl⟩ hl.1 rfl rfl (Nat.le_of_ble_eq_true rfl) dX0_decode_11 ⟨Nat.zero_le _, Nat.zero_le _⟩ [] [0, 1] [0, 1] rfl rfl (by decide) (by decide) (by decide) rfl (fun H locs (hh : pq_H D A s (wX0_decode cI th th_numbers c_bits c1 c2 c3 f7) H locs) => ?_)
  obtain rfl := Option.some.inj hf
  exact hret _ _ _ ls hh dX0_decode_14 rfl
