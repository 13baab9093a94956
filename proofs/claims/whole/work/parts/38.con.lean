set_option maxHeartbeats 4000000 in
set_option maxRecDepth 100000 in
theorem qX6_law (l : Launch) (D : va_G) (cI cL : ClassId) (th : Nat) (a1 : Int32) (a2 : Int32) (a3 : Int32) (res : Int32) (hf : fX6_law a1 a2 a3 = some res) : pq_CI l yX6_law qsX6_law 2 46 D cI cL [.ref th, .int a1, .int a2, .int a3] [] [] res := by
  refine pq_mkI (cc := cX6_law) (maxL := 4) (RT := .int) (by decide) rfl (Nat.le_of_ble_eq_true rfl) ?_
  intro p e s m args below meth c Q A C hh hret ls hl
  have hx := C.1
  have hb := C.2.1
  have hml := C.2.2.1
  have hown : s.vm.findClass RX6 = some m.cls := C.2.2.2.1
  have hs : ∀ w ∈ wsL_law, w ∈ qsX6_law := fun _ h => List.mem_cons_of_mem _ h
  have htw : ∀ w ∈ wsL_law, w.before args s = true := fun w h => C.2.2.2.2.1 w (hs w h)
  have hl : lv_has ls 4 [(0, .ref th), (1, .int a1), (2, .int a2), (3, .int a3)] := hl
  have kc34 := htw (.constant RX6 34 (-100000)) (pq_m7 _ (List.mem_of_getElem? (i := 3) rfl))
  have J9 : ∀ (x1 : Int32) (x2 : Int32) (x3 : Int32) (H : Heap) (locs : List Loc), pq_H D A s [] H locs → ∀ ls : Array Slot, lv_has ls 4 [(1, .int x1), (2, .int x2), (3, .int x3)] → fX6_law_b9   x1 x2 x3 = some res → W p l e (pq_rm 2 46) s m args below meth c H locs 0 0 Q (F0 m 9 ls []) := by
    intro x1 x2 x3 H locs hh ls hl hf
    rw [fX6_law_b9] at hf
    refine lv_iload_n hx hb dX6_law_9 rfl (lv_at hl 1 rfl) ?_
    refine lv_if_lt (tgt := 20) hx hb dX6_law_10 (by decide) (fun h3 => ?_) (fun h3 => ?_)
    · have hf := pq_brt hf h3
      refine lv_ldc (v := (-100000 : Int32)) hx hb hown kc34 dX6_law_20 ?_
      obtain rfl := Option.some.inj hf
      exact hret _ _ _ ls hh dX6_law_22 rfl
    · have hf := pq_brf hf h3
      refine lv_iload_n hx hb dX6_law_13 rfl (lv_at hl 1 rfl) ?_
      refine lv_sipush (v := (255 : Int32)) hx hb dX6_law_14 (by decide) ?_
      refine lv_icmp_le (tgt := 23) hx hb dX6_law_17 (by decide) (fun h4 => ?_) (fun h4 => ?_)
      · have hf := pq_brt hf h4
        refine lv_iload_n hx hb dX6_law_23 rfl (lv_at hl 2 rfl) ?_
        by_cases h5 : x3 = (0 : Int32)
        · have hf := pq_brt hf h5
          refine lv_tableIn (tgt := 52) hx hb dX6_law_24 (by rw [h5]; decide) (by rw [h5]; decide) (by rw [h5]; rfl) (by decide) ?_
          refine lv_iload_n hx hb dX6_law_52 rfl (lv_at hl 0 rfl) ?_
          refine lv_if_ne (tgt := 64) hx hb dX6_law_53 (by decide) (fun h6 => ?_) (fun h6 => ?_)
          · have hf := pq_brf hf h6
            refine lv_iload_n hx hb dX6_law_64 rfl (lv_at hl 1 rfl) ?_
            refine lv_iconst (v := (0 : Int32)) hx hb dX6_law_65 (by decide) ?_
            obtain ⟨r7, hu8, hf⟩ := pq_clx hf
            refine pq_csI (n := 2) (As := [.int x2, .int (0 : Int32)]) C hh (qX3_aEdge l D cI cL x2 (0 : Int32) r7 hu8) (gsX3_aEdge hs (pq_m31 _ (List.mem_of_getElem? (i := 3) rfl))) rfl (by decide +kernel) ⟨Nat.le_of_ble_eq_true rfl, Nat.le_of_ble_eq_true rfl⟩ hl.1 rfl rfl (Nat.le_of_ble_eq_true rfl) dX6_law_66 ⟨Nat.zero_le _, Nat.zero_le _⟩ [] [] [] rfl rfl (by decide) (by decide) (by decide) rfl (fun H locs (hh : pq_H D A s [] H locs) => ?_)
            obtain rfl := Option.some.inj hf
            exact hret _ _ _ ls hh dX6_law_69 rfl
          · have hf := pq_brt hf h6
            refine lv_iload_n hx hb dX6_law_56 rfl (lv_at hl 1 rfl) ?_
            refine lv_iconst (v := (0 : Int32)) hx hb dX6_law_57 (by decide) ?_
            obtain ⟨r9, hu10, hf⟩ := pq_clx hf
            refine pq_csI (n := 2) (As := [.int x2, .int (0 : Int32)]) C hh (qX3_muEdge l D cI cL x2 (0 : Int32) r9 hu10) (gsX3_muEdge hs (pq_m30 _ (List.mem_of_getElem? (i := 23) rfl))) rfl (by decide +kernel) ⟨Nat.le_of_ble_eq_true rfl, Nat.le_of_ble_eq_true rfl⟩ hl.1 rfl rfl (Nat.le_of_ble_eq_true rfl) dX6_law_58 ⟨Nat.zero_le _, Nat.zero_le _⟩ [] [] [] rfl rfl (by decide) (by decide) (by decide) rfl (fun H locs (hh : pq_H D A s [] H locs) => ?_)
            refine lv_goto (tgt := 69) hx hb dX6_law_61 (by decide) ?_
            obtain rfl := Option.some.inj hf
            exact hret _ _ _ ls hh dX6_law_69 rfl
        have hf := pq_brf hf h5
        by_cases h11 : x3 = (1 : Int32)
        · have hf := pq_brt hf h11
          refine lv_tableIn (tgt := 70) hx hb dX6_law_24 (by rw [h11]; decide) (by rw [h11]; decide) (by rw [h11]; rfl) (by decide) ?_
          refine lv_iload_n hx hb dX6_law_70 rfl (lv_at hl 0 rfl) ?_
          refine lv_if_ne (tgt := 82) hx hb dX6_law_71 (by decide) (fun h12 => ?_) (fun h12 => ?_)
          · have hf := pq_brf hf h12
            refine lv_iload_n hx hb dX6_law_82 rfl (lv_at hl 1 rfl) ?_
            refine lv_iconst (v := (1 : Int32)) hx hb dX6_law_83 (by decide) ?_
            obtain ⟨r13, hu14, hf⟩ := pq_clx hf
            refine pq_csI (n := 2) (As := [.int x2, .int (1 : Int32)]) C hh (qX3_aEdge l D cI cL x2 (1 : Int32) r13 hu14) (gsX3_aEdge hs (pq_m31 _ (List.mem_of_getElem? (i := 3) rfl))) rfl (by decide +kernel) ⟨Nat.le_of_ble_eq_true rfl, Nat.le_of_ble_eq_true rfl⟩ hl.1 rfl rfl (Nat.le_of_ble_eq_true rfl) dX6_law_84 ⟨Nat.zero_le _, Nat.zero_le _⟩ [] [] [] rfl rfl (by decide) (by decide) (by decide) rfl (fun H locs (hh : pq_H D A s [] H locs) => ?_)
            obtain rfl := Option.some.inj hf
            exact hret _ _ _ ls hh dX6_law_87 rfl
          · have hf := pq_brt hf h12
            refine lv_iload_n hx hb dX6_law_74 rfl (lv_at hl 1 rfl) ?_
            refine lv_iconst (v := (1 : Int32)) hx hb dX6_law_75 (by decide) ?_
            obtain ⟨r15, hu16, hf⟩ := pq_clx hf
            refine pq_csI (n := 2) (As := [.int x2, .int (1 : Int32)]) C hh (qX3_muEdge l D cI cL x2 (1 : Int32) r15 hu16) (gsX3_muEdge hs (pq_m30 _ (List.mem_of_getElem? (i := 23) rfl))) rfl (by decide +kernel) ⟨Nat.le_of_ble_eq_true rfl, Nat.le_of_ble_eq_true rfl⟩ hl.1 rfl rfl (Nat.le_of_ble_eq_true rfl) dX6_law_76 ⟨Nat.zero_le _, Nat.zero_le _⟩ [] [] [] rfl rfl (by decide) (by decide) (by decide) rfl (fun H locs (hh : pq_H D A s [] H locs) => ?_)
            refine lv_goto (tgt := 87) hx hb dX6_law_79 (by decide) ?_
            obtain rfl := Option.some.inj hf
            exact hret _ _ _ ls hh dX6_law_87 rfl
        have hf := pq_brf hf h11
        by_cases h17 : x3 = (2 : Int32)
        · have hf := pq_brt hf h17
          refine lv_tableIn (tgt := 88) hx hb dX6_law_24 (by rw [h17]; decide) (by rw [h17]; decide) (by rw [h17]; rfl) (by decide) ?_
          refine lv_iload_n hx hb dX6_law_88 rfl (lv_at hl 0 rfl) ?_
          refine lv_if_ne (tgt := 102) hx hb dX6_law_89 (by decide) (fun h18 => ?_) (fun h18 => ?_)
          · have hf := pq_brf hf h18
            refine lv_iload_n hx hb dX6_law_102 rfl (lv_at hl 1 rfl) ?_
            obtain ⟨r19, hu20, hf⟩ := pq_clx hf
            refine pq_csI (n := 1) (As := [.int x2]) C hh (qX3_aSample l D cI cL x2 r19 hu20) (gsX3_aSample hs (pq_m31 _ (List.mem_of_getElem? (i := 8) rfl))) rfl (by decide +kernel) ⟨Nat.le_of_ble_eq_true rfl, Nat.le_of_ble_eq_true rfl⟩ hl.1 rfl rfl (Nat.le_of_ble_eq_true rfl) dX6_law_103 ⟨Nat.zero_le _, Nat.zero_le _⟩ [] [] [] rfl rfl (by decide) (by decide) (by decide) rfl (fun H locs (hh : pq_H D A s [] H locs) => ?_)
            obtain ⟨r21, hu22, hf⟩ := pq_clx hf
            refine pq_csI (n := 1) (As := [.int r19]) C hh (qX3_aCode l D cI cL r19 r21 hu22) (gsX3_aCode hs (pq_m31 _ (List.mem_of_getElem? (i := 9) rfl))) rfl (by decide +kernel) ⟨Nat.le_of_ble_eq_true rfl, Nat.le_of_ble_eq_true rfl⟩ hl.1 rfl rfl (Nat.le_of_ble_eq_true rfl) dX6_law_106 ⟨Nat.zero_le _, Nat.zero_le _⟩ [] [] [] rfl rfl (by decide) (by decide) (by decide) rfl (fun H locs (hh : pq_H D A s [] H locs) => ?_)
            obtain rfl := Option.some.inj hf
            exact hret _ _ _ ls hh dX6_law_109 rfl
          · have hf := pq_brt hf h18
            refine lv_iload_n hx hb dX6_law_92 rfl (lv_at hl 1 rfl) ?_
            obtain ⟨r23, hu24, hf⟩ := pq_clx hf
            refine pq_csI (n := 1) (As := [.int x2]) C hh (qX3_muSample l D cI cL x2 r23 hu24) (gsX3_muSample hs (pq_m31 _ (List.mem_of_getElem? (i := 6) rfl))) rfl (by decide +kernel) ⟨Nat.le_of_ble_eq_true rfl, Nat.le_of_ble_eq_true rfl⟩ hl.1 rfl rfl (Nat.le_of_ble_eq_true rfl) dX6_law_93 ⟨Nat.zero_le _, Nat.zero_le _⟩ [] [] [] rfl rfl (by decide) (by decide) (by decide) rfl (fun H locs (hh : pq_H D A s [] H locs) => ?_)
            obtain ⟨r25, hu26, hf⟩ := pq_clx hf
            refine pq_csI (n := 1) (As := [.int r23]) C hh (qX3_muCode l D cI cL r23 r25 hu26) (gsX3_muCode hs (pq_m31 _ (List.mem_of_getElem? (i := 7) rfl))) rfl (by decide +kernel) ⟨Nat.le_of_ble_eq_true rfl, Nat.le_of_ble_eq_true rfl⟩ hl.1 rfl rfl (Nat.le_of_ble_eq_true rfl) dX6_law_96 ⟨Nat.zero_le _, Nat.zero_le _⟩ [] [] [] rfl rfl (by decide) (by decide) (by decide) rfl (fun H locs (hh : pq_H D A s [] H locs) => ?_)
            refine lv_goto (tgt := 109) hx hb dX6_law_99 (by decide) ?_
            obtain rfl := Option.some.inj hf
            exact hret _ _ _ ls hh dX6_law_109 rfl
        have hf := pq_brf hf h17
        refine lv_tableOut (tgt := 110) hx hb dX6_law_24 (pq_tsOut (hi := 2) (by decide) (by intro k hk; rcases (by omega : k = 0 ∨ k = 1 ∨ k = 2) with rfl | rfl | rfl <;> assumption)) (by decide) ?_
        refine lv_ldc (v := (-100000 : Int32)) hx hb hown kc34 dX6_law_110 ?_
        obtain rfl := Option.some.inj hf
        exact hret _ _ _ ls hh dX6_law_112 rfl
      · have hf := pq_brf hf h4
        refine lv_ldc (v := (-100000 : Int32)) hx hb hown kc34 dX6_law_20 ?_
        obtain rfl := Option.some.inj hf
        exact hret _ _ _ ls hh dX6_law_22 rfl
  rw [fX6_law] at hf
  refine lv_iload_n hx hb dX6_law_0 rfl (lv_at hl 1 rfl) ?_
  refine lv_if_eq (tgt := 9) hx hb dX6_law_1 (by decide) (fun h1 => ?_) (fun h1 => ?_)
  · have hf := pq_brt hf h1
    exact J9 a1 a2 a3 _ _ hh ls (lv_sub hl [1, 2, 3] rfl) hf
  · have hf := pq_brf hf h1
    refine lv_iload_n hx hb dX6_law_4 rfl (lv_at hl 1 rfl) ?_
    refine lv_iconst (v := (1 : Int32)) hx hb dX6_law_5 (by decide) ?_
    refine lv_icmp_ne (tgt := 20) hx hb dX6_law_6 (by decide) (fun h2 => ?_) (fun h2 => ?_)
    · have hf := pq_brf hf h2
      refine lv_ldc (v := (-100000 : Int32)) hx hb hown kc34 dX6_law_20 ?_
      obtain rfl := Option.some.inj hf
      exact hret _ _ _ ls hh dX6_law_22 rfl
    · have hf := pq_brt hf h2
      exact J9 a1 a2 a3 _ _ hh ls (lv_sub hl [1, 2, 3] rfl) hf
set_option maxHeartbeats 4000000 in
set_option maxRecDepth 100000 in
theorem qX7_isLine (l : Launch) (D : va_G) (cI cL : ClassId) (th : Nat) (a1 : Int32) (res : Int32) (hf : fX7_isLine a1 = some res) : pq_CI l yX7_isLine qsX7_isLine 0 0 D cI cL [.ref th, .int a1] [] [] res := by
  refine pq_mkI (cc := cX7_isLine) (maxL := 2) (RT := .boolean) (by decide) rfl (Nat.le_of_ble_eq_true rfl) ?_
  intro p e s m args below meth c Q A C hh hret ls hl
  have hx := C.1
  have hb := C.2.1
  have hml := C.2.2.1
  have hown : s.vm.findClass RX7 = some m.cls := C.2.2.2.1
  have hs : ∀ w ∈ wsL_law, w ∈ qsX7_isLine := fun _ h => List.mem_cons_of_mem _ h
  have htw : ∀ w ∈ wsL_law, w.before args s = true := fun w h => C.2.2.2.2.1 w (hs w h)
  have hl : lv_has ls 2 [(0, .ref th), (1, .int a1)] := hl
  rw [fX7_isLine] at hf
  refine lv_iload_n hx hb dX7_isLine_0 rfl (lv_at hl 1 rfl) ?_
  refine lv_if_lt (tgt := 13) hx hb dX7_isLine_1 (by decide) (fun h1 => ?_) (fun h1 => ?_)
  · have hf := pq_brt hf h1
    refine lv_iconst (v := (0 : Int32)) hx hb dX7_isLine_13 (by decide) ?_
    obtain rfl := Option.some.inj hf
    exact hret _ _ _ ls hh dX7_isLine_14 (pq_nb0 rfl)
  · have hf := pq_brf hf h1
    refine lv_iload_n hx hb dX7_isLine_4 rfl (lv_at hl 1 rfl) ?_
    refine lv_iconst (v := (4 : Int32)) hx hb dX7_isLine_5 (by decide) ?_
    refine lv_icmp_ge (tgt := 13) hx hb dX7_isLine_6 (by decide) (fun h2 => ?_) (fun h2 => ?_)
    · have hf := pq_brt hf h2
      refine lv_iconst (v := (0 : Int32)) hx hb dX7_isLine_13 (by decide) ?_
      obtain rfl := Option.some.inj hf
      exact hret _ _ _ ls hh dX7_isLine_14 (pq_nb0 rfl)
    · have hf := pq_brf hf h2
      refine lv_iconst (v := (1 : Int32)) hx hb dX7_isLine_9 (by decide) ?_
      refine lv_goto (tgt := 14) hx hb dX7_isLine_10 (by decide) ?_
      obtain rfl := Option.some.inj hf
      exact hret _ _ _ ls hh dX7_isLine_14 (pq_nb1 rfl)
set_option maxHeartbeats 4000000 in
set_option maxRecDepth 100000 in
theorem qX7_isOpen (l : Launch) (D : va_G) (cI cL : ClassId) (th : Nat) (ad : Nat → Nat) (c_told : Int32) (c_sumZ : Int32) (c_sumE : Int32) (c_stepY : Int32) (c_odd : Int32) (c_even : Int32) (c_taped : Int32) (c_outs : Int32) (c_isFound : Int32) (f_kinds : Nat → Int32) (a1 : Int32) (res : Int32) (hf : fX7_isOpen a1 f_kinds = some res) : pq_CI l yX7_isOpen qsX7_isOpen 1 21 D cI cL [.ref th, .int a1] (wX7_isOpen cI th ad c_told c_sumZ c_sumE c_stepY c_odd c_even c_taped c_outs c_isFound f_kinds) (wX7_isOpen cI th ad c_told c_sumZ c_sumE c_stepY c_odd c_even c_taped c_outs c_isFound f_kinds) res := by
  refine pq_mkI (cc := cX7_isOpen) (maxL := 2) (RT := .boolean) (by decide) rfl (Nat.le_of_ble_eq_true rfl) ?_
  intro p e s m args below meth c Q A C hh hret ls hl
  have hx := C.1
  have hb := C.2.1
  have hml := C.2.2.1
  have hown : s.vm.findClass RX7 = some m.cls := C.2.2.2.1
  have hs : ∀ w ∈ wsL_law, w ∈ qsX7_isOpen := fun _ h => List.mem_cons_of_mem _ h
  have htw : ∀ w ∈ wsL_law, w.before args s = true := fun w h => C.2.2.2.2.1 w (hs w h)
  have hl : lv_has ls 2 [(0, .ref th), (1, .int a1)] := hl
  have i7 : ∀ w ∈ wsX70, w ∈ qsX7_isOpen := fun w h => hs w (pq_i7 w h)
  have kc9 := htw (.constant RX7 9 (-100000)) (pq_m3 _ (List.mem_of_getElem? (i := 20) rfl))
  have kf10 := htw (.fieldLink RX7 10 "VoiceDeskModel" "kinds" "[I") (pq_m3 _ (List.mem_of_getElem? (i := 21) rfl))
  rw [fX7_isOpen] at hf
  refine lv_aload_n hx hb dX7_isOpen_0 rfl (lv_at hl 0 rfl) ?_
  refine lv_iload_n hx hb dX7_isOpen_1 rfl (lv_at hl 1 rfl) ?_
  obtain ⟨r1, hu2, hf⟩ := pq_clx hf
  refine pq_cvI (n := 1) (As := [.int a1]) C hh (qX7_isLine l D cI cL th a1 r1 hu2) (gvX7_isLine hs (pq_m6 _ (List.mem_of_getElem? (i := 19) rfl))) rfl (by decide +kernel) ⟨Nat.le_of_ble_eq_true rfl, Nat.le_of_ble_eq_true rfl⟩ 0 6 rfl rfl rfl hl.1 rfl rfl (Nat.le_of_ble_eq_true rfl) dX7_isOpen_2 ⟨Nat.zero_le _, Nat.zero_le _⟩ [] [0, 1] [0, 1] rfl rfl (by decide) (by decide) (by decide) rfl (fun H locs (hh : pq_H D A s (wX7_isOpen cI th ad c_told c_sumZ c_sumE c_stepY c_odd c_even c_taped c_outs c_isFound f_kinds) H locs) => ?_)
  refine lv_if_eq (tgt := 23) hx hb dX7_isOpen_5 (by decide) (fun h3 => ?_) (fun h3 => ?_)
  · have hf := pq_brt hf h3
    refine lv_iconst (v := (0 : Int32)) hx hb dX7_isOpen_23 (by decide) ?_
    obtain rfl := Option.some.inj hf
    exact hret _ _ _ ls hh dX7_isOpen_24 (pq_nb0 rfl)
  · have hf := pq_brf hf h3
    refine lv_aload_n hx hb dX7_isOpen_8 rfl (lv_at hl 0 rfl) ?_
    refine pq_get C hh i7 0 6 rfl rfl 1 (by decide) kf10 rfl rfl dX7_isOpen_9 ?_
    refine lv_iload_n hx hb dX7_isOpen_12 rfl (lv_at hl 1 rfl) ?_
    obtain ⟨h4, hf⟩ := pq_rdx hf
    refine pq_iald C hh 1 rfl h4 dX7_isOpen_13 (fun v5 e6 => ?_)
    have hf := hf v5 e6
    refine lv_ldc (v := (-100000 : Int32)) hx hb hown kc9 dX7_isOpen_14 ?_
    refine lv_icmp_eq (tgt := 23) hx hb dX7_isOpen_16 (by decide) (fun h7 => ?_) (fun h7 => ?_)
    · have hf := pq_brt hf h7
      refine lv_iconst (v := (0 : Int32)) hx hb dX7_isOpen_23 (by decide) ?_
      obtain rfl := Option.some.inj hf
      exact hret _ _ _ ls hh dX7_isOpen_24 (pq_nb0 rfl)
    · have hf := pq_brf hf h7
      refine lv_iconst (v := (1 : Int32)) hx hb dX7_isOpen_19 (by decide) ?_
      refine lv_goto (tgt := 24) hx hb dX7_isOpen_20 (by decide) ?_
      obtain rfl := Option.some.inj hf
      exact hret _ _ _ ls hh dX7_isOpen_24 (pq_nb1 rfl)
set_option maxHeartbeats 4000000 in
set_option maxRecDepth 100000 in
theorem qX7_isPaired (l : Launch) (D : va_G) (cI cL : ClassId) (th : Nat) (ad : Nat → Nat) (c_told : Int32) (c_sumZ : Int32) (c_sumE : Int32) (c_stepY : Int32) (c_odd : Int32) (c_even : Int32) (c_taped : Int32) (c_outs : Int32) (c_isFound : Int32) (f_kinds : Nat → Int32) (a1 : Int32) (res : Int32) (hf : fX7_isPaired a1 f_kinds = some res) : pq_CI l yX7_isPaired qsX7_isPaired 0 0 D cI cL [.ref th, .int a1] (wX7_isPaired cI th ad c_told c_sumZ c_sumE c_stepY c_odd c_even c_taped c_outs c_isFound f_kinds) (wX7_isPaired cI th ad c_told c_sumZ c_sumE c_stepY c_odd c_even c_taped c_outs c_isFound f_kinds) res := by
  refine pq_mkI (cc := cX7_isPaired) (maxL := 2) (RT := .boolean) (by decide) rfl (Nat.le_of_ble_eq_true rfl) ?_
  intro p e s m args below meth c Q A C hh hret ls hl
  have hx := C.1
  have hb := C.2.1
  have hml := C.2.2.1
  have hown : s.vm.findClass RX7 = some m.cls := C.2.2.2.1
  have hs : ∀ w ∈ wsL_law, w ∈ qsX7_isPaired := fun _ h => List.mem_cons_of_mem _ h
  have htw : ∀ w ∈ wsL_law, w.before args s = true := fun w h => C.2.2.2.2.1 w (hs w h)
  have hl : lv_has ls 2 [(0, .ref th), (1, .int a1)] := hl
  have i7 : ∀ w ∈ wsX70, w ∈ qsX7_isPaired := fun w h => hs w (pq_i7 w h)
  have kf10 := htw (.fieldLink RX7 10 "VoiceDeskModel" "kinds" "[I") (pq_m3 _ (List.mem_of_getElem? (i := 21) rfl))
  rw [fX7_isPaired] at hf
  refine lv_aload_n hx hb dX7_isPaired_0 rfl (lv_at hl 0 rfl) ?_
  refine pq_get C hh i7 0 6 rfl rfl 1 (by decide) kf10 rfl rfl dX7_isPaired_1 ?_
  refine lv_iload_n hx hb dX7_isPaired_4 rfl (lv_at hl 1 rfl) ?_
  obtain ⟨h1, hf⟩ := pq_rdx hf
  refine pq_iald C hh 1 rfl h1 dX7_isPaired_5 (fun v2 e3 => ?_)
  have hf := hf v2 e3
  refine lv_bipush (v := (6 : Int32)) hx hb dX7_isPaired_6 (by decide) ?_
  refine lv_icmp_lt (tgt := 15) hx hb dX7_isPaired_8 (by decide) (fun h4 => ?_) (fun h4 => ?_)
  · have hf := pq_brt hf h4
    refine lv_iconst (v := (0 : Int32)) hx hb dX7_isPaired_15 (by decide) ?_
    obtain rfl := Option.some.inj hf
    exact hret _ _ _ ls hh dX7_isPaired_16 (pq_nb0 rfl)
  · have hf := pq_brf hf h4
    refine lv_iconst (v := (1 : Int32)) hx hb dX7_isPaired_11 (by decide) ?_
    refine lv_goto (tgt := 16) hx hb dX7_isPaired_12 (by decide) ?_
    obtain rfl := Option.some.inj hf
    exact hret _ _ _ ls hh dX7_isPaired_16 (pq_nb1 rfl)
set_option maxHeartbeats 4000000 in
set_option maxRecDepth 100000 in
theorem qX7_limited (l : Launch) (D : va_G) (cI cL : ClassId) (th : Nat) (a1 : Int32) (res : Int32) (hf : fX7_limited a1 = some res) : pq_CI l yX7_limited qsX7_limited 0 0 D cI cL [.ref th, .int a1] [] [] res := by
  refine pq_mkI (cc := cX7_limited) (maxL := 2) (RT := .int) (by decide) rfl (Nat.le_of_ble_eq_true rfl) ?_
  intro p e s m args below meth c Q A C hh hret ls hl
  have hx := C.1
  have hb := C.2.1
  have hml := C.2.2.1
  have hown : s.vm.findClass RX7 = some m.cls := C.2.2.2.1
  have hs : ∀ w ∈ wsL_law, w ∈ qsX7_limited := fun _ h => List.mem_cons_of_mem _ h
  have htw : ∀ w ∈ wsL_law, w.before args s = true := fun w h => C.2.2.2.2.1 w (hs w h)
  have hl : lv_has ls 2 [(0, .ref th), (1, .int a1)] := hl
  rw [fX7_limited] at hf
  refine lv_iload_n hx hb dX7_limited_0 rfl (lv_at hl 1 rfl) ?_
  refine lv_sipush (v := (32767 : Int32)) hx hb dX7_limited_1 (by decide) ?_
  refine lv_icmp_le (tgt := 11) hx hb dX7_limited_4 (by decide) (fun h1 => ?_) (fun h1 => ?_)
  · have hf := pq_brt hf h1
    refine lv_iload_n hx hb dX7_limited_11 rfl (lv_at hl 1 rfl) ?_
    refine lv_sipush (v := (-32768 : Int32)) hx hb dX7_limited_12 (by decide) ?_
    refine lv_icmp_ge (tgt := 24) hx hb dX7_limited_15 (by decide) (fun h2 => ?_) (fun h2 => ?_)
    · have hf := pq_brt hf h2
      refine lv_iload_n hx hb dX7_limited_24 rfl (lv_at hl 1 rfl) ?_
      obtain rfl := Option.some.inj hf
      exact hret _ _ _ ls hh dX7_limited_25 rfl
    · have hf := pq_brf hf h2
      refine lv_sipush (v := (-32768 : Int32)) hx hb dX7_limited_18 (by decide) ?_
      refine lv_goto (tgt := 25) hx hb dX7_limited_21 (by decide) ?_
      obtain rfl := Option.some.inj hf
      exact hret _ _ _ ls hh dX7_limited_25 rfl
  · have hf := pq_brf hf h1
    refine lv_sipush (v := (32767 : Int32)) hx hb dX7_limited_7 (by decide) ?_
    obtain rfl := Option.some.inj hf
    exact hret _ _ _ ls hh dX7_limited_10 rfl
set_option maxHeartbeats 4000000 in
set_option maxRecDepth 100000 in
theorem qX7_wrapped (l : Launch) (D : va_G) (cI cL : ClassId) (th : Nat) (a1 : Int32) (res : Int32) (hf : fX7_wrapped a1 = some res) : pq_CI l yX7_wrapped qsX7_wrapped 0 0 D cI cL [.ref th, .int a1] [] [] res := by
  refine pq_mkI (cc := cX7_wrapped) (maxL := 2) (RT := .int) (by decide) rfl (Nat.le_of_ble_eq_true rfl) ?_
  intro p e s m args below meth c Q A C hh hret ls hl
  have hx := C.1
  have hb := C.2.1
  have hml := C.2.2.1
  have hown : s.vm.findClass RX7 = some m.cls := C.2.2.2.1
  have hs : ∀ w ∈ wsL_law, w ∈ qsX7_wrapped := fun _ h => List.mem_cons_of_mem _ h
  have htw : ∀ w ∈ wsL_law, w.before args s = true := fun w h => C.2.2.2.2.1 w (hs w h)
  have hl : lv_has ls 2 [(0, .ref th), (1, .int a1)] := hl
  rw [fX7_wrapped] at hf
  refine lv_iload_n hx hb dX7_wrapped_0 rfl (lv_at hl 1 rfl) ?_
  refine lv_bipush (v := (16 : Int32)) hx hb dX7_wrapped_1 (by decide) ?_
  refine lv_ishl hx hb dX7_wrapped_3 ?_
  refine lv_bipush (v := (16 : Int32)) hx hb dX7_wrapped_4 (by decide) ?_
  refine lv_ishr hx hb dX7_wrapped_6 ?_
  obtain rfl := Option.some.inj hf
  exact hret _ _ _ ls hh dX7_wrapped_7 rfl
set_option maxHeartbeats 4000000 in
set_option maxRecDepth 100000 in
theorem qX7_cut (l : Launch) (D : va_G) (cI cL : ClassId) (th : Nat) (a1 : Int32) (a2 : Int32) (a3 : Int32) (res : Int32) (hf : fX7_cut a1 a2 a3 = some res) : pq_CI l yX7_cut qsX7_cut 0 0 D cI cL [.ref th, .int a1, .int a2, .int a3] [] [] res := by
  refine pq_mkI (cc := cX7_cut) (maxL := 4) (RT := .int) (by decide) rfl (Nat.le_of_ble_eq_true rfl) ?_
  intro p e s m args below meth c Q A C hh hret ls hl
  have hx := C.1
  have hb := C.2.1
  have hml := C.2.2.1
  have hown : s.vm.findClass RX7 = some m.cls := C.2.2.2.1
  have hs : ∀ w ∈ wsL_law, w ∈ qsX7_cut := fun _ h => List.mem_cons_of_mem _ h
  have htw : ∀ w ∈ wsL_law, w.before args s = true := fun w h => C.2.2.2.2.1 w (hs w h)
  have hl : lv_has ls 4 [(0, .ref th), (1, .int a1), (2, .int a2), (3, .int a3)] := hl
  rw [fX7_cut] at hf
  refine lv_iload_n hx hb dX7_cut_0 rfl (lv_at hl 1 rfl) ?_
  refine lv_iload_n hx hb dX7_cut_1 rfl (lv_at hl 3 rfl) ?_
  refine lv_icmp_le (tgt := 7) hx hb dX7_cut_2 (by decide) (fun h1 => ?_) (fun h1 => ?_)
  · have hf := pq_brt hf h1
    refine lv_iload_n hx hb dX7_cut_7 rfl (lv_at hl 1 rfl) ?_
    refine lv_iload_n hx hb dX7_cut_8 rfl (lv_at hl 2 rfl) ?_
    refine lv_icmp_ge (tgt := 16) hx hb dX7_cut_9 (by decide) (fun h2 => ?_) (fun h2 => ?_)
    · have hf := pq_brt hf h2
      refine lv_iload_n hx hb dX7_cut_16 rfl (lv_at hl 1 rfl) ?_
      obtain rfl := Option.some.inj hf
      exact hret _ _ _ ls hh dX7_cut_17 rfl
    · have hf := pq_brf hf h2
      refine lv_iload_n hx hb dX7_cut_12 rfl (lv_at hl 2 rfl) ?_
      refine lv_goto (tgt := 17) hx hb dX7_cut_13 (by decide) ?_
      obtain rfl := Option.some.inj hf
      exact hret _ _ _ ls hh dX7_cut_17 rfl
  · have hf := pq_brf hf h1
    refine lv_iload_n hx hb dX7_cut_5 rfl (lv_at hl 3 rfl) ?_
    obtain rfl := Option.some.inj hf
    exact hret _ _ _ ls hh dX7_cut_6 rfl
set_option maxHeartbeats 4000000 in
set_option maxRecDepth 100000 in
theorem qX7_amount (l : Launch) (D : va_G) (cI cL : ClassId) (th : Nat) (a1 : Int32) (res : Int32) (hf : fX7_amount a1 = some res) : pq_CI l yX7_amount qsX7_amount 0 0 D cI cL [.ref th, .int a1] [] [] res := by
  refine pq_mkI (cc := cX7_amount) (maxL := 2) (RT := .int) (by decide) rfl (Nat.le_of_ble_eq_true rfl) ?_
  intro p e s m args below meth c Q A C hh hret ls hl
  have hx := C.1
  have hb := C.2.1
  have hml := C.2.2.1
  have hown : s.vm.findClass RX7 = some m.cls := C.2.2.2.1
  have hs : ∀ w ∈ wsL_law, w ∈ qsX7_amount := fun _ h => List.mem_cons_of_mem _ h
  have htw : ∀ w ∈ wsL_law, w.before args s = true := fun w h => C.2.2.2.2.1 w (hs w h)
  have hl : lv_has ls 2 [(0, .ref th), (1, .int a1)] := hl
  rw [fX7_amount] at hf
  refine lv_iload_n hx hb dX7_amount_0 rfl (lv_at hl 1 rfl) ?_
  refine lv_if_ge (tgt := 9) hx hb dX7_amount_1 (by decide) (fun h1 => ?_) (fun h1 => ?_)
  · have hf := pq_brt hf h1
    refine lv_iload_n hx hb dX7_amount_9 rfl (lv_at hl 1 rfl) ?_
    obtain rfl := Option.some.inj hf
    exact hret _ _ _ ls hh dX7_amount_10 rfl
  · have hf := pq_brf hf h1
    refine lv_iload_n hx hb dX7_amount_4 rfl (lv_at hl 1 rfl) ?_
    refine lv_ineg hx hb dX7_amount_5 ?_
    refine lv_goto (tgt := 10) hx hb dX7_amount_6 (by decide) ?_
    obtain rfl := Option.some.inj hf
    exact hret _ _ _ ls hh dX7_amount_10 rfl
set_option maxHeartbeats 4000000 in
set_option maxRecDepth 100000 in
theorem qX7_sign (l : Launch) (D : va_G) (cI cL : ClassId) (th : Nat) (a1 : Int32) (res : Int32) (hf : fX7_sign a1 = some res) : pq_CI l yX7_sign qsX7_sign 0 0 D cI cL [.ref th, .int a1] [] [] res := by
  refine pq_mkI (cc := cX7_sign) (maxL := 2) (RT := .int) (by decide) rfl (Nat.le_of_ble_eq_true rfl) ?_
  intro p e s m args below meth c Q A C hh hret ls hl
  have hx := C.1
  have hb := C.2.1
  have hml := C.2.2.1
  have hown : s.vm.findClass RX7 = some m.cls := C.2.2.2.1
  have hs : ∀ w ∈ wsL_law, w ∈ qsX7_sign := fun _ h => List.mem_cons_of_mem _ h
  have htw : ∀ w ∈ wsL_law, w.before args s = true := fun w h => C.2.2.2.2.1 w (hs w h)
  have hl : lv_has ls 2 [(0, .ref th), (1, .int a1)] := hl
  rw [fX7_sign] at hf
  refine lv_iload_n hx hb dX7_sign_0 rfl (lv_at hl 1 rfl) ?_
  refine lv_if_ge (tgt := 8) hx hb dX7_sign_1 (by decide) (fun h1 => ?_) (fun h1 => ?_)
  · have hf := pq_brt hf h1
    refine lv_iconst (v := (0 : Int32)) hx hb dX7_sign_8 (by decide) ?_
    obtain rfl := Option.some.inj hf
    exact hret _ _ _ ls hh dX7_sign_9 rfl
  · have hf := pq_brf hf h1
    refine lv_iconst (v := (1 : Int32)) hx hb dX7_sign_4 (by decide) ?_
    refine lv_goto (tgt := 9) hx hb dX7_sign_5 (by decide) ?_
    obtain rfl := Option.some.inj hf
    exact hret _ _ _ ls hh dX7_sign_9 rfl
set_option maxHeartbeats 4000000 in
set_option maxRecDepth 100000 in
theorem qX7_size (l : Launch) (D : va_G) (cI cL : ClassId) (th : Nat) (a1 : Int32) (res : Int32) (hf : fX7_size a1 = some res) : pq_CI l yX7_size qsX7_size 0 0 D cI cL [.ref th, .int a1] [] [] res := by
  refine pq_mkI (cc := cX7_size) (maxL := 3) (RT := .int) (by decide) rfl (Nat.le_of_ble_eq_true rfl) ?_
  intro p e s m args below meth c Q A C hh hret ls hl
  have hx := C.1
  have hb := C.2.1
  have hml := C.2.2.1
  have hown : s.vm.findClass RX7 = some m.cls := C.2.2.2.1
  have hs : ∀ w ∈ wsL_law, w ∈ qsX7_size := fun _ h => List.mem_cons_of_mem _ h
  have htw : ∀ w ∈ wsL_law, w.before args s = true := fun w h => C.2.2.2.2.1 w (hs w h)
  have hl : lv_has ls 3 [(0, .ref th), (1, .int a1)] := hl
  have J2 : ∀ (fuel2 : Nat) (x1 : Int32) (x2 : Int32) (H : Heap) (locs : List Loc), pq_H D A s [] H locs → ∀ ls : Array Slot, lv_has ls 3 [(1, .int x1), (2, .int x2)] → fX7_size_b2   fuel2 x1 x2 = some res → W p l e (pq_rm 0 0) s m args below meth c H locs 0 0 Q (F0 m 2 ls []) := by
    intro fuel2
    induction fuel2 with
    | zero => intro x1 x2 H locs hh ls hl hf; rw [fX7_size_b2] at hf; cases hf
    | succ fuel2 ih2 =>
      intro x1 x2 H locs hh ls hl hf
      rw [fX7_size_b2] at hf
      refine lv_iload_n hx hb dX7_size_2 rfl (lv_at hl 1 rfl) ?_
      refine lv_bipush (v := (15 : Int32)) hx hb dX7_size_3 (by decide) ?_
      refine lv_icmp_ge (tgt := 22) hx hb dX7_size_5 (by decide) (fun h1 => ?_) (fun h1 => ?_)
      · have hf := pq_brt hf h1
        refine lv_iload_n hx hb dX7_size_22 rfl (lv_at hl 1 rfl) ?_
        obtain rfl := Option.some.inj hf
        exact hret _ _ _ ls hh dX7_size_23 rfl
      · have hf := pq_brf hf h1
        refine lv_iload_n hx hb dX7_size_8 rfl (lv_at hl 0 rfl) ?_
        refine lv_iconst (v := (1 : Int32)) hx hb dX7_size_9 (by decide) ?_
        refine lv_iload_n hx hb dX7_size_10 rfl (lv_at hl 1 rfl) ?_
        refine lv_ishl hx hb dX7_size_11 ?_
        refine lv_icmp_lt (tgt := 22) hx hb dX7_size_12 (by decide) (fun h2 => ?_) (fun h2 => ?_)
        · have hf := pq_brt hf h2
          refine lv_iload_n hx hb dX7_size_22 rfl (lv_at hl 1 rfl) ?_
          obtain rfl := Option.some.inj hf
          exact hret _ _ _ ls hh dX7_size_23 rfl
        · have hf := pq_brf hf h2
          refine lv_iload_n hx hb dX7_size_15 rfl (lv_at hl 1 rfl) ?_
          refine lv_iconst (v := (1 : Int32)) hx hb dX7_size_16 (by decide) ?_
          refine lv_iadd hx hb dX7_size_17 ?_
          refine lv_topi (fun v3 e4 => ?_)
          have hf := pq_nmx hf v3 e4
          refine lv_istore_n (lv' := [(2, .int v3), (1, .int x1)]) hx hb dX7_size_18 rfl hl (by decide) rfl (fun ls hl => ?_)
          refine lv_goto (tgt := 2) hx hb dX7_size_19 (by decide) ?_
          exact ih2 x1 v3 _ _ hh ls (lv_sub hl [1, 0] rfl) hf
  rw [fX7_size] at hf
  refine lv_iconst (v := (0 : Int32)) hx hb dX7_size_0 (by decide) ?_
  refine lv_istore_n (lv' := [(2, .int (0 : Int32)), (0, .ref th), (1, .int a1)]) hx hb dX7_size_1 rfl hl (by decide) rfl (fun ls hl => ?_)
  exact J2 1100 a1 (0 : Int32) _ _ hh ls (lv_sub hl [2, 0] rfl) hf
set_option maxHeartbeats 4000000 in
set_option maxRecDepth 100000 in
theorem qX7_open (l : Launch) (D : va_G) (cI cL : ClassId) (th : Nat) (ad : Nat → Nat) (c_told : Int32) (c_sumZ : Int32) (c_sumE : Int32) (c_stepY : Int32) (c_odd : Int32) (c_even : Int32) (c_taped : Int32) (c_outs : Int32) (c_isFound : Int32) (f_kinds : Nat → Int32) (f_seconds : Nat → Int32) (f_g : Nat → Int32) (f_bands : Nat → Int32) (f_sieve : Nat → Int32) (a1 : Int32) (a2 : Int32) (res : Int32 × Int32 × (Nat → Int32) × (Nat → Int32) × (Nat → Int32) × (Nat → Int32) × (Nat → Int32)) (hf : fX7_open a1 a2 c_told f_kinds f_seconds f_g f_bands f_sieve = some res) : pq_CI l yX7_open qsX7_open 1 21 D cI cL [.ref th, .int a1, .int a2] (wX7_open cI th ad c_told c_sumZ c_sumE c_stepY c_odd c_even c_taped c_outs c_isFound f_kinds f_seconds f_g f_bands f_sieve) (wX7_open cI th ad res.2.1 c_sumZ c_sumE c_stepY c_odd c_even c_taped c_outs c_isFound res.2.2.1 res.2.2.2.1 res.2.2.2.2.1 res.2.2.2.2.2.1 res.2.2.2.2.2.2) res.1 := by
  refine pq_mkI (cc := cX7_open) (maxL := 5) (RT := .boolean) (by decide) rfl (Nat.le_of_ble_eq_true rfl) ?_
  intro p e s m args below meth c Q A C hh hret ls hl
  have hx := C.1
  have hb := C.2.1
  have hml := C.2.2.1
  have hown : s.vm.findClass RX7 = some m.cls := C.2.2.2.1
  have hs : ∀ w ∈ wsL_law, w ∈ qsX7_open := fun _ h => List.mem_cons_of_mem _ h
  have htw : ∀ w ∈ wsL_law, w.before args s = true := fun w h => C.2.2.2.2.1 w (hs w h)
  have hl : lv_has ls 5 [(0, .ref th), (1, .int a1), (2, .int a2)] := hl
  have i7 : ∀ w ∈ wsX70, w ∈ qsX7_open := fun w h => hs w (pq_i7 w h)
  have kc122 := htw (.constant RX7 122 (34816)) (pq_m6 _ (List.mem_of_getElem? (i := 18) rfl))
  have kf10 := htw (.fieldLink RX7 10 "VoiceDeskModel" "kinds" "[I") (pq_m3 _ (List.mem_of_getElem? (i := 21) rfl))
  have kf114 := htw (.fieldLink RX7 114 "VoiceDeskModel" "told" "I") (pq_m6 _ (List.mem_of_getElem? (i := 17) rfl))
  have kf14 := htw (.fieldLink RX7 14 "VoiceDeskModel" "seconds" "[I") (pq_m3 _ (List.mem_of_getElem? (i := 22) rfl))
  have kf17 := htw (.fieldLink RX7 17 "VoiceDeskModel" "g" "[I") (pq_m3 _ (List.mem_of_getElem? (i := 23) rfl))
  have kf69 := htw (.fieldLink RX7 69 "VoiceDeskModel" "bands" "[I") (pq_m4 _ (List.mem_of_getElem? (i := 17) rfl))
  have kf72 := htw (.fieldLink RX7 72 "VoiceDeskModel" "sieve" "[I") (pq_m4 _ (List.mem_of_getElem? (i := 18) rfl))
  have J43 : ∀ (fuel43 : Nat) (x1 : Int32) (x3 : Int32) (c_told : Int32) (f_kinds : Nat → Int32) (f_seconds : Nat → Int32) (f_g : Nat → Int32) (f_bands : Nat → Int32) (f_sieve : Nat → Int32) (H : Heap) (locs : List Loc), pq_H D A s (wX7_open cI th ad c_told c_sumZ c_sumE c_stepY c_odd c_even c_taped c_outs c_isFound f_kinds f_seconds f_g f_bands f_sieve) H locs → ∀ ls : Array Slot, lv_has ls 5 [(0, .ref th), (1, .int x1), (3, .int x3)] → fX7_open_b43   fuel43 x1 x3 c_told f_kinds f_seconds f_g f_bands f_sieve = some res → W p l e (pq_rm 1 21) s m args below meth c H locs 0 0 Q (F0 m 43 ls []) := by
    intro fuel43
    induction fuel43 with
    | zero => intro x1 x3 c_told f_kinds f_seconds f_g f_bands f_sieve H locs hh ls hl hf; rw [fX7_open_b43] at hf; cases hf
    | succ fuel43 ih43 =>
      have J153 : ∀ (fuel153 : Nat) (x1 : Int32) (x3 : Int32) (x4 : Int32) (c_told : Int32) (f_kinds : Nat → Int32) (f_seconds : Nat → Int32) (f_g : Nat → Int32) (f_bands : Nat → Int32) (f_sieve : Nat → Int32) (H : Heap) (locs : List Loc), pq_H D A s (wX7_open cI th ad c_told c_sumZ c_sumE c_stepY c_odd c_even c_taped c_outs c_isFound f_kinds f_seconds f_g f_bands f_sieve) H locs → ∀ ls : Array Slot, lv_has ls 5 [(0, .ref th), (1, .int x1), (3, .int x3), (4, .int x4)] → fX7_open_b153 (fX7_open_b43   fuel43)  fuel153 x1 x3 x4 c_told f_kinds f_seconds f_g f_bands f_sieve = some res → W p l e (pq_rm 1 21) s m args below meth c H locs 0 0 Q (F0 m 153 ls []) := by
        intro fuel153
        induction fuel153 with
        | zero => intro x1 x3 x4 c_told f_kinds f_seconds f_g f_bands f_sieve H locs hh ls hl hf; rw [fX7_open_b153] at hf; cases hf
        | succ fuel153 ih153 =>
          intro x1 x3 x4 c_told f_kinds f_seconds f_g f_bands f_sieve H locs hh ls hl hf
          rw [fX7_open_b153] at hf
          refine lv_iload hx hb dX7_open_153 (lv_at hl 3 rfl) ?_
          refine lv_bipush (v := (46 : Int32)) hx hb dX7_open_155 (by decide) ?_
          refine lv_icmp_ge (tgt := 179) hx hb dX7_open_157 (by decide) (fun h36 => ?_) (fun h36 => ?_)
          · have hf := pq_brt hf h36
            refine lv_aload_n hx hb dX7_open_179 rfl (lv_at hl 0 rfl) ?_
            refine pq_get C hh i7 0 6 rfl rfl 23 (by decide) kf69 rfl rfl dX7_open_180 ?_
            refine lv_bipush (v := (46 : Int32)) hx hb dX7_open_183 (by decide) ?_
            refine lv_iload_n hx hb dX7_open_185 rfl (lv_at hl 2 rfl) ?_
            refine lv_imul hx hb dX7_open_186 ?_
            refine lv_iconst (v := (1 : Int32)) hx hb dX7_open_187 (by decide) ?_
            refine lv_iadd hx hb dX7_open_188 ?_
            refine lv_bipush (v := (32 : Int32)) hx hb dX7_open_189 (by decide) ?_
            obtain ⟨h37, hf⟩ := pq_wrx hf
            refine pq_iast C hh 4 rfl h37 dX7_open_191 (fun H locs f38 e39 (hh : pq_H D A s (wX7_open cI th ad c_told c_sumZ c_sumE c_stepY c_odd c_even c_taped c_outs c_isFound f_kinds f_seconds f_g f38 f_sieve) H locs) => ?_)
            have hf := hf f38 e39
            refine lv_aload_n hx hb dX7_open_192 rfl (lv_at hl 0 rfl) ?_
            refine pq_get C hh i7 0 6 rfl rfl 23 (by decide) kf69 rfl rfl dX7_open_193 ?_
            refine lv_bipush (v := (46 : Int32)) hx hb dX7_open_196 (by decide) ?_
            refine lv_iload_n hx hb dX7_open_198 rfl (lv_at hl 2 rfl) ?_
            refine lv_imul hx hb dX7_open_199 ?_
            refine lv_bipush (v := (24 : Int32)) hx hb dX7_open_200 (by decide) ?_
            refine lv_iadd hx hb dX7_open_202 ?_
            refine lv_bipush (v := (8 : Int32)) hx hb dX7_open_203 (by decide) ?_
            obtain ⟨h40, hf⟩ := pq_wrx hf
            refine pq_iast C hh 4 rfl h40 dX7_open_205 (fun H locs f41 e42 (hh : pq_H D A s (wX7_open cI th ad c_told c_sumZ c_sumE c_stepY c_odd c_even c_taped c_outs c_isFound f_kinds f_seconds f_g f41 f_sieve) H locs) => ?_)
            have hf := hf f41 e42
            obtain ⟨v43, e44⟩ : ∃ y : Int32, y = x3 + (1 : Int32) := ⟨_, rfl⟩
            refine lv_iinc (v := v43) (lv' := [(3, .int v43), (0, .ref th), (1, .int x1), (4, .int x4)]) hx hb dX7_open_206 hl (k := 2) rfl (by rw [e44]; rfl) (by decide) rfl (fun ls hl => ?_)
            have hf := pq_nmx hf v43 e44
            refine lv_goto (tgt := 43) hx hb dX7_open_209 (by decide) ?_
            exact ih43 x1 v43 c_told f_kinds f_seconds f_g f41 f_sieve _ _ hh ls (lv_sub hl [1, 2, 0] rfl) hf
          · have hf := pq_brf hf h36
            refine lv_aload_n hx hb dX7_open_160 rfl (lv_at hl 0 rfl) ?_
            refine pq_get C hh i7 0 6 rfl rfl 23 (by decide) kf69 rfl rfl dX7_open_161 ?_
            refine lv_bipush (v := (46 : Int32)) hx hb dX7_open_164 (by decide) ?_
            refine lv_iload_n hx hb dX7_open_166 rfl (lv_at hl 2 rfl) ?_
            refine lv_imul hx hb dX7_open_167 ?_
            refine lv_iload hx hb dX7_open_168 (lv_at hl 3 rfl) ?_
            refine lv_iadd hx hb dX7_open_170 ?_
            refine lv_iconst (v := (0 : Int32)) hx hb dX7_open_171 (by decide) ?_
            obtain ⟨h45, hf⟩ := pq_wrx hf
            refine pq_iast C hh 4 rfl h45 dX7_open_172 (fun H locs f46 e47 (hh : pq_H D A s (wX7_open cI th ad c_told c_sumZ c_sumE c_stepY c_odd c_even c_taped c_outs c_isFound f_kinds f_seconds f_g f46 f_sieve) H locs) => ?_)
            have hf := hf f46 e47
            obtain ⟨v48, e49⟩ : ∃ y : Int32, y = x4 + (1 : Int32) := ⟨_, rfl⟩
            refine lv_iinc (v := v48) (lv' := [(4, .int v48), (0, .ref th), (1, .int x1), (3, .int x3)]) hx hb dX7_open_173 hl (k := 3) rfl (by rw [e49]; rfl) (by decide) rfl (fun ls hl => ?_)
            have hf := pq_nmx hf v48 e49
            refine lv_goto (tgt := 153) hx hb dX7_open_176 (by decide) ?_
            exact ih153 x1 x3 v48 c_told f_kinds f_seconds f_g f46 f_sieve _ _ hh ls (lv_sub hl [1, 2, 3, 0] rfl) hf
      have J123 : ∀ (fuel123 : Nat) (x1 : Int32) (x3 : Int32) (x4 : Int32) (c_told : Int32) (f_kinds : Nat → Int32) (f_seconds : Nat → Int32) (f_g : Nat → Int32) (f_bands : Nat → Int32) (f_sieve : Nat → Int32) (H : Heap) (locs : List Loc), pq_H D A s (wX7_open cI th ad c_told c_sumZ c_sumE c_stepY c_odd c_even c_taped c_outs c_isFound f_kinds f_seconds f_g f_bands f_sieve) H locs → ∀ ls : Array Slot, lv_has ls 5 [(0, .ref th), (1, .int x1), (3, .int x3), (4, .int x4)] → fX7_open_b123 (fX7_open_b43   fuel43)  fuel123 x1 x3 x4 c_told f_kinds f_seconds f_g f_bands f_sieve = some res → W p l e (pq_rm 1 21) s m args below meth c H locs 0 0 Q (F0 m 123 ls []) := by
        intro fuel123
        induction fuel123 with
        | zero => intro x1 x3 x4 c_told f_kinds f_seconds f_g f_bands f_sieve H locs hh ls hl hf; rw [fX7_open_b123] at hf; cases hf
        | succ fuel123 ih123 =>
          intro x1 x3 x4 c_told f_kinds f_seconds f_g f_bands f_sieve H locs hh ls hl hf
          rw [fX7_open_b123] at hf
          refine lv_iload hx hb dX7_open_123 (lv_at hl 3 rfl) ?_
          refine lv_bipush (v := (22 : Int32)) hx hb dX7_open_125 (by decide) ?_
          refine lv_icmp_ge (tgt := 150) hx hb dX7_open_127 (by decide) (fun h30 => ?_) (fun h30 => ?_)
          · have hf := pq_brt hf h30
            refine lv_iconst (v := (0 : Int32)) hx hb dX7_open_150 (by decide) ?_
            refine lv_istore (lv' := [(4, .int (0 : Int32)), (0, .ref th), (1, .int x1), (3, .int x3)]) hx hb dX7_open_151 hl (by decide) rfl (fun ls hl => ?_)
            exact J153 1100 x1 x3 (0 : Int32) c_told f_kinds f_seconds f_g f_bands f_sieve _ _ hh ls (lv_sub hl [1, 2, 3, 0] rfl) hf
          · have hf := pq_brf hf h30
            refine lv_aload_n hx hb dX7_open_130 rfl (lv_at hl 0 rfl) ?_
            refine pq_get C hh i7 0 6 rfl rfl 3 (by decide) kf17 rfl rfl dX7_open_131 ?_
            refine lv_bipush (v := (24 : Int32)) hx hb dX7_open_134 (by decide) ?_
            refine lv_iload_n hx hb dX7_open_136 rfl (lv_at hl 2 rfl) ?_
            refine lv_imul hx hb dX7_open_137 ?_
            refine lv_iload hx hb dX7_open_138 (lv_at hl 3 rfl) ?_
            refine lv_iadd hx hb dX7_open_140 ?_
            refine lv_bipush (v := (32 : Int32)) hx hb dX7_open_141 (by decide) ?_
            obtain ⟨h31, hf⟩ := pq_wrx hf
            refine pq_iast C hh 3 rfl h31 dX7_open_143 (fun H locs f32 e33 (hh : pq_H D A s (wX7_open cI th ad c_told c_sumZ c_sumE c_stepY c_odd c_even c_taped c_outs c_isFound f_kinds f_seconds f32 f_bands f_sieve) H locs) => ?_)
            have hf := hf f32 e33
            obtain ⟨v34, e35⟩ : ∃ y : Int32, y = x4 + (1 : Int32) := ⟨_, rfl⟩
            refine lv_iinc (v := v34) (lv' := [(4, .int v34), (0, .ref th), (1, .int x1), (3, .int x3)]) hx hb dX7_open_144 hl (k := 3) rfl (by rw [e35]; rfl) (by decide) rfl (fun ls hl => ?_)
            have hf := pq_nmx hf v34 e35
            refine lv_goto (tgt := 123) hx hb dX7_open_147 (by decide) ?_
            exact ih123 x1 x3 v34 c_told f_kinds f_seconds f32 f_bands f_sieve _ _ hh ls (lv_sub hl [1, 2, 3, 0] rfl) hf
      have J55 : ∀ (fuel55 : Nat) (x1 : Int32) (x3 : Int32) (x4 : Int32) (c_told : Int32) (f_kinds : Nat → Int32) (f_seconds : Nat → Int32) (f_g : Nat → Int32) (f_bands : Nat → Int32) (f_sieve : Nat → Int32) (H : Heap) (locs : List Loc), pq_H D A s (wX7_open cI th ad c_told c_sumZ c_sumE c_stepY c_odd c_even c_taped c_outs c_isFound f_kinds f_seconds f_g f_bands f_sieve) H locs → ∀ ls : Array Slot, lv_has ls 5 [(0, .ref th), (1, .int x1), (3, .int x3), (4, .int x4)] → fX7_open_b55 (fX7_open_b43   fuel43)  fuel55 x1 x3 x4 c_told f_kinds f_seconds f_g f_bands f_sieve = some res → W p l e (pq_rm 1 21) s m args below meth c H locs 0 0 Q (F0 m 55 ls []) := by
        intro fuel55
        induction fuel55 with
        | zero => intro x1 x3 x4 c_told f_kinds f_seconds f_g f_bands f_sieve H locs hh ls hl hf; rw [fX7_open_b55] at hf; cases hf
        | succ fuel55 ih55 =>
          intro x1 x3 x4 c_told f_kinds f_seconds f_g f_bands f_sieve H locs hh ls hl hf
          rw [fX7_open_b55] at hf
          refine lv_iload hx hb dX7_open_55 (lv_at hl 3 rfl) ?_
          refine lv_bipush (v := (24 : Int32)) hx hb dX7_open_57 (by decide) ?_
          refine lv_icmp_ge (tgt := 94) hx hb dX7_open_59 (by decide) (fun h15 => ?_) (fun h15 => ?_)
          · have hf := pq_brt hf h15
            refine lv_aload_n hx hb dX7_open_94 rfl (lv_at hl 0 rfl) ?_
            refine pq_get C hh i7 0 6 rfl rfl 3 (by decide) kf17 rfl rfl dX7_open_95 ?_
            refine lv_bipush (v := (24 : Int32)) hx hb dX7_open_98 (by decide) ?_
            refine lv_iload_n hx hb dX7_open_100 rfl (lv_at hl 2 rfl) ?_
            refine lv_imul hx hb dX7_open_101 ?_
            refine lv_ldc (v := (34816 : Int32)) hx hb hown kc122 dX7_open_102 ?_
            obtain ⟨h16, hf⟩ := pq_wrx hf
            refine pq_iast C hh 3 rfl h16 dX7_open_104 (fun H locs f17 e18 (hh : pq_H D A s (wX7_open cI th ad c_told c_sumZ c_sumE c_stepY c_odd c_even c_taped c_outs c_isFound f_kinds f_seconds f17 f_bands f_sieve) H locs) => ?_)
            have hf := hf f17 e18
            refine lv_aload_n hx hb dX7_open_105 rfl (lv_at hl 0 rfl) ?_
            refine pq_get C hh i7 0 6 rfl rfl 3 (by decide) kf17 rfl rfl dX7_open_106 ?_
            refine lv_bipush (v := (24 : Int32)) hx hb dX7_open_109 (by decide) ?_
            refine lv_iload_n hx hb dX7_open_111 rfl (lv_at hl 2 rfl) ?_
            refine lv_imul hx hb dX7_open_112 ?_
            refine lv_iconst (v := (1 : Int32)) hx hb dX7_open_113 (by decide) ?_
            refine lv_iadd hx hb dX7_open_114 ?_
            refine lv_sipush (v := (544 : Int32)) hx hb dX7_open_115 (by decide) ?_
            obtain ⟨h19, hf⟩ := pq_wrx hf
            refine pq_iast C hh 3 rfl h19 dX7_open_118 (fun H locs f20 e21 (hh : pq_H D A s (wX7_open cI th ad c_told c_sumZ c_sumE c_stepY c_odd c_even c_taped c_outs c_isFound f_kinds f_seconds f20 f_bands f_sieve) H locs) => ?_)
            have hf := hf f20 e21
            refine lv_bipush (v := (14 : Int32)) hx hb dX7_open_119 (by decide) ?_
            refine lv_istore (lv' := [(4, .int (14 : Int32)), (0, .ref th), (1, .int x1), (3, .int x3)]) hx hb dX7_open_121 hl (by decide) rfl (fun ls hl => ?_)
            exact J123 1100 x1 x3 (14 : Int32) c_told f_kinds f_seconds f20 f_bands f_sieve _ _ hh ls (lv_sub hl [1, 2, 3, 0] rfl) hf
          · have hf := pq_brf hf h15
            refine lv_aload_n hx hb dX7_open_62 rfl (lv_at hl 0 rfl) ?_
            refine pq_get C hh i7 0 6 rfl rfl 3 (by decide) kf17 rfl rfl dX7_open_63 ?_
            refine lv_bipush (v := (24 : Int32)) hx hb dX7_open_66 (by decide) ?_
            refine lv_iload_n hx hb dX7_open_68 rfl (lv_at hl 2 rfl) ?_
            refine lv_imul hx hb dX7_open_69 ?_
            refine lv_iload hx hb dX7_open_70 (lv_at hl 3 rfl) ?_
            refine lv_iadd hx hb dX7_open_72 ?_
            refine lv_iconst (v := (0 : Int32)) hx hb dX7_open_73 (by decide) ?_
            obtain ⟨h22, hf⟩ := pq_wrx hf
            refine pq_iast C hh 3 rfl h22 dX7_open_74 (fun H locs f23 e24 (hh : pq_H D A s (wX7_open cI th ad c_told c_sumZ c_sumE c_stepY c_odd c_even c_taped c_outs c_isFound f_kinds f_seconds f23 f_bands f_sieve) H locs) => ?_)
            have hf := hf f23 e24
            refine lv_aload_n hx hb dX7_open_75 rfl (lv_at hl 0 rfl) ?_
            refine pq_get C hh i7 0 6 rfl rfl 24 (by decide) kf72 rfl rfl dX7_open_76 ?_
            refine lv_bipush (v := (24 : Int32)) hx hb dX7_open_79 (by decide) ?_
            refine lv_iload_n hx hb dX7_open_81 rfl (lv_at hl 2 rfl) ?_
            refine lv_imul hx hb dX7_open_82 ?_
            refine lv_iload hx hb dX7_open_83 (lv_at hl 3 rfl) ?_
            refine lv_iadd hx hb dX7_open_85 ?_
            refine lv_iconst (v := (0 : Int32)) hx hb dX7_open_86 (by decide) ?_
            obtain ⟨h25, hf⟩ := pq_wrx hf
            refine pq_iast C hh 5 rfl h25 dX7_open_87 (fun H locs f26 e27 (hh : pq_H D A s (wX7_open cI th ad c_told c_sumZ c_sumE c_stepY c_odd c_even c_taped c_outs c_isFound f_kinds f_seconds f23 f_bands f26) H locs) => ?_)
            have hf := hf f26 e27
            obtain ⟨v28, e29⟩ : ∃ y : Int32, y = x4 + (1 : Int32) := ⟨_, rfl⟩
            refine lv_iinc (v := v28) (lv' := [(4, .int v28), (0, .ref th), (1, .int x1), (3, .int x3)]) hx hb dX7_open_88 hl (k := 3) rfl (by rw [e29]; rfl) (by decide) rfl (fun ls hl => ?_)
            have hf := pq_nmx hf v28 e29
            refine lv_goto (tgt := 55) hx hb dX7_open_91 (by decide) ?_
            exact ih55 x1 x3 v28 c_told f_kinds f_seconds f23 f_bands f26 _ _ hh ls (lv_sub hl [1, 2, 3, 0] rfl) hf
      intro x1 x3 c_told f_kinds f_seconds f_g f_bands f_sieve H locs hh ls hl hf
      rw [fX7_open_b43] at hf
      refine lv_iload_n hx hb dX7_open_43 rfl (lv_at hl 2 rfl) ?_
      refine lv_iconst (v := (2 : Int32)) hx hb dX7_open_44 (by decide) ?_
      refine lv_iload_n hx hb dX7_open_45 rfl (lv_at hl 1 rfl) ?_
      refine lv_imul hx hb dX7_open_46 ?_
      refine lv_iconst (v := (2 : Int32)) hx hb dX7_open_47 (by decide) ?_
      refine lv_iadd hx hb dX7_open_48 ?_
      refine lv_icmp_ge (tgt := 212) hx hb dX7_open_49 (by decide) (fun h14 => ?_) (fun h14 => ?_)
      · have hf := pq_brt hf h14
        refine lv_iconst (v := (1 : Int32)) hx hb dX7_open_212 (by decide) ?_
        obtain rfl := Option.some.inj hf
        exact hret _ _ _ ls hh dX7_open_213 (pq_nb1 rfl)
      · have hf := pq_brf hf h14
        refine lv_iconst (v := (0 : Int32)) hx hb dX7_open_52 (by decide) ?_
        refine lv_istore (lv' := [(4, .int (0 : Int32)), (0, .ref th), (1, .int x1), (3, .int x3)]) hx hb dX7_open_53 hl (by decide) rfl (fun ls hl => ?_)
        exact J55 1100 x1 x3 (0 : Int32) c_told f_kinds f_seconds f_g f_bands f_sieve _ _ hh ls (lv_sub hl [1, 2, 3, 0] rfl) hf
  rw [fX7_open] at hf
  refine lv_aload_n hx hb dX7_open_0 rfl (lv_at hl 0 rfl) ?_
  refine lv_iconst (v := (0 : Int32)) hx hb dX7_open_1 (by decide) ?_
  refine pq_put (ty := .int) (v := .int (0 : Int32)) C hh i7 tyX7 tyX7_ok nmX7 0 6 rfl rfl 0 (by decide) kf114 rfl rfl (by decide +kernel) rfl rfl (Nat.le_of_ble_eq_true rfl) dX7_open_2 (fun H locs (hh : pq_H D A s (wX7_open cI th ad (0 : Int32) c_sumZ c_sumE c_stepY c_odd c_even c_taped c_outs c_isFound f_kinds f_seconds f_g f_bands f_sieve) H locs) => ?_)
  refine lv_aload_n hx hb dX7_open_5 rfl (lv_at hl 0 rfl) ?_
  refine lv_iload_n hx hb dX7_open_6 rfl (lv_at hl 1 rfl) ?_
  obtain ⟨r1, hu2, hf⟩ := pq_clx hf
  refine pq_cvI (n := 1) (As := [.int a1]) C hh (qX7_isLine l D cI cL th a1 r1 hu2) (gvX7_isLine hs (pq_m6 _ (List.mem_of_getElem? (i := 19) rfl))) rfl (by decide +kernel) ⟨Nat.le_of_ble_eq_true rfl, Nat.le_of_ble_eq_true rfl⟩ 0 6 rfl rfl rfl hl.1 rfl rfl (Nat.le_of_ble_eq_true rfl) dX7_open_7 ⟨Nat.zero_le _, Nat.zero_le _⟩ [] [0, 1, 2, 3, 4, 5] [0, 1, 2, 3, 4, 5] rfl rfl (by decide) (by decide) (by decide) rfl (fun H locs (hh : pq_H D A s (wX7_open cI th ad (0 : Int32) c_sumZ c_sumE c_stepY c_odd c_even c_taped c_outs c_isFound f_kinds f_seconds f_g f_bands f_sieve) H locs) => ?_)
  refine lv_if_eq (tgt := 23) hx hb dX7_open_10 (by decide) (fun h3 => ?_) (fun h3 => ?_)
  · have hf := pq_brt hf h3
    refine lv_iconst (v := (0 : Int32)) hx hb dX7_open_23 (by decide) ?_
    obtain rfl := Option.some.inj hf
    exact hret _ _ _ ls hh dX7_open_24 (pq_nb0 rfl)
  · have hf := pq_brf hf h3
    refine lv_iload_n hx hb dX7_open_13 rfl (lv_at hl 2 rfl) ?_
    refine lv_if_lt (tgt := 23) hx hb dX7_open_14 (by decide) (fun h4 => ?_) (fun h4 => ?_)
    · have hf := pq_brt hf h4
      refine lv_iconst (v := (0 : Int32)) hx hb dX7_open_23 (by decide) ?_
      obtain rfl := Option.some.inj hf
      exact hret _ _ _ ls hh dX7_open_24 (pq_nb0 rfl)
    · have hf := pq_brf hf h4
      refine lv_iload_n hx hb dX7_open_17 rfl (lv_at hl 2 rfl) ?_
      refine lv_bipush (v := (8 : Int32)) hx hb dX7_open_18 (by decide) ?_
      refine lv_icmp_le (tgt := 25) hx hb dX7_open_20 (by decide) (fun h5 => ?_) (fun h5 => ?_)
      · have hf := pq_brt hf h5
        refine lv_aload_n hx hb dX7_open_25 rfl (lv_at hl 0 rfl) ?_
        refine pq_get C hh i7 0 6 rfl rfl 1 (by decide) kf10 rfl rfl dX7_open_26 ?_
        refine lv_iload_n hx hb dX7_open_29 rfl (lv_at hl 1 rfl) ?_
        refine lv_iload_n hx hb dX7_open_30 rfl (lv_at hl 2 rfl) ?_
        obtain ⟨h6, hf⟩ := pq_wrx hf
        refine pq_iast C hh 1 rfl h6 dX7_open_31 (fun H locs f7 e8 (hh : pq_H D A s (wX7_open cI th ad (0 : Int32) c_sumZ c_sumE c_stepY c_odd c_even c_taped c_outs c_isFound f7 f_seconds f_g f_bands f_sieve) H locs) => ?_)
        have hf := hf f7 e8
        refine lv_aload_n hx hb dX7_open_32 rfl (lv_at hl 0 rfl) ?_
        refine pq_get C hh i7 0 6 rfl rfl 2 (by decide) kf14 rfl rfl dX7_open_33 ?_
        refine lv_iload_n hx hb dX7_open_36 rfl (lv_at hl 1 rfl) ?_
        refine lv_iconst (v := (0 : Int32)) hx hb dX7_open_37 (by decide) ?_
        obtain ⟨h9, hf⟩ := pq_wrx hf
        refine pq_iast C hh 2 rfl h9 dX7_open_38 (fun H locs f10 e11 (hh : pq_H D A s (wX7_open cI th ad (0 : Int32) c_sumZ c_sumE c_stepY c_odd c_even c_taped c_outs c_isFound f7 f10 f_g f_bands f_sieve) H locs) => ?_)
        have hf := hf f10 e11
        refine lv_iconst (v := (2 : Int32)) hx hb dX7_open_39 (by decide) ?_
        refine lv_iload_n hx hb dX7_open_40 rfl (lv_at hl 1 rfl) ?_
        refine lv_imul hx hb dX7_open_41 ?_
        refine lv_topi (fun v12 e13 => ?_)
        have hf := pq_nmx hf v12 e13
        refine lv_istore_n (lv' := [(3, .int v12), (0, .ref th), (1, .int a1), (2, .int a2)]) hx hb dX7_open_42 rfl hl (by decide) rfl (fun ls hl => ?_)
        exact J43 1100 a1 v12 (0 : Int32) f7 f10 f_g f_bands f_sieve _ _ hh ls (lv_sub hl [1, 2, 0] rfl) hf
      · have hf := pq_brf hf h5
        refine lv_iconst (v := (0 : Int32)) hx hb dX7_open_23 (by decide) ?_
        obtain rfl := Option.some.inj hf
        exact hret _ _ _ ls hh dX7_open_24 (pq_nb0 rfl)
set_option maxHeartbeats 4000000 in
set_option maxRecDepth 100000 in
theorem qX7_kind (l : Launch) (D : va_G) (cI cL : ClassId) (th : Nat) (ad : Nat → Nat) (c_told : Int32) (c_sumZ : Int32) (c_sumE : Int32) (c_stepY : Int32) (c_odd : Int32) (c_even : Int32) (c_taped : Int32) (c_outs : Int32) (c_isFound : Int32) (f_kinds : Nat → Int32) (a1 : Int32) (res : Int32 × Int32) (hf : fX7_kind a1 f_kinds c_told = some res) : pq_CI l yX7_kind qsX7_kind 1 21 D cI cL [.ref th, .int a1] (wX7_kind cI th ad c_told c_sumZ c_sumE c_stepY c_odd c_even c_taped c_outs c_isFound f_kinds) (wX7_kind cI th ad res.2 c_sumZ c_sumE c_stepY c_odd c_even c_taped c_outs c_isFound f_kinds) res.1 := by
  refine pq_mkI (cc := cX7_kind) (maxL := 2) (RT := .int) (by decide) rfl (Nat.le_of_ble_eq_true rfl) ?_
  intro p e s m args below meth c Q A C hh hret ls hl
  have hx := C.1
  have hb := C.2.1
  have hml := C.2.2.1
  have hown : s.vm.findClass RX7 = some m.cls := C.2.2.2.1
  have hs : ∀ w ∈ wsL_law, w ∈ qsX7_kind := fun _ h => List.mem_cons_of_mem _ h
  have htw : ∀ w ∈ wsL_law, w.before args s = true := fun w h => C.2.2.2.2.1 w (hs w h)
  have hl : lv_has ls 2 [(0, .ref th), (1, .int a1)] := hl
  have i7 : ∀ w ∈ wsX70, w ∈ qsX7_kind := fun w h => hs w (pq_i7 w h)
  have kc9 := htw (.constant RX7 9 (-100000)) (pq_m3 _ (List.mem_of_getElem? (i := 20) rfl))
  have kf10 := htw (.fieldLink RX7 10 "VoiceDeskModel" "kinds" "[I") (pq_m3 _ (List.mem_of_getElem? (i := 21) rfl))
  have kf114 := htw (.fieldLink RX7 114 "VoiceDeskModel" "told" "I") (pq_m6 _ (List.mem_of_getElem? (i := 17) rfl))
  rw [fX7_kind] at hf
  refine lv_aload_n hx hb dX7_kind_0 rfl (lv_at hl 0 rfl) ?_
  refine lv_iconst (v := (0 : Int32)) hx hb dX7_kind_1 (by decide) ?_
  refine pq_put (ty := .int) (v := .int (0 : Int32)) C hh i7 tyX7 tyX7_ok nmX7 0 6 rfl rfl 0 (by decide) kf114 rfl rfl (by decide +kernel) rfl rfl (Nat.le_of_ble_eq_true rfl) dX7_kind_2 (fun H locs (hh : pq_H D A s (wX7_kind cI th ad (0 : Int32) c_sumZ c_sumE c_stepY c_odd c_even c_taped c_outs c_isFound f_kinds) H locs) => ?_)
  refine lv_aload_n hx hb dX7_kind_5 rfl (lv_at hl 0 rfl) ?_
  refine lv_iload_n hx hb dX7_kind_6 rfl (lv_at hl 1 rfl) ?_
  obtain ⟨r1, hu2, hf⟩ := pq_clx hf
  refine pq_cvI (n := 1) (As := [.int a1]) C hh (qX7_isLine l D cI cL th a1 r1 hu2) (gvX7_isLine hs (pq_m6 _ (List.mem_of_getElem? (i := 19) rfl))) rfl (by decide +kernel) ⟨Nat.le_of_ble_eq_true rfl, Nat.le_of_ble_eq_true rfl⟩ 0 6 rfl rfl rfl hl.1 rfl rfl (Nat.le_of_ble_eq_true rfl) dX7_kind_7 ⟨Nat.zero_le _, Nat.zero_le _⟩ [] [0, 1] [0, 1] rfl rfl (by decide) (by decide) (by decide) rfl (fun H locs (hh : pq_H D A s (wX7_kind cI th ad (0 : Int32) c_sumZ c_sumE c_stepY c_odd c_even c_taped c_outs c_isFound f_kinds) H locs) => ?_)
  refine lv_if_eq (tgt := 22) hx hb dX7_kind_10 (by decide) (fun h3 => ?_) (fun h3 => ?_)
  · have hf := pq_brt hf h3
    refine lv_ldc (v := (-100000 : Int32)) hx hb hown kc9 dX7_kind_22 ?_
    obtain rfl := Option.some.inj hf
    exact hret _ _ _ ls hh dX7_kind_24 rfl
  · have hf := pq_brf hf h3
    refine lv_aload_n hx hb dX7_kind_13 rfl (lv_at hl 0 rfl) ?_
    refine pq_get C hh i7 0 6 rfl rfl 1 (by decide) kf10 rfl rfl dX7_kind_14 ?_
    refine lv_iload_n hx hb dX7_kind_17 rfl (lv_at hl 1 rfl) ?_
    obtain ⟨h4, hf⟩ := pq_rdx hf
    refine pq_iald C hh 1 rfl h4 dX7_kind_18 (fun v5 e6 => ?_)
    have hf := hf v5 e6
    refine lv_goto (tgt := 24) hx hb dX7_kind_19 (by decide) ?_
    obtain rfl := Option.some.inj hf
    exact hret _ _ _ ls hh dX7_kind_24 rfl
set_option maxHeartbeats 4000000 in
set_option maxRecDepth 100000 in
theorem qX7_muSays (l : Launch) (D : va_G) (cI cL : ClassId) (th : Nat) (ad : Nat → Nat) (c_told : Int32) (c_sumZ : Int32) (c_sumE : Int32) (c_stepY : Int32) (c_odd : Int32) (c_even : Int32) (c_taped : Int32) (c_outs : Int32) (c_isFound : Int32) (a1 : Int32) (res : Int32) (hf : fX7_muSays a1 = some res) : pq_CI l yX7_muSays qsX7_muSays 1 21 D cI cL [.ref th, .int a1] (wX7_muSays cI th ad c_told c_sumZ c_sumE c_stepY c_odd c_even c_taped c_outs c_isFound) (wX7_muSays cI th ad c_told c_sumZ c_sumE c_stepY c_odd c_even c_taped c_outs c_isFound) res := by
  refine pq_mkI (cc := cX7_muSays) (maxL := 5) (RT := .int) (by decide) rfl (Nat.le_of_ble_eq_true rfl) ?_
  intro p e s m args below meth c Q A C hh hret ls hl
  have hx := C.1
  have hb := C.2.1
  have hml := C.2.2.1
  have hown : s.vm.findClass RX7 = some m.cls := C.2.2.2.1
  have hs : ∀ w ∈ wsL_law, w ∈ qsX7_muSays := fun _ h => List.mem_cons_of_mem _ h
  have htw : ∀ w ∈ wsL_law, w.before args s = true := fun w h => C.2.2.2.2.1 w (hs w h)
  have hl : lv_has ls 5 [(0, .ref th), (1, .int a1)] := hl
  have J66 : ∀ (x2 : Int32) (x4 : Int32) (s0 : Int32) (H : Heap) (locs : List Loc), pq_H D A s (wX7_muSays cI th ad c_told c_sumZ c_sumE c_stepY c_odd c_even c_taped c_outs c_isFound) H locs → ∀ ls : Array Slot, lv_has ls 5 [(2, .int x2), (4, .int x4)] → fX7_muSays_b66   x2 x4 s0 = some res → W p l e (pq_rm 1 21) s m args below meth c H locs 0 0 Q (F0 m 66 ls [.int s0]) := by
    intro x2 x4 s0 H locs hh ls hl hf
    rw [fX7_muSays_b66] at hf
    refine lv_bipush (v := (16 : Int32)) hx hb dX7_muSays_66 (by decide) ?_
    refine lv_iload hx hb dX7_muSays_68 (lv_at hl 1 rfl) ?_
    refine lv_imul hx hb dX7_muSays_70 ?_
    refine lv_iload_n hx hb dX7_muSays_71 rfl (lv_at hl 0 rfl) ?_
    refine lv_iload hx hb dX7_muSays_72 (lv_at hl 1 rfl) ?_
    refine lv_iconst (v := (1 : Int32)) hx hb dX7_muSays_74 (by decide) ?_
    refine lv_iadd hx hb dX7_muSays_75 ?_
    refine lv_ishr hx hb dX7_muSays_76 ?_
    refine lv_bipush (v := (15 : Int32)) hx hb dX7_muSays_77 (by decide) ?_
    refine lv_iand hx hb dX7_muSays_79 ?_
    refine lv_iadd hx hb dX7_muSays_80 ?_
    refine lv_isub hx hb dX7_muSays_81 ?_
    obtain rfl := Option.some.inj hf
    exact hret _ _ _ ls hh dX7_muSays_82 rfl
  have J35 : ∀ (fuel35 : Nat) (x2 : Int32) (x3 : Int32) (x4 : Int32) (H : Heap) (locs : List Loc), pq_H D A s (wX7_muSays cI th ad c_told c_sumZ c_sumE c_stepY c_odd c_even c_taped c_outs c_isFound) H locs → ∀ ls : Array Slot, lv_has ls 5 [(2, .int x2), (3, .int x3), (4, .int x4)] → fX7_muSays_b35   fuel35 x2 x3 x4 = some res → W p l e (pq_rm 1 21) s m args below meth c H locs 0 0 Q (F0 m 35 ls []) := by
    intro fuel35
    induction fuel35 with
    | zero => intro x2 x3 x4 H locs hh ls hl hf; rw [fX7_muSays_b35] at hf; cases hf
    | succ fuel35 ih35 =>
      intro x2 x3 x4 H locs hh ls hl hf
      rw [fX7_muSays_b35] at hf
      refine lv_iload_n hx hb dX7_muSays_35 rfl (lv_at hl 0 rfl) ?_
      refine lv_bipush (v := (64 : Int32)) hx hb dX7_muSays_36 (by decide) ?_
      refine lv_iload hx hb dX7_muSays_38 (lv_at hl 2 rfl) ?_
      refine lv_ishl hx hb dX7_muSays_40 ?_
      refine lv_icmp_lt (tgt := 53) hx hb dX7_muSays_41 (by decide) (fun h10 => ?_) (fun h10 => ?_)
      · have hf := pq_brt hf h10
        refine lv_iload_n hx hb dX7_muSays_53 rfl (lv_at hl 1 rfl) ?_
        refine lv_iconst (v := (1 : Int32)) hx hb dX7_muSays_54 (by decide) ?_
        refine lv_icmp_ne (tgt := 63) hx hb dX7_muSays_55 (by decide) (fun h11 => ?_) (fun h11 => ?_)
        · have hf := pq_brf hf h11
          refine lv_sipush (v := (255 : Int32)) hx hb dX7_muSays_63 (by decide) ?_
          exact J66 x2 x4 (255 : Int32) _ _ hh ls (lv_sub hl [0, 2] rfl) hf
        · have hf := pq_brt hf h11
          refine lv_bipush (v := (127 : Int32)) hx hb dX7_muSays_58 (by decide) ?_
          refine lv_goto (tgt := 66) hx hb dX7_muSays_60 (by decide) ?_
          exact J66 x2 x4 (127 : Int32) _ _ hh ls (lv_sub hl [0, 2] rfl) hf
      · have hf := pq_brf hf h10
        refine lv_iload hx hb dX7_muSays_44 (lv_at hl 2 rfl) ?_
        refine lv_iconst (v := (1 : Int32)) hx hb dX7_muSays_46 (by decide) ?_
        refine lv_iadd hx hb dX7_muSays_47 ?_
        refine lv_topi (fun v12 e13 => ?_)
        have hf := pq_nmx hf v12 e13
        refine lv_istore (lv' := [(4, .int v12), (2, .int x2), (3, .int x3)]) hx hb dX7_muSays_48 hl (by decide) rfl (fun ls hl => ?_)
        refine lv_goto (tgt := 35) hx hb dX7_muSays_50 (by decide) ?_
        exact ih35 x2 x3 v12 _ _ hh ls (lv_sub hl [1, 2, 0] rfl) hf
  have J27 : ∀ (x2 : Int32) (x3 : Int32) (H : Heap) (locs : List Loc), pq_H D A s (wX7_muSays cI th ad c_told c_sumZ c_sumE c_stepY c_odd c_even c_taped c_outs c_isFound) H locs → ∀ ls : Array Slot, lv_has ls 5 [(2, .int x2), (3, .int x3)] → fX7_muSays_b27   x2 x3 = some res → W p l e (pq_rm 1 21) s m args below meth c H locs 0 0 Q (F0 m 27 ls []) := by
    intro x2 x3 H locs hh ls hl hf
    rw [fX7_muSays_b27] at hf
    refine lv_iload_n hx hb dX7_muSays_27 rfl (lv_at hl 0 rfl) ?_
    refine lv_bipush (v := (33 : Int32)) hx hb dX7_muSays_28 (by decide) ?_
    refine lv_iadd hx hb dX7_muSays_30 ?_
    refine lv_topi (fun v8 e9 => ?_)
    have hf := pq_nmx hf v8 e9
    refine lv_istore_n (lv' := [(2, .int v8), (3, .int x3)]) hx hb dX7_muSays_31 rfl hl (by decide) rfl (fun ls hl => ?_)
    refine lv_iconst (v := (0 : Int32)) hx hb dX7_muSays_32 (by decide) ?_
    refine lv_istore (lv' := [(4, .int (0 : Int32)), (2, .int v8), (3, .int x3)]) hx hb dX7_muSays_33 hl (by decide) rfl (fun ls hl => ?_)
    exact J35 1100 v8 x3 (0 : Int32) _ _ hh ls (lv_sub hl [1, 2, 0] rfl) hf
  rw [fX7_muSays] at hf
  refine lv_iload_n hx hb dX7_muSays_0 rfl (lv_at hl 1 rfl) ?_
  refine lv_iconst (v := (2 : Int32)) hx hb dX7_muSays_1 (by decide) ?_
  refine lv_ishr hx hb dX7_muSays_2 ?_
  refine lv_topi (fun v1 e2 => ?_)
  have hf := pq_nmx hf v1 e2
  refine lv_istore_n (lv' := [(2, .int v1), (0, .ref th), (1, .int a1)]) hx hb dX7_muSays_3 rfl hl (by decide) rfl (fun ls hl => ?_)
  refine lv_aload_n hx hb dX7_muSays_4 rfl (lv_at hl 1 rfl) ?_
  refine lv_iload_n hx hb dX7_muSays_5 rfl (lv_at hl 0 rfl) ?_
  obtain ⟨r3, hu4, hf⟩ := pq_clx hf
  refine pq_cvI (n := 1) (As := [.int v1]) C hh (qX7_sign l D cI cL th v1 r3 hu4) (gvX7_sign hs (pq_m16 _ (List.mem_of_getElem? (i := 12) rfl))) rfl (by decide +kernel) ⟨Nat.le_of_ble_eq_true rfl, Nat.le_of_ble_eq_true rfl⟩ 0 6 rfl rfl rfl hl.1 rfl rfl (Nat.le_of_ble_eq_true rfl) dX7_muSays_6 ⟨Nat.zero_le _, Nat.zero_le _⟩ [] [0] [0] rfl rfl (by decide) (by decide) (by decide) rfl (fun H locs (hh : pq_H D A s (wX7_muSays cI th ad c_told c_sumZ c_sumE c_stepY c_odd c_even c_taped c_outs c_isFound) H locs) => ?_)
  refine lv_istore_n (lv' := [(3, .int r3), (2, .int v1), (0, .ref th), (1, .int a1)]) hx hb dX7_muSays_9 rfl hl (by decide) rfl (fun ls hl => ?_)
  refine lv_aload_n hx hb dX7_muSays_10 rfl (lv_at hl 2 rfl) ?_
  refine lv_iload_n hx hb dX7_muSays_11 rfl (lv_at hl 1 rfl) ?_
  obtain ⟨r5, hu6, hf⟩ := pq_clx hf
  refine pq_cvI (n := 1) (As := [.int v1]) C hh (qX7_amount l D cI cL th v1 r5 hu6) (gvX7_amount hs (pq_m16 _ (List.mem_of_getElem? (i := 16) rfl))) rfl (by decide +kernel) ⟨Nat.le_of_ble_eq_true rfl, Nat.le_of_ble_eq_true rfl⟩ 0 6 rfl rfl rfl hl.1 rfl rfl (Nat.le_of_ble_eq_true rfl) dX7_muSays_12 ⟨Nat.zero_le _, Nat.zero_le _⟩ [] [0] [0] rfl rfl (by decide) (by decide) (by decide) rfl (fun H locs (hh : pq_H D A s (wX7_muSays cI th ad c_told c_sumZ c_sumE c_stepY c_odd c_even c_taped c_outs c_isFound) H locs) => ?_)
  refine lv_istore_n (lv' := [(2, .int r5), (3, .int r3), (0, .ref th), (1, .int a1)]) hx hb dX7_muSays_15 rfl hl (by decide) rfl (fun ls hl => ?_)
  refine lv_iload_n hx hb dX7_muSays_16 rfl (lv_at hl 0 rfl) ?_
  refine lv_sipush (v := (8158 : Int32)) hx hb dX7_muSays_17 (by decide) ?_
  refine lv_icmp_le (tgt := 27) hx hb dX7_muSays_20 (by decide) (fun h7 => ?_) (fun h7 => ?_)
  · have hf := pq_brt hf h7
    exact J27 r5 r3 _ _ hh ls (lv_sub hl [0, 1] rfl) hf
  · have hf := pq_brf hf h7
    refine lv_sipush (v := (8158 : Int32)) hx hb dX7_muSays_23 (by decide) ?_
    refine lv_istore_n (lv' := [(2, .int (8158 : Int32)), (3, .int r3), (0, .ref th), (1, .int a1)]) hx hb dX7_muSays_26 rfl hl (by decide) rfl (fun ls hl => ?_)
    exact J27 (8158 : Int32) r3 _ _ hh ls (lv_sub hl [0, 1] rfl) hf
set_option maxHeartbeats 4000000 in
set_option maxRecDepth 100000 in
theorem qX7_muHears (l : Launch) (D : va_G) (cI cL : ClassId) (th : Nat) (a1 : Int32) (res : Int32) (hf : fX7_muHears a1 = some res) : pq_CI l yX7_muHears qsX7_muHears 0 0 D cI cL [.ref th, .int a1] [] [] res := by
  refine pq_mkI (cc := cX7_muHears) (maxL := 4) (RT := .int) (by decide) rfl (Nat.le_of_ble_eq_true rfl) ?_
  intro p e s m args below meth c Q A C hh hret ls hl
  have hx := C.1
  have hb := C.2.1
  have hml := C.2.2.1
  have hown : s.vm.findClass RX7 = some m.cls := C.2.2.2.1
  have hs : ∀ w ∈ wsL_law, w ∈ qsX7_muHears := fun _ h => List.mem_cons_of_mem _ h
  have htw : ∀ w ∈ wsL_law, w.before args s = true := fun w h => C.2.2.2.2.1 w (hs w h)
  have hl : lv_has ls 4 [(0, .ref th), (1, .int a1)] := hl
  rw [fX7_muHears] at hf
  refine lv_sipush (v := (255 : Int32)) hx hb dX7_muHears_0 (by decide) ?_
  refine lv_iload_n hx hb dX7_muHears_3 rfl (lv_at hl 1 rfl) ?_
  refine lv_isub hx hb dX7_muHears_4 ?_
  refine lv_topi (fun v1 e2 => ?_)
  have hf := pq_nmx hf v1 e2
  refine lv_istore_n (lv' := [(2, .int v1), (0, .ref th), (1, .int a1)]) hx hb dX7_muHears_5 rfl hl (by decide) rfl (fun ls hl => ?_)
  refine lv_bipush (v := (8 : Int32)) hx hb dX7_muHears_6 (by decide) ?_
  refine lv_iload_n hx hb dX7_muHears_8 rfl (lv_at hl 0 rfl) ?_
  refine lv_bipush (v := (15 : Int32)) hx hb dX7_muHears_9 (by decide) ?_
  refine lv_iand hx hb dX7_muHears_11 ?_
  refine lv_imul hx hb dX7_muHears_12 ?_
  refine lv_sipush (v := (132 : Int32)) hx hb dX7_muHears_13 (by decide) ?_
  refine lv_iadd hx hb dX7_muHears_16 ?_
  refine lv_iload_n hx hb dX7_muHears_17 rfl (lv_at hl 0 rfl) ?_
  refine lv_iconst (v := (4 : Int32)) hx hb dX7_muHears_18 (by decide) ?_
  refine lv_ishr hx hb dX7_muHears_19 ?_
  refine lv_bipush (v := (7 : Int32)) hx hb dX7_muHears_20 (by decide) ?_
  refine lv_iand hx hb dX7_muHears_22 ?_
  refine lv_ishl hx hb dX7_muHears_23 ?_
  refine lv_sipush (v := (132 : Int32)) hx hb dX7_muHears_24 (by decide) ?_
  refine lv_isub hx hb dX7_muHears_27 ?_
  refine lv_topi (fun v3 e4 => ?_)
  have hf := pq_nmx hf v3 e4
  refine lv_istore_n (lv' := [(3, .int v3), (2, .int v1), (0, .ref th), (1, .int a1)]) hx hb dX7_muHears_28 rfl hl (by decide) rfl (fun ls hl => ?_)
  refine lv_iload_n hx hb dX7_muHears_29 rfl (lv_at hl 1 rfl) ?_
  refine lv_bipush (v := (127 : Int32)) hx hb dX7_muHears_30 (by decide) ?_
  refine lv_icmp_le (tgt := 40) hx hb dX7_muHears_32 (by decide) (fun h5 => ?_) (fun h5 => ?_)
  · have hf := pq_brt hf h5
    refine lv_iload_n hx hb dX7_muHears_40 rfl (lv_at hl 0 rfl) ?_
    obtain rfl := Option.some.inj hf
    exact hret _ _ _ ls hh dX7_muHears_41 rfl
  · have hf := pq_brf hf h5
    refine lv_iload_n hx hb dX7_muHears_35 rfl (lv_at hl 0 rfl) ?_
    refine lv_ineg hx hb dX7_muHears_36 ?_
    refine lv_goto (tgt := 41) hx hb dX7_muHears_37 (by decide) ?_
    obtain rfl := Option.some.inj hf
    exact hret _ _ _ ls hh dX7_muHears_41 rfl
set_option maxHeartbeats 4000000 in
set_option maxRecDepth 100000 in
theorem qX7_aSays (l : Launch) (D : va_G) (cI cL : ClassId) (th : Nat) (a1 : Int32) (res : Int32) (hf : fX7_aSays a1 = some res) : pq_CI l yX7_aSays qsX7_aSays 0 0 D cI cL [.ref th, .int a1] [] [] res := by
  refine pq_mkI (cc := cX7_aSays) (maxL := 5) (RT := .int) (by decide) rfl (Nat.le_of_ble_eq_true rfl) ?_
  intro p e s m args below meth c Q A C hh hret ls hl
  have hx := C.1
  have hb := C.2.1
  have hml := C.2.2.1
  have hown : s.vm.findClass RX7 = some m.cls := C.2.2.2.1
  have hs : ∀ w ∈ wsL_law, w ∈ qsX7_aSays := fun _ h => List.mem_cons_of_mem _ h
  have htw : ∀ w ∈ wsL_law, w.before args s = true := fun w h => C.2.2.2.2.1 w (hs w h)
  have hl : lv_has ls 5 [(0, .ref th), (1, .int a1)] := hl
  have J44 : ∀ (x1 : Int32) (x3 : Int32) (s0 : Int32) (H : Heap) (locs : List Loc), pq_H D A s [] H locs → ∀ ls : Array Slot, lv_has ls 5 [(1, .int x1), (3, .int x3)] → fX7_aSays_b44   x1 x3 s0 = some res → W p l e (pq_rm 0 0) s m args below meth c H locs 0 0 Q (F0 m 44 ls [.int s0]) := by
    intro x1 x3 s0 H locs hh ls hl hf
    rw [fX7_aSays_b44] at hf
    refine lv_istore (lv' := [(4, .int s0), (1, .int x1), (3, .int x3)]) hx hb dX7_aSays_44 hl (by decide) rfl (fun ls hl => ?_)
    refine lv_bipush (v := (16 : Int32)) hx hb dX7_aSays_46 (by decide) ?_
    refine lv_iload_n hx hb dX7_aSays_48 rfl (lv_at hl 2 rfl) ?_
    refine lv_imul hx hb dX7_aSays_49 ?_
    refine lv_iload hx hb dX7_aSays_50 (lv_at hl 0 rfl) ?_
    refine lv_bipush (v := (15 : Int32)) hx hb dX7_aSays_52 (by decide) ?_
    refine lv_iand hx hb dX7_aSays_54 ?_
    refine lv_iadd hx hb dX7_aSays_55 ?_
    refine lv_iload_n hx hb dX7_aSays_56 rfl (lv_at hl 1 rfl) ?_
    refine lv_if_lt (tgt := 66) hx hb dX7_aSays_57 (by decide) (fun h10 => ?_) (fun h10 => ?_)
    · have hf := pq_brt hf h10
      refine lv_bipush (v := (85 : Int32)) hx hb dX7_aSays_66 (by decide) ?_
      refine lv_ixor hx hb dX7_aSays_68 ?_
      obtain rfl := Option.some.inj hf
      exact hret _ _ _ ls hh dX7_aSays_69 rfl
    · have hf := pq_brf hf h10
      refine lv_sipush (v := (213 : Int32)) hx hb dX7_aSays_60 (by decide) ?_
      refine lv_goto (tgt := 68) hx hb dX7_aSays_63 (by decide) ?_
      refine lv_ixor hx hb dX7_aSays_68 ?_
      obtain rfl := Option.some.inj hf
      exact hret _ _ _ ls hh dX7_aSays_69 rfl
  have J15 : ∀ (fuel15 : Nat) (x1 : Int32) (x2 : Int32) (x3 : Int32) (H : Heap) (locs : List Loc), pq_H D A s [] H locs → ∀ ls : Array Slot, lv_has ls 5 [(1, .int x1), (2, .int x2), (3, .int x3)] → fX7_aSays_b15   fuel15 x1 x2 x3 = some res → W p l e (pq_rm 0 0) s m args below meth c H locs 0 0 Q (F0 m 15 ls []) := by
    intro fuel15
    induction fuel15 with
    | zero => intro x1 x2 x3 H locs hh ls hl hf; rw [fX7_aSays_b15] at hf; cases hf
    | succ fuel15 ih15 =>
      intro x1 x2 x3 H locs hh ls hl hf
      rw [fX7_aSays_b15] at hf
      refine lv_iload_n hx hb dX7_aSays_15 rfl (lv_at hl 1 rfl) ?_
      refine lv_bipush (v := (32 : Int32)) hx hb dX7_aSays_16 (by decide) ?_
      refine lv_iload_n hx hb dX7_aSays_18 rfl (lv_at hl 2 rfl) ?_
      refine lv_ishl hx hb dX7_aSays_19 ?_
      refine lv_icmp_lt (tgt := 30) hx hb dX7_aSays_20 (by decide) (fun h6 => ?_) (fun h6 => ?_)
      · have hf := pq_brt hf h6
        refine lv_iload_n hx hb dX7_aSays_30 rfl (lv_at hl 2 rfl) ?_
        refine lv_iconst (v := (2 : Int32)) hx hb dX7_aSays_31 (by decide) ?_
        refine lv_icmp_ge (tgt := 41) hx hb dX7_aSays_32 (by decide) (fun h7 => ?_) (fun h7 => ?_)
        · have hf := pq_brt hf h7
          refine lv_iload_n hx hb dX7_aSays_41 rfl (lv_at hl 1 rfl) ?_
          refine lv_iload_n hx hb dX7_aSays_42 rfl (lv_at hl 2 rfl) ?_
          refine lv_ishr hx hb dX7_aSays_43 ?_
          exact J44 x1 x3 (x2 >>> (x3 &&& 31)) _ _ hh ls (lv_sub hl [0, 2] rfl) hf
        · have hf := pq_brf hf h7
          refine lv_iload_n hx hb dX7_aSays_35 rfl (lv_at hl 1 rfl) ?_
          refine lv_iconst (v := (1 : Int32)) hx hb dX7_aSays_36 (by decide) ?_
          refine lv_ishr hx hb dX7_aSays_37 ?_
          refine lv_goto (tgt := 44) hx hb dX7_aSays_38 (by decide) ?_
          exact J44 x1 x3 (x2 >>> ((1 : Int32) &&& 31)) _ _ hh ls (lv_sub hl [0, 2] rfl) hf
      · have hf := pq_brf hf h6
        refine lv_iload_n hx hb dX7_aSays_23 rfl (lv_at hl 2 rfl) ?_
        refine lv_iconst (v := (1 : Int32)) hx hb dX7_aSays_24 (by decide) ?_
        refine lv_iadd hx hb dX7_aSays_25 ?_
        refine lv_topi (fun v8 e9 => ?_)
        have hf := pq_nmx hf v8 e9
        refine lv_istore_n (lv' := [(3, .int v8), (1, .int x1), (2, .int x2)]) hx hb dX7_aSays_26 rfl hl (by decide) rfl (fun ls hl => ?_)
        refine lv_goto (tgt := 15) hx hb dX7_aSays_27 (by decide) ?_
        exact ih15 x1 x2 v8 _ _ hh ls (lv_sub hl [1, 2, 0] rfl) hf
  have J13 : ∀ (x1 : Int32) (x2 : Int32) (H : Heap) (locs : List Loc), pq_H D A s [] H locs → ∀ ls : Array Slot, lv_has ls 5 [(1, .int x1), (2, .int x2)] → fX7_aSays_b13   x1 x2 = some res → W p l e (pq_rm 0 0) s m args below meth c H locs 0 0 Q (F0 m 13 ls []) := by
    intro x1 x2 H locs hh ls hl hf
    rw [fX7_aSays_b13] at hf
    refine lv_iconst (v := (0 : Int32)) hx hb dX7_aSays_13 (by decide) ?_
    refine lv_istore_n (lv' := [(3, .int (0 : Int32)), (1, .int x1), (2, .int x2)]) hx hb dX7_aSays_14 rfl hl (by decide) rfl (fun ls hl => ?_)
    exact J15 1100 x1 x2 (0 : Int32) _ _ hh ls (lv_sub hl [1, 2, 0] rfl) hf
  rw [fX7_aSays] at hf
  refine lv_iload_n hx hb dX7_aSays_0 rfl (lv_at hl 1 rfl) ?_
  refine lv_iconst (v := (3 : Int32)) hx hb dX7_aSays_1 (by decide) ?_
  refine lv_ishr hx hb dX7_aSays_2 ?_
  refine lv_topi (fun v1 e2 => ?_)
  have hf := pq_nmx hf v1 e2
  refine lv_istore_n (lv' := [(2, .int v1), (0, .ref th), (1, .int a1)]) hx hb dX7_aSays_3 rfl hl (by decide) rfl (fun ls hl => ?_)
  refine lv_iload_n hx hb dX7_aSays_4 rfl (lv_at hl 0 rfl) ?_
  refine lv_if_ge (tgt := 13) hx hb dX7_aSays_5 (by decide) (fun h3 => ?_) (fun h3 => ?_)
  · have hf := pq_brt hf h3
    exact J13 a1 v1 _ _ hh ls (lv_sub hl [2, 0] rfl) hf
  · have hf := pq_brf hf h3
    refine lv_iload_n hx hb dX7_aSays_8 rfl (lv_at hl 0 rfl) ?_
    refine lv_ineg hx hb dX7_aSays_9 ?_
    refine lv_iconst (v := (1 : Int32)) hx hb dX7_aSays_10 (by decide) ?_
    refine lv_isub hx hb dX7_aSays_11 ?_
    refine lv_topi (fun v4 e5 => ?_)
    have hf := pq_nmx hf v4 e5
    refine lv_istore_n (lv' := [(2, .int v4), (0, .ref th), (1, .int a1)]) hx hb dX7_aSays_12 rfl hl (by decide) rfl (fun ls hl => ?_)
    exact J13 a1 v4 _ _ hh ls (lv_sub hl [2, 0] rfl) hf
set_option maxHeartbeats 4000000 in
set_option maxRecDepth 100000 in
theorem qX7_aHears (l : Launch) (D : va_G) (cI cL : ClassId) (th : Nat) (a1 : Int32) (res : Int32) (hf : fX7_aHears a1 = some res) : pq_CI l yX7_aHears qsX7_aHears 0 0 D cI cL [.ref th, .int a1] [] [] res := by
  refine pq_mkI (cc := cX7_aHears) (maxL := 5) (RT := .int) (by decide) rfl (Nat.le_of_ble_eq_true rfl) ?_
  intro p e s m args below meth c Q A C hh hret ls hl
  have hx := C.1
  have hb := C.2.1
  have hml := C.2.2.1
  have hown : s.vm.findClass RX7 = some m.cls := C.2.2.2.1
  have hs : ∀ w ∈ wsL_law, w ∈ qsX7_aHears := fun _ h => List.mem_cons_of_mem _ h
  have htw : ∀ w ∈ wsL_law, w.before args s = true := fun w h => C.2.2.2.2.1 w (hs w h)
  have hl : lv_has ls 5 [(0, .ref th), (1, .int a1)] := hl
  have J40 : ∀ (x2 : Int32) (x3 : Int32) (H : Heap) (locs : List Loc), pq_H D A s [] H locs → ∀ ls : Array Slot, lv_has ls 5 [(2, .int x2), (3, .int x3)] → fX7_aHears_b40   x2 x3 = some res → W p l e (pq_rm 0 0) s m args below meth c H locs 0 0 Q (F0 m 40 ls []) := by
    intro x2 x3 H locs hh ls hl hf
    rw [fX7_aHears_b40] at hf
    refine lv_iload_n hx hb dX7_aHears_40 rfl (lv_at hl 0 rfl) ?_
    refine lv_bipush (v := (127 : Int32)) hx hb dX7_aHears_41 (by decide) ?_
    refine lv_icmp_le (tgt := 50) hx hb dX7_aHears_43 (by decide) (fun h10 => ?_) (fun h10 => ?_)
    · have hf := pq_brt hf h10
      refine lv_iload_n hx hb dX7_aHears_50 rfl (lv_at hl 1 rfl) ?_
      refine lv_ineg hx hb dX7_aHears_51 ?_
      obtain rfl := Option.some.inj hf
      exact hret _ _ _ ls hh dX7_aHears_52 rfl
    · have hf := pq_brf hf h10
      refine lv_iload_n hx hb dX7_aHears_46 rfl (lv_at hl 1 rfl) ?_
      refine lv_goto (tgt := 52) hx hb dX7_aHears_47 (by decide) ?_
      obtain rfl := Option.some.inj hf
      exact hret _ _ _ ls hh dX7_aHears_52 rfl
  rw [fX7_aHears] at hf
  refine lv_iload_n hx hb dX7_aHears_0 rfl (lv_at hl 1 rfl) ?_
  refine lv_bipush (v := (85 : Int32)) hx hb dX7_aHears_1 (by decide) ?_
  refine lv_ixor hx hb dX7_aHears_3 ?_
  refine lv_topi (fun v1 e2 => ?_)
  have hf := pq_nmx hf v1 e2
  refine lv_istore_n (lv' := [(2, .int v1), (0, .ref th), (1, .int a1)]) hx hb dX7_aHears_4 rfl hl (by decide) rfl (fun ls hl => ?_)
  refine lv_bipush (v := (16 : Int32)) hx hb dX7_aHears_5 (by decide) ?_
  refine lv_iload_n hx hb dX7_aHears_7 rfl (lv_at hl 0 rfl) ?_
  refine lv_bipush (v := (15 : Int32)) hx hb dX7_aHears_8 (by decide) ?_
  refine lv_iand hx hb dX7_aHears_10 ?_
  refine lv_imul hx hb dX7_aHears_11 ?_
  refine lv_bipush (v := (8 : Int32)) hx hb dX7_aHears_12 (by decide) ?_
  refine lv_iadd hx hb dX7_aHears_14 ?_
  refine lv_topi (fun v3 e4 => ?_)
  have hf := pq_nmx hf v3 e4
  refine lv_istore_n (lv' := [(3, .int v3), (2, .int v1), (0, .ref th), (1, .int a1)]) hx hb dX7_aHears_15 rfl hl (by decide) rfl (fun ls hl => ?_)
  refine lv_iload_n hx hb dX7_aHears_16 rfl (lv_at hl 1 rfl) ?_
  refine lv_iconst (v := (4 : Int32)) hx hb dX7_aHears_17 (by decide) ?_
  refine lv_ishr hx hb dX7_aHears_18 ?_
  refine lv_bipush (v := (7 : Int32)) hx hb dX7_aHears_19 (by decide) ?_
  refine lv_iand hx hb dX7_aHears_21 ?_
  refine lv_topi (fun v5 e6 => ?_)
  have hf := pq_nmx hf v5 e6
  refine lv_istore (lv' := [(4, .int v5), (3, .int v3), (2, .int v1), (0, .ref th), (1, .int a1)]) hx hb dX7_aHears_22 hl (by decide) rfl (fun ls hl => ?_)
  refine lv_iload hx hb dX7_aHears_24 (lv_at hl 0 rfl) ?_
  refine lv_if_le (tgt := 40) hx hb dX7_aHears_26 (by decide) (fun h7 => ?_) (fun h7 => ?_)
  · have hf := pq_brt hf h7
    exact J40 v1 v3 _ _ hh ls (lv_sub hl [2, 1] rfl) hf
  · have hf := pq_brf hf h7
    refine lv_iload_n hx hb dX7_aHears_29 rfl (lv_at hl 1 rfl) ?_
    refine lv_sipush (v := (256 : Int32)) hx hb dX7_aHears_30 (by decide) ?_
    refine lv_iadd hx hb dX7_aHears_33 ?_
    refine lv_iload hx hb dX7_aHears_34 (lv_at hl 0 rfl) ?_
    refine lv_iconst (v := (1 : Int32)) hx hb dX7_aHears_36 (by decide) ?_
    refine lv_isub hx hb dX7_aHears_37 ?_
    refine lv_ishl hx hb dX7_aHears_38 ?_
    refine lv_topi (fun v8 e9 => ?_)
    have hf := pq_nmx hf v8 e9
    refine lv_istore_n (lv' := [(3, .int v8), (4, .int v5), (2, .int v1), (0, .ref th), (1, .int a1)]) hx hb dX7_aHears_39 rfl hl (by decide) rfl (fun ls hl => ?_)
    exact J40 v1 v8 _ _ hh ls (lv_sub hl [2, 0] rfl) hf
set_option maxHeartbeats 4000000 in
set_option maxRecDepth 100000 in
theorem qX7_bound (l : Launch) (D : va_G) (cI cL : ClassId) (th : Nat) (ad : Nat → Nat) (c_told : Int32) (c_sumZ : Int32) (c_sumE : Int32) (c_stepY : Int32) (c_odd : Int32) (c_even : Int32) (c_taped : Int32) (c_outs : Int32) (c_isFound : Int32) (f_bounds2 : Nat → Int32) (f_bounds3 : Nat → Int32) (f_bounds4 : Nat → Int32) (f_bounds5 : Nat → Int32) (a1 : Int32) (a2 : Int32) (res : Int32) (hf : fX7_bound a1 a2 f_bounds2 f_bounds3 f_bounds4 f_bounds5 = some res) : pq_CI l yX7_bound qsX7_bound 0 0 D cI cL [.ref th, .int a1, .int a2] (wX7_bound cI th ad c_told c_sumZ c_sumE c_stepY c_odd c_even c_taped c_outs c_isFound f_bounds2 f_bounds3 f_bounds4 f_bounds5) (wX7_bound cI th ad c_told c_sumZ c_sumE c_stepY c_odd c_even c_taped c_outs c_isFound f_bounds2 f_bounds3 f_bounds4 f_bounds5) res := by
  refine pq_mkI (cc := cX7_bound) (maxL := 3) (RT := .int) (by decide) rfl (Nat.le_of_ble_eq_true rfl) ?_
  intro p e s m args below meth c Q A C hh hret ls hl
  have hx := C.1
  have hb := C.2.1
  have hml := C.2.2.1
  have hown : s.vm.findClass RX7 = some m.cls := C.2.2.2.1
  have hs : ∀ w ∈ wsL_law, w ∈ qsX7_bound := fun _ h => List.mem_cons_of_mem _ h
  have htw : ∀ w ∈ wsL_law, w.before args s = true := fun w h => C.2.2.2.2.1 w (hs w h)
  have hl : lv_has ls 3 [(0, .ref th), (1, .int a1), (2, .int a2)] := hl
  have i7 : ∀ w ∈ wsX70, w ∈ qsX7_bound := fun w h => hs w (pq_i7 w h)
  have kf20 := htw (.fieldLink RX7 20 "VoiceDeskModel" "bounds2" "[I") (pq_m4 _ (List.mem_of_getElem? (i := 0) rfl))
  have kf23 := htw (.fieldLink RX7 23 "VoiceDeskModel" "bounds3" "[I") (pq_m4 _ (List.mem_of_getElem? (i := 1) rfl))
  have kf26 := htw (.fieldLink RX7 26 "VoiceDeskModel" "bounds4" "[I") (pq_m4 _ (List.mem_of_getElem? (i := 2) rfl))
  have kf29 := htw (.fieldLink RX7 29 "VoiceDeskModel" "bounds5" "[I") (pq_m4 _ (List.mem_of_getElem? (i := 3) rfl))
  rw [fX7_bound] at hf
  refine lv_iload_n hx hb dX7_bound_0 rfl (lv_at hl 1 rfl) ?_
  refine lv_iconst (v := (2 : Int32)) hx hb dX7_bound_1 (by decide) ?_
  refine lv_icmp_ne (tgt := 12) hx hb dX7_bound_2 (by decide) (fun h1 => ?_) (fun h1 => ?_)
  · have hf := pq_brf hf h1
    refine lv_iload_n hx hb dX7_bound_12 rfl (lv_at hl 1 rfl) ?_
    refine lv_iconst (v := (3 : Int32)) hx hb dX7_bound_13 (by decide) ?_
    refine lv_icmp_ne (tgt := 24) hx hb dX7_bound_14 (by decide) (fun h2 => ?_) (fun h2 => ?_)
    · have hf := pq_brf hf h2
      refine lv_iload_n hx hb dX7_bound_24 rfl (lv_at hl 1 rfl) ?_
      refine lv_iconst (v := (4 : Int32)) hx hb dX7_bound_25 (by decide) ?_
      refine lv_icmp_ne (tgt := 38) hx hb dX7_bound_26 (by decide) (fun h3 => ?_) (fun h3 => ?_)
      · have hf := pq_brf hf h3
        refine lv_aload_n hx hb dX7_bound_38 rfl (lv_at hl 0 rfl) ?_
        refine pq_get C hh i7 0 6 rfl rfl 7 (by decide) kf29 rfl rfl dX7_bound_39 ?_
        refine lv_iload_n hx hb dX7_bound_42 rfl (lv_at hl 2 rfl) ?_
        obtain ⟨h4, hf⟩ := pq_rdx hf
        refine pq_iald C hh 4 rfl h4 dX7_bound_43 (fun v5 e6 => ?_)
        have hf := hf v5 e6
        obtain rfl := Option.some.inj hf
        exact hret _ _ _ ls hh dX7_bound_44 rfl
      · have hf := pq_brt hf h3
        refine lv_aload_n hx hb dX7_bound_29 rfl (lv_at hl 0 rfl) ?_
        refine pq_get C hh i7 0 6 rfl rfl 6 (by decide) kf26 rfl rfl dX7_bound_30 ?_
        refine lv_iload_n hx hb dX7_bound_33 rfl (lv_at hl 2 rfl) ?_
        obtain ⟨h7, hf⟩ := pq_rdx hf
        refine pq_iald C hh 3 rfl h7 dX7_bound_34 (fun v8 e9 => ?_)
        have hf := hf v8 e9
        refine lv_goto (tgt := 44) hx hb dX7_bound_35 (by decide) ?_
        obtain rfl := Option.some.inj hf
        exact hret _ _ _ ls hh dX7_bound_44 rfl
    · have hf := pq_brt hf h2
      refine lv_aload_n hx hb dX7_bound_17 rfl (lv_at hl 0 rfl) ?_
      refine pq_get C hh i7 0 6 rfl rfl 5 (by decide) kf23 rfl rfl dX7_bound_18 ?_
      refine lv_iload_n hx hb dX7_bound_21 rfl (lv_at hl 2 rfl) ?_
      obtain ⟨h10, hf⟩ := pq_rdx hf
      refine pq_iald C hh 2 rfl h10 dX7_bound_22 (fun v11 e12 => ?_)
      have hf := hf v11 e12
      obtain rfl := Option.some.inj hf
      exact hret _ _ _ ls hh dX7_bound_23 rfl
  · have hf := pq_brt hf h1
    refine lv_aload_n hx hb dX7_bound_5 rfl (lv_at hl 0 rfl) ?_
    refine pq_get C hh i7 0 6 rfl rfl 4 (by decide) kf20 rfl rfl dX7_bound_6 ?_
    refine lv_iload_n hx hb dX7_bound_9 rfl (lv_at hl 2 rfl) ?_
    obtain ⟨h13, hf⟩ := pq_rdx hf
    refine pq_iald C hh 1 rfl h13 dX7_bound_10 (fun v14 e15 => ?_)
    have hf := hf v14 e15
    obtain rfl := Option.some.inj hf
    exact hret _ _ _ ls hh dX7_bound_11 rfl
set_option maxHeartbeats 4000000 in
set_option maxRecDepth 100000 in
theorem qX7_half (l : Launch) (D : va_G) (cI cL : ClassId) (th : Nat) (a1 : Int32) (a2 : Int32) (res : Int32) (hf : fX7_half a1 a2 = some res) : pq_CI l yX7_half qsX7_half 0 0 D cI cL [.ref th, .int a1, .int a2] [] [] res := by
  refine pq_mkI (cc := cX7_half) (maxL := 3) (RT := .int) (by decide) rfl (Nat.le_of_ble_eq_true rfl) ?_
  intro p e s m args below meth c Q A C hh hret ls hl
  have hx := C.1
  have hb := C.2.1
  have hml := C.2.2.1
  have hown : s.vm.findClass RX7 = some m.cls := C.2.2.2.1
  have hs : ∀ w ∈ wsL_law, w ∈ qsX7_half := fun _ h => List.mem_cons_of_mem _ h
  have htw : ∀ w ∈ wsL_law, w.before args s = true := fun w h => C.2.2.2.2.1 w (hs w h)
  have hl : lv_has ls 3 [(0, .ref th), (1, .int a1), (2, .int a2)] := hl
  rw [fX7_half] at hf
  refine lv_iload_n hx hb dX7_half_0 rfl (lv_at hl 2 rfl) ?_
  refine lv_iload_n hx hb dX7_half_1 rfl (lv_at hl 1 rfl) ?_
  refine lv_iconst (v := (1 : Int32)) hx hb dX7_half_2 (by decide) ?_
  refine lv_isub hx hb dX7_half_3 ?_
  refine lv_ishr hx hb dX7_half_4 ?_
  refine lv_if_ne (tgt := 12) hx hb dX7_half_5 (by decide) (fun h1 => ?_) (fun h1 => ?_)
  · have hf := pq_brf hf h1
    refine lv_iconst (v := (1 : Int32)) hx hb dX7_half_12 (by decide) ?_
    refine lv_iload_n hx hb dX7_half_13 rfl (lv_at hl 1 rfl) ?_
    refine lv_ishl hx hb dX7_half_14 ?_
    refine lv_iconst (v := (1 : Int32)) hx hb dX7_half_15 (by decide) ?_
    refine lv_isub hx hb dX7_half_16 ?_
    refine lv_iload_n hx hb dX7_half_17 rfl (lv_at hl 2 rfl) ?_
    refine lv_isub hx hb dX7_half_18 ?_
    obtain rfl := Option.some.inj hf
    exact hret _ _ _ ls hh dX7_half_19 rfl
  · have hf := pq_brt hf h1
    refine lv_iload_n hx hb dX7_half_8 rfl (lv_at hl 2 rfl) ?_
    refine lv_goto (tgt := 19) hx hb dX7_half_9 (by decide) ?_
    obtain rfl := Option.some.inj hf
    exact hret _ _ _ ls hh dX7_half_19 rfl
set_option maxHeartbeats 4000000 in
set_option maxRecDepth 100000 in
theorem qX7_table (l : Launch) (D : va_G) (cI cL : ClassId) (th : Nat) (ad : Nat → Nat) (c_told : Int32) (c_sumZ : Int32) (c_sumE : Int32) (c_stepY : Int32) (c_odd : Int32) (c_even : Int32) (c_taped : Int32) (c_outs : Int32) (c_isFound : Int32) (f_table2 : Nat → Int32) (f_table3 : Nat → Int32) (f_table4 : Nat → Int32) (f_table5 : Nat → Int32) (a1 : Int32) (a2 : Int32) (res : Int32) (hf : fX7_table a1 a2 f_table2 f_table3 f_table4 f_table5 = some res) : pq_CI l yX7_table qsX7_table 1 22 D cI cL [.ref th, .int a1, .int a2] (wX7_table cI th ad c_told c_sumZ c_sumE c_stepY c_odd c_even c_taped c_outs c_isFound f_table2 f_table3 f_table4 f_table5) (wX7_table cI th ad c_told c_sumZ c_sumE c_stepY c_odd c_even c_taped c_outs c_isFound f_table2 f_table3 f_table4 f_table5) res := by
  refine pq_mkI (cc := cX7_table) (maxL := 4) (RT := .int) (by decide) rfl (Nat.le_of_ble_eq_true rfl) ?_
  intro p e s m args below meth c Q A C hh hret ls hl
  have hx := C.1
  have hb := C.2.1
  have hml := C.2.2.1
  have hown : s.vm.findClass RX7 = some m.cls := C.2.2.2.1
  have hs : ∀ w ∈ wsL_law, w ∈ qsX7_table := fun _ h => List.mem_cons_of_mem _ h
  have htw : ∀ w ∈ wsL_law, w.before args s = true := fun w h => C.2.2.2.2.1 w (hs w h)
  have hl : lv_has ls 4 [(0, .ref th), (1, .int a1), (2, .int a2)] := hl
  have i7 : ∀ w ∈ wsX70, w ∈ qsX7_table := fun w h => hs w (pq_i7 w h)
  have kf32 := htw (.fieldLink RX7 32 "VoiceDeskModel" "table2" "[I") (pq_m4 _ (List.mem_of_getElem? (i := 4) rfl))
  have kf35 := htw (.fieldLink RX7 35 "VoiceDeskModel" "table3" "[I") (pq_m4 _ (List.mem_of_getElem? (i := 5) rfl))
  have kf38 := htw (.fieldLink RX7 38 "VoiceDeskModel" "table4" "[I") (pq_m4 _ (List.mem_of_getElem? (i := 6) rfl))
  have kf41 := htw (.fieldLink RX7 41 "VoiceDeskModel" "table5" "[I") (pq_m4 _ (List.mem_of_getElem? (i := 7) rfl))
  rw [fX7_table] at hf
  refine lv_aload_n hx hb dX7_table_0 rfl (lv_at hl 0 rfl) ?_
  refine lv_iload_n hx hb dX7_table_1 rfl (lv_at hl 1 rfl) ?_
  refine lv_iload_n hx hb dX7_table_2 rfl (lv_at hl 2 rfl) ?_
  obtain ⟨r1, hu2, hf⟩ := pq_clx hf
  refine pq_cvI (n := 2) (As := [.int a1, .int a2]) C hh (qX7_half l D cI cL th a1 a2 r1 hu2) (gvX7_half hs (pq_m18 _ (List.mem_of_getElem? (i := 11) rfl))) rfl (by decide +kernel) ⟨Nat.le_of_ble_eq_true rfl, Nat.le_of_ble_eq_true rfl⟩ 0 6 rfl rfl rfl hl.1 rfl rfl (Nat.le_of_ble_eq_true rfl) dX7_table_3 ⟨Nat.zero_le _, Nat.zero_le _⟩ [] [0, 1, 2, 3, 4] [0, 1, 2, 3, 4] rfl rfl (by decide) (by decide) (by decide) rfl (fun H locs (hh : pq_H D A s (wX7_table cI th ad c_told c_sumZ c_sumE c_stepY c_odd c_even c_taped c_outs c_isFound f_table2 f_table3 f_table4 f_table5) H locs) => ?_)
  refine lv_istore_n (lv' := [(3, .int r1), (0, .ref th), (1, .int a1), (2, .int a2)]) hx hb dX7_table_6 rfl hl (by decide) rfl (fun ls hl => ?_)
  refine lv_iload_n hx hb dX7_table_7 rfl (lv_at hl 2 rfl) ?_
  refine lv_iconst (v := (2 : Int32)) hx hb dX7_table_8 (by decide) ?_
  refine lv_icmp_ne (tgt := 19) hx hb dX7_table_9 (by decide) (fun h3 => ?_) (fun h3 => ?_)
  · have hf := pq_brf hf h3
    refine lv_iload_n hx hb dX7_table_19 rfl (lv_at hl 2 rfl) ?_
    refine lv_iconst (v := (3 : Int32)) hx hb dX7_table_20 (by decide) ?_
    refine lv_icmp_ne (tgt := 31) hx hb dX7_table_21 (by decide) (fun h4 => ?_) (fun h4 => ?_)
    · have hf := pq_brf hf h4
      refine lv_iload_n hx hb dX7_table_31 rfl (lv_at hl 2 rfl) ?_
      refine lv_iconst (v := (4 : Int32)) hx hb dX7_table_32 (by decide) ?_
      refine lv_icmp_ne (tgt := 45) hx hb dX7_table_33 (by decide) (fun h5 => ?_) (fun h5 => ?_)
      · have hf := pq_brf hf h5
        refine lv_aload_n hx hb dX7_table_45 rfl (lv_at hl 1 rfl) ?_
        refine pq_get C hh i7 0 6 rfl rfl 11 (by decide) kf41 rfl rfl dX7_table_46 ?_
        refine lv_iload_n hx hb dX7_table_49 rfl (lv_at hl 0 rfl) ?_
        obtain ⟨h6, hf⟩ := pq_rdx hf
        refine pq_iald C hh 4 rfl h6 dX7_table_50 (fun v7 e8 => ?_)
        have hf := hf v7 e8
        obtain rfl := Option.some.inj hf
        exact hret _ _ _ ls hh dX7_table_51 rfl
      · have hf := pq_brt hf h5
        refine lv_aload_n hx hb dX7_table_36 rfl (lv_at hl 1 rfl) ?_
        refine pq_get C hh i7 0 6 rfl rfl 10 (by decide) kf38 rfl rfl dX7_table_37 ?_
        refine lv_iload_n hx hb dX7_table_40 rfl (lv_at hl 0 rfl) ?_
        obtain ⟨h9, hf⟩ := pq_rdx hf
        refine pq_iald C hh 3 rfl h9 dX7_table_41 (fun v10 e11 => ?_)
        have hf := hf v10 e11
        refine lv_goto (tgt := 51) hx hb dX7_table_42 (by decide) ?_
        obtain rfl := Option.some.inj hf
        exact hret _ _ _ ls hh dX7_table_51 rfl
    · have hf := pq_brt hf h4
      refine lv_aload_n hx hb dX7_table_24 rfl (lv_at hl 1 rfl) ?_
      refine pq_get C hh i7 0 6 rfl rfl 9 (by decide) kf35 rfl rfl dX7_table_25 ?_
      refine lv_iload_n hx hb dX7_table_28 rfl (lv_at hl 0 rfl) ?_
      obtain ⟨h12, hf⟩ := pq_rdx hf
      refine pq_iald C hh 2 rfl h12 dX7_table_29 (fun v13 e14 => ?_)
      have hf := hf v13 e14
      obtain rfl := Option.some.inj hf
      exact hret _ _ _ ls hh dX7_table_30 rfl
  · have hf := pq_brt hf h3
    refine lv_aload_n hx hb dX7_table_12 rfl (lv_at hl 1 rfl) ?_
    refine pq_get C hh i7 0 6 rfl rfl 8 (by decide) kf32 rfl rfl dX7_table_13 ?_
    refine lv_iload_n hx hb dX7_table_16 rfl (lv_at hl 0 rfl) ?_
    obtain ⟨h15, hf⟩ := pq_rdx hf
    refine pq_iald C hh 1 rfl h15 dX7_table_17 (fun v16 e17 => ?_)
    have hf := hf v16 e17
    obtain rfl := Option.some.inj hf
    exact hret _ _ _ ls hh dX7_table_18 rfl
