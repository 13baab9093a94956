set_option maxHeartbeats 4000000 in
set_option maxRecDepth 100000 in
theorem qX7_goesOn (l : Launch) (D : va_G) (cI cL : ClassId) (th : Nat) (ad : Nat → Nat) (c_told : Int32) (c_sumZ : Int32) (c_sumE : Int32) (c_stepY : Int32) (c_odd : Int32) (c_even : Int32) (c_taped : Int32) (c_outs : Int32) (c_isFound : Int32) (f_bands : Nat → Int32) (a1 : Int32) (a2 : Int32) (res : (Nat → Int32)) (hf : fX7_goesOn a1 a2 f_bands = some res) : pq_CV l yX7_goesOn qsX7_goesOn 1 23 D cI cL [.ref th, .int a1, .int a2] (wX7_goesOn cI th ad c_told c_sumZ c_sumE c_stepY c_odd c_even c_taped c_outs c_isFound f_bands) (wX7_goesOn cI th ad c_told c_sumZ c_sumE c_stepY c_odd c_even c_taped c_outs c_isFound res) := by
  refine pq_mkV (cc := cX7_goesOn) (maxL := 14) (by decide) rfl (Nat.le_of_ble_eq_true rfl) ?_
  intro p e s m args below meth c Q A C hh hret ls hl
  have hx := C.1
  have hb := C.2.1
  have hml := C.2.2.1
  have hown : s.vm.findClass RX7 = some m.cls := C.2.2.2.1
  have hs : ∀ w ∈ wsL_law, w ∈ qsX7_goesOn := fun _ h => List.mem_cons_of_mem _ h
  have htw : ∀ w ∈ wsL_law, w.before args s = true := fun w h => C.2.2.2.2.1 w (hs w h)
  have hl : lv_has ls 14 [(0, .ref th), (1, .int a1), (2, .int a2)] := hl
  have i7 : ∀ w ∈ wsX70, w ∈ qsX7_goesOn := fun w h => hs w (pq_i7 w h)
  have kf69 := htw (.fieldLink RX7 69 "VoiceDeskModel" "bands" "[I") (pq_m4 _ (List.mem_of_getElem? (i := 17) rfl))
  have J535 : ∀ (fuel535 : Nat) (x1 : Int32) (x12 : Int32) (x13 : Int32) (f_bands : Nat → Int32) (H : Heap) (locs : List Loc), pq_H D A s (wX7_goesOn cI th ad c_told c_sumZ c_sumE c_stepY c_odd c_even c_taped c_outs c_isFound f_bands) H locs → ∀ ls : Array Slot, lv_has ls 14 [(0, .ref th), (1, .int x1), (12, .int x12), (13, .int x13)] → fX7_goesOn_b535   fuel535 x1 x12 x13 f_bands = some res → W p l e (pq_rm 1 23) s m args below meth c H locs 0 0 Q (F0 m 535 ls []) := by
    intro fuel535
    induction fuel535 with
    | zero => intro x1 x12 x13 f_bands H locs hh ls hl hf; rw [fX7_goesOn_b535] at hf; cases hf
    | succ fuel535 ih535 =>
      intro x1 x12 x13 f_bands H locs hh ls hl hf
      rw [fX7_goesOn_b535] at hf
      refine lv_iload hx hb dX7_goesOn_535 (lv_at hl 3 rfl) ?_
      refine lv_bipush (v := (6 : Int32)) hx hb dX7_goesOn_537 (by decide) ?_
      refine lv_icmp_ge (tgt := 587) hx hb dX7_goesOn_539 (by decide) (fun h138 => ?_) (fun h138 => ?_)
      · have hf := pq_brt hf h138
        refine lv_aload_n hx hb dX7_goesOn_587 rfl (lv_at hl 0 rfl) ?_
        refine pq_get C hh i7 0 6 rfl rfl 23 (by decide) kf69 rfl rfl dX7_goesOn_588 ?_
        refine lv_iload_n hx hb dX7_goesOn_591 rfl (lv_at hl 1 rfl) ?_
        refine lv_iconst (v := (4 : Int32)) hx hb dX7_goesOn_592 (by decide) ?_
        refine lv_iadd hx hb dX7_goesOn_593 ?_
        refine lv_aload_n hx hb dX7_goesOn_594 rfl (lv_at hl 0 rfl) ?_
        refine lv_iload hx hb dX7_goesOn_595 (lv_at hl 2 rfl) ?_
        obtain ⟨r139, hu140, hf⟩ := pq_clx hf
        refine pq_cvI (n := 1) (As := [.int x12]) C hh (qX7_limited l D cI cL th x12 r139 hu140) (gvX7_limited hs (pq_m19 _ (List.mem_of_getElem? (i := 11) rfl))) rfl (by decide +kernel) ⟨Nat.le_of_ble_eq_true rfl, Nat.le_of_ble_eq_true rfl⟩ 0 6 rfl rfl rfl hl.1 rfl rfl (Nat.le_of_ble_eq_true rfl) dX7_goesOn_597 ⟨Nat.zero_le _, Nat.zero_le _⟩ [] [0, 1] [0, 1] rfl rfl (by decide) (by decide) (by decide) rfl (fun H locs (hh : pq_H D A s (wX7_goesOn cI th ad c_told c_sumZ c_sumE c_stepY c_odd c_even c_taped c_outs c_isFound f_bands) H locs) => ?_)
        obtain ⟨h141, hf⟩ := pq_wrx hf
        refine pq_iast C hh 1 rfl h141 dX7_goesOn_600 (fun H locs f142 e143 (hh : pq_H D A s (wX7_goesOn cI th ad c_told c_sumZ c_sumE c_stepY c_odd c_even c_taped c_outs c_isFound f142) H locs) => ?_)
        have hf := hf f142 e143
        refine lv_aload_n hx hb dX7_goesOn_601 rfl (lv_at hl 0 rfl) ?_
        refine pq_get C hh i7 0 6 rfl rfl 23 (by decide) kf69 rfl rfl dX7_goesOn_602 ?_
        refine lv_iload_n hx hb dX7_goesOn_605 rfl (lv_at hl 1 rfl) ?_
        refine lv_iconst (v := (2 : Int32)) hx hb dX7_goesOn_606 (by decide) ?_
        refine lv_iadd hx hb dX7_goesOn_607 ?_
        refine lv_aload_n hx hb dX7_goesOn_608 rfl (lv_at hl 0 rfl) ?_
        refine lv_aload_n hx hb dX7_goesOn_609 rfl (lv_at hl 0 rfl) ?_
        refine pq_get C hh i7 0 6 rfl rfl 23 (by decide) kf69 rfl rfl dX7_goesOn_610 ?_
        refine lv_iload_n hx hb dX7_goesOn_613 rfl (lv_at hl 1 rfl) ?_
        refine lv_iconst (v := (3 : Int32)) hx hb dX7_goesOn_614 (by decide) ?_
        refine lv_iadd hx hb dX7_goesOn_615 ?_
        obtain ⟨h144, hf⟩ := pq_rdx hf
        refine pq_iald C hh 1 rfl h144 dX7_goesOn_616 (fun v145 e146 => ?_)
        have hf := hf v145 e146
        refine lv_aload_n hx hb dX7_goesOn_617 rfl (lv_at hl 0 rfl) ?_
        refine pq_get C hh i7 0 6 rfl rfl 23 (by decide) kf69 rfl rfl dX7_goesOn_618 ?_
        refine lv_iload_n hx hb dX7_goesOn_621 rfl (lv_at hl 1 rfl) ?_
        refine lv_iconst (v := (4 : Int32)) hx hb dX7_goesOn_622 (by decide) ?_
        refine lv_iadd hx hb dX7_goesOn_623 ?_
        obtain ⟨h147, hf⟩ := pq_rdx hf
        refine pq_iald C hh 1 rfl h147 dX7_goesOn_624 (fun v148 e149 => ?_)
        have hf := hf v148 e149
        refine lv_iadd hx hb dX7_goesOn_625 ?_
        obtain ⟨r150, hu151, hf⟩ := pq_clx hf
        refine pq_cvI (n := 1) (As := [.int (v145 + v148)]) C hh (qX7_limited l D cI cL th (v145 + v148) r150 hu151) (gvX7_limited hs (pq_m19 _ (List.mem_of_getElem? (i := 11) rfl))) rfl (by decide +kernel) ⟨Nat.le_of_ble_eq_true rfl, Nat.le_of_ble_eq_true rfl⟩ 0 6 rfl rfl rfl hl.1 rfl rfl (Nat.le_of_ble_eq_true rfl) dX7_goesOn_626 ⟨Nat.zero_le _, Nat.zero_le _⟩ [] [0, 1] [0, 1] rfl rfl (by decide) (by decide) (by decide) rfl (fun H locs (hh : pq_H D A s (wX7_goesOn cI th ad c_told c_sumZ c_sumE c_stepY c_odd c_even c_taped c_outs c_isFound f142) H locs) => ?_)
        obtain ⟨h152, hf⟩ := pq_wrx hf
        refine pq_iast C hh 1 rfl h152 dX7_goesOn_629 (fun H locs f153 e154 (hh : pq_H D A s (wX7_goesOn cI th ad c_told c_sumZ c_sumE c_stepY c_odd c_even c_taped c_outs c_isFound f153) H locs) => ?_)
        have hf := hf f153 e154
        obtain rfl := Option.some.inj hf
        exact hret _ _ _ ls hh dX7_goesOn_630
      · have hf := pq_brf hf h138
        refine lv_iload hx hb dX7_goesOn_542 (lv_at hl 2 rfl) ?_
        refine lv_aload_n hx hb dX7_goesOn_544 rfl (lv_at hl 0 rfl) ?_
        refine pq_get C hh i7 0 6 rfl rfl 23 (by decide) kf69 rfl rfl dX7_goesOn_545 ?_
        refine lv_iload_n hx hb dX7_goesOn_548 rfl (lv_at hl 1 rfl) ?_
        refine lv_bipush (v := (7 : Int32)) hx hb dX7_goesOn_549 (by decide) ?_
        refine lv_iadd hx hb dX7_goesOn_551 ?_
        refine lv_iload hx hb dX7_goesOn_552 (lv_at hl 3 rfl) ?_
        refine lv_iadd hx hb dX7_goesOn_554 ?_
        obtain ⟨h155, hf⟩ := pq_rdx hf
        refine pq_iald C hh 1 rfl h155 dX7_goesOn_555 (fun v156 e157 => ?_)
        have hf := hf v156 e157
        refine lv_aload_n hx hb dX7_goesOn_556 rfl (lv_at hl 0 rfl) ?_
        refine lv_iconst (v := (2 : Int32)) hx hb dX7_goesOn_557 (by decide) ?_
        refine lv_aload_n hx hb dX7_goesOn_558 rfl (lv_at hl 0 rfl) ?_
        refine pq_get C hh i7 0 6 rfl rfl 23 (by decide) kf69 rfl rfl dX7_goesOn_559 ?_
        refine lv_iload_n hx hb dX7_goesOn_562 rfl (lv_at hl 1 rfl) ?_
        refine lv_bipush (v := (17 : Int32)) hx hb dX7_goesOn_563 (by decide) ?_
        refine lv_iadd hx hb dX7_goesOn_565 ?_
        refine lv_iload hx hb dX7_goesOn_566 (lv_at hl 3 rfl) ?_
        refine lv_iadd hx hb dX7_goesOn_568 ?_
        obtain ⟨h158, hf⟩ := pq_rdx hf
        refine pq_iald C hh 1 rfl h158 dX7_goesOn_569 (fun v159 e160 => ?_)
        have hf := hf v159 e160
        refine lv_imul hx hb dX7_goesOn_570 ?_
        obtain ⟨r161, hu162, hf⟩ := pq_clx hf
        refine pq_cvI (n := 1) (As := [.int ((2 : Int32) * v159)]) C hh (qX7_limited l D cI cL th ((2 : Int32) * v159) r161 hu162) (gvX7_limited hs (pq_m19 _ (List.mem_of_getElem? (i := 11) rfl))) rfl (by decide +kernel) ⟨Nat.le_of_ble_eq_true rfl, Nat.le_of_ble_eq_true rfl⟩ 0 6 rfl rfl rfl hl.1 rfl rfl (Nat.le_of_ble_eq_true rfl) dX7_goesOn_571 ⟨Nat.zero_le _, Nat.zero_le _⟩ [] [0, 1] [0, 1] rfl rfl (by decide) (by decide) (by decide) rfl (fun H locs (hh : pq_H D A s (wX7_goesOn cI th ad c_told c_sumZ c_sumE c_stepY c_odd c_even c_taped c_outs c_isFound f_bands) H locs) => ?_)
        refine lv_imul hx hb dX7_goesOn_574 ?_
        refine lv_bipush (v := (15 : Int32)) hx hb dX7_goesOn_575 (by decide) ?_
        refine lv_ishr hx hb dX7_goesOn_577 ?_
        refine lv_iadd hx hb dX7_goesOn_578 ?_
        refine lv_topi (fun v163 e164 => ?_)
        have hf := pq_nmx hf v163 e164
        refine lv_istore (lv' := [(12, .int v163), (0, .ref th), (1, .int x1), (13, .int x13)]) hx hb dX7_goesOn_579 hl (by decide) rfl (fun ls hl => ?_)
        obtain ⟨v165, e166⟩ : ∃ y : Int32, y = x13 + (1 : Int32) := ⟨_, rfl⟩
        refine lv_iinc (v := v165) (lv' := [(13, .int v165), (12, .int v163), (0, .ref th), (1, .int x1)]) hx hb dX7_goesOn_581 hl (k := 3) rfl (by rw [e166]; rfl) (by decide) rfl (fun ls hl => ?_)
        have hf := pq_nmx hf v165 e166
        refine lv_goto (tgt := 535) hx hb dX7_goesOn_584 (by decide) ?_
        exact ih535 x1 v163 v165 f_bands _ _ hh ls (lv_sub hl [2, 3, 1, 0] rfl) hf
  have J356 : ∀ (fuel356 : Nat) (x1 : Int32) (x2 : Int32) (x3 : Int32) (x4 : Int32) (x5 : Int32) (x10 : Int32) (f_bands : Nat → Int32) (H : Heap) (locs : List Loc), pq_H D A s (wX7_goesOn cI th ad c_told c_sumZ c_sumE c_stepY c_odd c_even c_taped c_outs c_isFound f_bands) H locs → ∀ ls : Array Slot, lv_has ls 14 [(0, .ref th), (1, .int x1), (2, .int x2), (3, .int x3), (4, .int x4), (5, .int x5), (10, .int x10)] → fX7_goesOn_b356   fuel356 x1 x2 x3 x4 x5 x10 f_bands = some res → W p l e (pq_rm 1 23) s m args below meth c H locs 0 0 Q (F0 m 356 ls []) := by
    intro fuel356
    induction fuel356 with
    | zero => intro x1 x2 x3 x4 x5 x10 f_bands H locs hh ls hl hf; rw [fX7_goesOn_b356] at hf; cases hf
    | succ fuel356 ih356 =>
      intro x1 x2 x3 x4 x5 x10 f_bands H locs hh ls hl hf
      rw [fX7_goesOn_b356] at hf
      refine lv_iload hx hb dX7_goesOn_356 (lv_at hl 6 rfl) ?_
      refine lv_if_le (tgt := 393) hx hb dX7_goesOn_358 (by decide) (fun h86 => ?_) (fun h86 => ?_)
      · have hf := pq_brt hf h86
        refine lv_aload_n hx hb dX7_goesOn_393 rfl (lv_at hl 0 rfl) ?_
        refine pq_get C hh i7 0 6 rfl rfl 23 (by decide) kf69 rfl rfl dX7_goesOn_394 ?_
        refine lv_iload_n hx hb dX7_goesOn_397 rfl (lv_at hl 1 rfl) ?_
        refine lv_bipush (v := (17 : Int32)) hx hb dX7_goesOn_398 (by decide) ?_
        refine lv_iadd hx hb dX7_goesOn_400 ?_
        refine lv_iload_n hx hb dX7_goesOn_401 rfl (lv_at hl 2 rfl) ?_
        obtain ⟨h87, hf⟩ := pq_wrx hf
        refine pq_iast C hh 1 rfl h87 dX7_goesOn_402 (fun H locs f88 e89 (hh : pq_H D A s (wX7_goesOn cI th ad c_told c_sumZ c_sumE c_stepY c_odd c_even c_taped c_outs c_isFound f88) H locs) => ?_)
        have hf := hf f88 e89
        refine lv_aload_n hx hb dX7_goesOn_403 rfl (lv_at hl 0 rfl) ?_
        refine pq_get C hh i7 0 6 rfl rfl 23 (by decide) kf69 rfl rfl dX7_goesOn_404 ?_
        refine lv_iload_n hx hb dX7_goesOn_407 rfl (lv_at hl 1 rfl) ?_
        refine lv_bipush (v := (14 : Int32)) hx hb dX7_goesOn_408 (by decide) ?_
        refine lv_iadd hx hb dX7_goesOn_410 ?_
        refine lv_aload_n hx hb dX7_goesOn_411 rfl (lv_at hl 0 rfl) ?_
        refine pq_get C hh i7 0 6 rfl rfl 23 (by decide) kf69 rfl rfl dX7_goesOn_412 ?_
        refine lv_iload_n hx hb dX7_goesOn_415 rfl (lv_at hl 1 rfl) ?_
        refine lv_bipush (v := (13 : Int32)) hx hb dX7_goesOn_416 (by decide) ?_
        refine lv_iadd hx hb dX7_goesOn_418 ?_
        obtain ⟨h90, hf⟩ := pq_rdx hf
        refine pq_iald C hh 1 rfl h90 dX7_goesOn_419 (fun v91 e92 => ?_)
        have hf := hf v91 e92
        obtain ⟨h93, hf⟩ := pq_wrx hf
        refine pq_iast C hh 1 rfl h93 dX7_goesOn_420 (fun H locs f94 e95 (hh : pq_H D A s (wX7_goesOn cI th ad c_told c_sumZ c_sumE c_stepY c_odd c_even c_taped c_outs c_isFound f94) H locs) => ?_)
        have hf := hf f94 e95
        refine lv_aload_n hx hb dX7_goesOn_421 rfl (lv_at hl 0 rfl) ?_
        refine pq_get C hh i7 0 6 rfl rfl 23 (by decide) kf69 rfl rfl dX7_goesOn_422 ?_
        refine lv_iload_n hx hb dX7_goesOn_425 rfl (lv_at hl 1 rfl) ?_
        refine lv_bipush (v := (13 : Int32)) hx hb dX7_goesOn_426 (by decide) ?_
        refine lv_iadd hx hb dX7_goesOn_428 ?_
        refine lv_iload_n hx hb dX7_goesOn_429 rfl (lv_at hl 3 rfl) ?_
        obtain ⟨h96, hf⟩ := pq_wrx hf
        refine pq_iast C hh 1 rfl h96 dX7_goesOn_430 (fun H locs f97 e98 (hh : pq_H D A s (wX7_goesOn cI th ad c_told c_sumZ c_sumE c_stepY c_odd c_even c_taped c_outs c_isFound f97) H locs) => ?_)
        have hf := hf f97 e98
        refine lv_aload_n hx hb dX7_goesOn_431 rfl (lv_at hl 0 rfl) ?_
        refine pq_get C hh i7 0 6 rfl rfl 23 (by decide) kf69 rfl rfl dX7_goesOn_432 ?_
        refine lv_iload_n hx hb dX7_goesOn_435 rfl (lv_at hl 1 rfl) ?_
        refine lv_bipush (v := (16 : Int32)) hx hb dX7_goesOn_436 (by decide) ?_
        refine lv_iadd hx hb dX7_goesOn_438 ?_
        refine lv_iload hx hb dX7_goesOn_439 (lv_at hl 5 rfl) ?_
        obtain ⟨h99, hf⟩ := pq_wrx hf
        refine pq_iast C hh 1 rfl h99 dX7_goesOn_441 (fun H locs f100 e101 (hh : pq_H D A s (wX7_goesOn cI th ad c_told c_sumZ c_sumE c_stepY c_odd c_even c_taped c_outs c_isFound f100) H locs) => ?_)
        have hf := hf f100 e101
        refine lv_aload_n hx hb dX7_goesOn_442 rfl (lv_at hl 0 rfl) ?_
        refine pq_get C hh i7 0 6 rfl rfl 23 (by decide) kf69 rfl rfl dX7_goesOn_443 ?_
        refine lv_iload_n hx hb dX7_goesOn_446 rfl (lv_at hl 1 rfl) ?_
        refine lv_bipush (v := (15 : Int32)) hx hb dX7_goesOn_447 (by decide) ?_
        refine lv_iadd hx hb dX7_goesOn_449 ?_
        refine lv_iload hx hb dX7_goesOn_450 (lv_at hl 4 rfl) ?_
        obtain ⟨h102, hf⟩ := pq_wrx hf
        refine pq_iast C hh 1 rfl h102 dX7_goesOn_452 (fun H locs f103 e104 (hh : pq_H D A s (wX7_goesOn cI th ad c_told c_sumZ c_sumE c_stepY c_odd c_even c_taped c_outs c_isFound f103) H locs) => ?_)
        have hf := hf f103 e104
        refine lv_aload_n hx hb dX7_goesOn_453 rfl (lv_at hl 0 rfl) ?_
        refine pq_get C hh i7 0 6 rfl rfl 23 (by decide) kf69 rfl rfl dX7_goesOn_454 ?_
        refine lv_iload_n hx hb dX7_goesOn_457 rfl (lv_at hl 1 rfl) ?_
        refine lv_iconst (v := (5 : Int32)) hx hb dX7_goesOn_458 (by decide) ?_
        refine lv_iadd hx hb dX7_goesOn_459 ?_
        obtain ⟨h105, hf⟩ := pq_rdx hf
        refine pq_iald C hh 1 rfl h105 dX7_goesOn_460 (fun v106 e107 => ?_)
        have hf := hf v106 e107
        refine lv_aload_n hx hb dX7_goesOn_461 rfl (lv_at hl 0 rfl) ?_
        refine lv_iconst (v := (2 : Int32)) hx hb dX7_goesOn_462 (by decide) ?_
        refine lv_aload_n hx hb dX7_goesOn_463 rfl (lv_at hl 0 rfl) ?_
        refine pq_get C hh i7 0 6 rfl rfl 23 (by decide) kf69 rfl rfl dX7_goesOn_464 ?_
        refine lv_iload_n hx hb dX7_goesOn_467 rfl (lv_at hl 1 rfl) ?_
        refine lv_bipush (v := (13 : Int32)) hx hb dX7_goesOn_468 (by decide) ?_
        refine lv_iadd hx hb dX7_goesOn_470 ?_
        obtain ⟨h108, hf⟩ := pq_rdx hf
        refine pq_iald C hh 1 rfl h108 dX7_goesOn_471 (fun v109 e110 => ?_)
        have hf := hf v109 e110
        refine lv_imul hx hb dX7_goesOn_472 ?_
        obtain ⟨r111, hu112, hf⟩ := pq_clx hf
        refine pq_cvI (n := 1) (As := [.int ((2 : Int32) * v109)]) C hh (qX7_limited l D cI cL th ((2 : Int32) * v109) r111 hu112) (gvX7_limited hs (pq_m19 _ (List.mem_of_getElem? (i := 11) rfl))) rfl (by decide +kernel) ⟨Nat.le_of_ble_eq_true rfl, Nat.le_of_ble_eq_true rfl⟩ 0 6 rfl rfl rfl hl.1 rfl rfl (Nat.le_of_ble_eq_true rfl) dX7_goesOn_473 ⟨Nat.zero_le _, Nat.zero_le _⟩ [] [0, 1] [0, 1] rfl rfl (by decide) (by decide) (by decide) rfl (fun H locs (hh : pq_H D A s (wX7_goesOn cI th ad c_told c_sumZ c_sumE c_stepY c_odd c_even c_taped c_outs c_isFound f103) H locs) => ?_)
        refine lv_imul hx hb dX7_goesOn_476 ?_
        refine lv_bipush (v := (15 : Int32)) hx hb dX7_goesOn_477 (by decide) ?_
        refine lv_ishr hx hb dX7_goesOn_479 ?_
        refine lv_topi (fun v113 e114 => ?_)
        have hf := pq_nmx hf v113 e114
        refine lv_istore (lv' := [(10, .int v113), (0, .ref th), (1, .int x1), (2, .int x2), (3, .int x3), (4, .int x4), (5, .int x5)]) hx hb dX7_goesOn_480 hl (by decide) rfl (fun ls hl => ?_)
        refine lv_aload_n hx hb dX7_goesOn_482 rfl (lv_at hl 1 rfl) ?_
        refine pq_get C hh i7 0 6 rfl rfl 23 (by decide) kf69 rfl rfl dX7_goesOn_483 ?_
        refine lv_iload_n hx hb dX7_goesOn_486 rfl (lv_at hl 2 rfl) ?_
        refine lv_bipush (v := (6 : Int32)) hx hb dX7_goesOn_487 (by decide) ?_
        refine lv_iadd hx hb dX7_goesOn_489 ?_
        obtain ⟨h115, hf⟩ := pq_rdx hf
        refine pq_iald C hh 1 rfl h115 dX7_goesOn_490 (fun v116 e117 => ?_)
        have hf := hf v116 e117
        refine lv_aload_n hx hb dX7_goesOn_491 rfl (lv_at hl 1 rfl) ?_
        refine lv_iconst (v := (2 : Int32)) hx hb dX7_goesOn_492 (by decide) ?_
        refine lv_aload_n hx hb dX7_goesOn_493 rfl (lv_at hl 1 rfl) ?_
        refine pq_get C hh i7 0 6 rfl rfl 23 (by decide) kf69 rfl rfl dX7_goesOn_494 ?_
        refine lv_iload_n hx hb dX7_goesOn_497 rfl (lv_at hl 2 rfl) ?_
        refine lv_bipush (v := (14 : Int32)) hx hb dX7_goesOn_498 (by decide) ?_
        refine lv_iadd hx hb dX7_goesOn_500 ?_
        obtain ⟨h118, hf⟩ := pq_rdx hf
        refine pq_iald C hh 1 rfl h118 dX7_goesOn_501 (fun v119 e120 => ?_)
        have hf := hf v119 e120
        refine lv_imul hx hb dX7_goesOn_502 ?_
        obtain ⟨r121, hu122, hf⟩ := pq_clx hf
        refine pq_cvI (n := 1) (As := [.int ((2 : Int32) * v119)]) C hh (qX7_limited l D cI cL th ((2 : Int32) * v119) r121 hu122) (gvX7_limited hs (pq_m19 _ (List.mem_of_getElem? (i := 11) rfl))) rfl (by decide +kernel) ⟨Nat.le_of_ble_eq_true rfl, Nat.le_of_ble_eq_true rfl⟩ 0 6 rfl rfl rfl hl.1 rfl rfl (Nat.le_of_ble_eq_true rfl) dX7_goesOn_503 ⟨Nat.zero_le _, Nat.zero_le _⟩ [] [0, 1] [0, 1] rfl rfl (by decide) (by decide) (by decide) rfl (fun H locs (hh : pq_H D A s (wX7_goesOn cI th ad c_told c_sumZ c_sumE c_stepY c_odd c_even c_taped c_outs c_isFound f103) H locs) => ?_)
        refine lv_imul hx hb dX7_goesOn_506 ?_
        refine lv_bipush (v := (15 : Int32)) hx hb dX7_goesOn_507 (by decide) ?_
        refine lv_ishr hx hb dX7_goesOn_509 ?_
        refine lv_topi (fun v123 e124 => ?_)
        have hf := pq_nmx hf v123 e124
        refine lv_istore (lv' := [(11, .int v123), (10, .int v113), (0, .ref th), (1, .int x1), (2, .int x2), (3, .int x3), (4, .int x4), (5, .int x5)]) hx hb dX7_goesOn_510 hl (by decide) rfl (fun ls hl => ?_)
        refine lv_aload_n hx hb dX7_goesOn_512 rfl (lv_at hl 2 rfl) ?_
        refine pq_get C hh i7 0 6 rfl rfl 23 (by decide) kf69 rfl rfl dX7_goesOn_513 ?_
        refine lv_iload_n hx hb dX7_goesOn_516 rfl (lv_at hl 3 rfl) ?_
        refine lv_iconst (v := (3 : Int32)) hx hb dX7_goesOn_517 (by decide) ?_
        refine lv_iadd hx hb dX7_goesOn_518 ?_
        refine lv_aload_n hx hb dX7_goesOn_519 rfl (lv_at hl 2 rfl) ?_
        refine lv_iload hx hb dX7_goesOn_520 (lv_at hl 1 rfl) ?_
        refine lv_iload hx hb dX7_goesOn_522 (lv_at hl 0 rfl) ?_
        refine lv_iadd hx hb dX7_goesOn_524 ?_
        obtain ⟨r125, hu126, hf⟩ := pq_clx hf
        refine pq_cvI (n := 1) (As := [.int (v113 + v123)]) C hh (qX7_limited l D cI cL th (v113 + v123) r125 hu126) (gvX7_limited hs (pq_m19 _ (List.mem_of_getElem? (i := 11) rfl))) rfl (by decide +kernel) ⟨Nat.le_of_ble_eq_true rfl, Nat.le_of_ble_eq_true rfl⟩ 0 6 rfl rfl rfl hl.1 rfl rfl (Nat.le_of_ble_eq_true rfl) dX7_goesOn_525 ⟨Nat.zero_le _, Nat.zero_le _⟩ [] [0, 1] [0, 1] rfl rfl (by decide) (by decide) (by decide) rfl (fun H locs (hh : pq_H D A s (wX7_goesOn cI th ad c_told c_sumZ c_sumE c_stepY c_odd c_even c_taped c_outs c_isFound f103) H locs) => ?_)
        obtain ⟨h127, hf⟩ := pq_wrx hf
        refine pq_iast C hh 1 rfl h127 dX7_goesOn_528 (fun H locs f128 e129 (hh : pq_H D A s (wX7_goesOn cI th ad c_told c_sumZ c_sumE c_stepY c_odd c_even c_taped c_outs c_isFound f128) H locs) => ?_)
        have hf := hf f128 e129
        refine lv_iconst (v := (0 : Int32)) hx hb dX7_goesOn_529 (by decide) ?_
        refine lv_istore (lv' := [(12, .int (0 : Int32)), (11, .int v123), (10, .int v113), (0, .ref th), (1, .int x1), (2, .int x2), (3, .int x3), (4, .int x4), (5, .int x5)]) hx hb dX7_goesOn_530 hl (by decide) rfl (fun ls hl => ?_)
        refine lv_iconst (v := (0 : Int32)) hx hb dX7_goesOn_532 (by decide) ?_
        refine lv_istore (lv' := [(13, .int (0 : Int32)), (12, .int (0 : Int32)), (11, .int v123), (10, .int v113), (0, .ref th), (1, .int x1), (2, .int x2), (3, .int x3), (4, .int x4), (5, .int x5)]) hx hb dX7_goesOn_533 hl (by decide) rfl (fun ls hl => ?_)
        exact J535 1100 x1 (0 : Int32) (0 : Int32) f128 _ _ hh ls (lv_sub hl [4, 5, 1, 0] rfl) hf
      · have hf := pq_brf hf h86
        refine lv_aload_n hx hb dX7_goesOn_361 rfl (lv_at hl 0 rfl) ?_
        refine pq_get C hh i7 0 6 rfl rfl 23 (by decide) kf69 rfl rfl dX7_goesOn_362 ?_
        refine lv_iload_n hx hb dX7_goesOn_365 rfl (lv_at hl 1 rfl) ?_
        refine lv_bipush (v := (17 : Int32)) hx hb dX7_goesOn_366 (by decide) ?_
        refine lv_iadd hx hb dX7_goesOn_368 ?_
        refine lv_iload hx hb dX7_goesOn_369 (lv_at hl 6 rfl) ?_
        refine lv_iadd hx hb dX7_goesOn_371 ?_
        refine lv_aload_n hx hb dX7_goesOn_372 rfl (lv_at hl 0 rfl) ?_
        refine pq_get C hh i7 0 6 rfl rfl 23 (by decide) kf69 rfl rfl dX7_goesOn_373 ?_
        refine lv_iload_n hx hb dX7_goesOn_376 rfl (lv_at hl 1 rfl) ?_
        refine lv_bipush (v := (17 : Int32)) hx hb dX7_goesOn_377 (by decide) ?_
        refine lv_iadd hx hb dX7_goesOn_379 ?_
        refine lv_iload hx hb dX7_goesOn_380 (lv_at hl 6 rfl) ?_
        refine lv_iadd hx hb dX7_goesOn_382 ?_
        refine lv_iconst (v := (1 : Int32)) hx hb dX7_goesOn_383 (by decide) ?_
        refine lv_isub hx hb dX7_goesOn_384 ?_
        obtain ⟨h130, hf⟩ := pq_rdx hf
        refine pq_iald C hh 1 rfl h130 dX7_goesOn_385 (fun v131 e132 => ?_)
        have hf := hf v131 e132
        obtain ⟨h133, hf⟩ := pq_wrx hf
        refine pq_iast C hh 1 rfl h133 dX7_goesOn_386 (fun H locs f134 e135 (hh : pq_H D A s (wX7_goesOn cI th ad c_told c_sumZ c_sumE c_stepY c_odd c_even c_taped c_outs c_isFound f134) H locs) => ?_)
        have hf := hf f134 e135
        obtain ⟨v136, e137⟩ : ∃ y : Int32, y = x10 + (-1 : Int32) := ⟨_, rfl⟩
        refine lv_iinc (v := v136) (lv' := [(10, .int v136), (0, .ref th), (1, .int x1), (2, .int x2), (3, .int x3), (4, .int x4), (5, .int x5)]) hx hb dX7_goesOn_387 hl (k := 6) rfl (by rw [e137]; rfl) (by decide) rfl (fun ls hl => ?_)
        have hf := pq_nmx hf v136 e137
        refine lv_goto (tgt := 356) hx hb dX7_goesOn_390 (by decide) ?_
        exact ih356 x1 x2 x3 x4 x5 v136 f134 _ _ hh ls (lv_sub hl [1, 2, 3, 4, 5, 6, 0] rfl) hf
  have J260 : ∀ (fuel260 : Nat) (x1 : Int32) (x2 : Int32) (x3 : Int32) (x4 : Int32) (x5 : Int32) (x10 : Int32) (f_bands : Nat → Int32) (H : Heap) (locs : List Loc), pq_H D A s (wX7_goesOn cI th ad c_told c_sumZ c_sumE c_stepY c_odd c_even c_taped c_outs c_isFound f_bands) H locs → ∀ ls : Array Slot, lv_has ls 14 [(0, .ref th), (1, .int x1), (2, .int x2), (3, .int x3), (4, .int x4), (5, .int x5), (10, .int x10)] → fX7_goesOn_b260   fuel260 x1 x2 x3 x4 x5 x10 f_bands = some res → W p l e (pq_rm 1 23) s m args below meth c H locs 0 0 Q (F0 m 260 ls []) := by
    intro fuel260
    induction fuel260 with
    | zero => intro x1 x2 x3 x4 x5 x10 f_bands H locs hh ls hl hf; rw [fX7_goesOn_b260] at hf; cases hf
    | succ fuel260 ih260 =>
      have J307 : ∀ (x1 : Int32) (x2 : Int32) (x3 : Int32) (x4 : Int32) (x5 : Int32) (x10 : Int32) (s0 : Int32) (f_bands : Nat → Int32) (H : Heap) (locs : List Loc), pq_H D A s (wX7_goesOn cI th ad c_told c_sumZ c_sumE c_stepY c_odd c_even c_taped c_outs c_isFound f_bands) H locs → ∀ ls : Array Slot, lv_has ls 14 [(0, .ref th), (1, .int x1), (2, .int x2), (3, .int x3), (4, .int x4), (5, .int x5), (10, .int x10)] → fX7_goesOn_b307 (fX7_goesOn_b260   fuel260)  x1 x2 x3 x4 x5 x10 s0 f_bands = some res → W p l e (pq_rm 1 23) s m args below meth c H locs 0 0 Q (F0 m 307 ls [.int s0]) := by
        intro x1 x2 x3 x4 x5 x10 s0 f_bands H locs hh ls hl hf
        rw [fX7_goesOn_b307] at hf
        refine lv_istore (lv' := [(11, .int s0), (0, .ref th), (1, .int x1), (2, .int x2), (3, .int x3), (4, .int x4), (5, .int x5), (10, .int x10)]) hx hb dX7_goesOn_307 hl (by decide) rfl (fun ls hl => ?_)
        refine lv_aload_n hx hb dX7_goesOn_309 rfl (lv_at hl 1 rfl) ?_
        refine pq_get C hh i7 0 6 rfl rfl 23 (by decide) kf69 rfl rfl dX7_goesOn_310 ?_
        refine lv_iload_n hx hb dX7_goesOn_313 rfl (lv_at hl 2 rfl) ?_
        refine lv_bipush (v := (7 : Int32)) hx hb dX7_goesOn_314 (by decide) ?_
        refine lv_iadd hx hb dX7_goesOn_316 ?_
        refine lv_iload hx hb dX7_goesOn_317 (lv_at hl 7 rfl) ?_
        refine lv_iadd hx hb dX7_goesOn_319 ?_
        refine lv_aload_n hx hb dX7_goesOn_320 rfl (lv_at hl 1 rfl) ?_
        refine lv_iload hx hb dX7_goesOn_321 (lv_at hl 0 rfl) ?_
        refine lv_aload_n hx hb dX7_goesOn_323 rfl (lv_at hl 1 rfl) ?_
        refine pq_get C hh i7 0 6 rfl rfl 23 (by decide) kf69 rfl rfl dX7_goesOn_324 ?_
        refine lv_iload_n hx hb dX7_goesOn_327 rfl (lv_at hl 2 rfl) ?_
        refine lv_bipush (v := (7 : Int32)) hx hb dX7_goesOn_328 (by decide) ?_
        refine lv_iadd hx hb dX7_goesOn_330 ?_
        refine lv_iload hx hb dX7_goesOn_331 (lv_at hl 7 rfl) ?_
        refine lv_iadd hx hb dX7_goesOn_333 ?_
        obtain ⟨h76, hf⟩ := pq_rdx hf
        refine pq_iald C hh 1 rfl h76 dX7_goesOn_334 (fun v77 e78 => ?_)
        have hf := hf v77 e78
        refine lv_sipush (v := (32640 : Int32)) hx hb dX7_goesOn_335 (by decide) ?_
        refine lv_imul hx hb dX7_goesOn_338 ?_
        refine lv_bipush (v := (15 : Int32)) hx hb dX7_goesOn_339 (by decide) ?_
        refine lv_ishr hx hb dX7_goesOn_341 ?_
        refine lv_iadd hx hb dX7_goesOn_342 ?_
        obtain ⟨r79, hu80, hf⟩ := pq_clx hf
        refine pq_cvI (n := 1) (As := [.int (s0 + ((v77 * (32640 : Int32)) >>> ((15 : Int32) &&& 31)))]) C hh (qX7_limited l D cI cL th (s0 + ((v77 * (32640 : Int32)) >>> ((15 : Int32) &&& 31))) r79 hu80) (gvX7_limited hs (pq_m19 _ (List.mem_of_getElem? (i := 11) rfl))) rfl (by decide +kernel) ⟨Nat.le_of_ble_eq_true rfl, Nat.le_of_ble_eq_true rfl⟩ 0 6 rfl rfl rfl hl.1 rfl rfl (Nat.le_of_ble_eq_true rfl) dX7_goesOn_343 ⟨Nat.zero_le _, Nat.zero_le _⟩ [] [0, 1] [0, 1] rfl rfl (by decide) (by decide) (by decide) rfl (fun H locs (hh : pq_H D A s (wX7_goesOn cI th ad c_told c_sumZ c_sumE c_stepY c_odd c_even c_taped c_outs c_isFound f_bands) H locs) => ?_)
        obtain ⟨h81, hf⟩ := pq_wrx hf
        refine pq_iast C hh 1 rfl h81 dX7_goesOn_346 (fun H locs f82 e83 (hh : pq_H D A s (wX7_goesOn cI th ad c_told c_sumZ c_sumE c_stepY c_odd c_even c_taped c_outs c_isFound f82) H locs) => ?_)
        have hf := hf f82 e83
        obtain ⟨v84, e85⟩ : ∃ y : Int32, y = x10 + (1 : Int32) := ⟨_, rfl⟩
        refine lv_iinc (v := v84) (lv' := [(10, .int v84), (11, .int s0), (0, .ref th), (1, .int x1), (2, .int x2), (3, .int x3), (4, .int x4), (5, .int x5)]) hx hb dX7_goesOn_347 hl (k := 7) rfl (by rw [e85]; rfl) (by decide) rfl (fun ls hl => ?_)
        have hf := pq_nmx hf v84 e85
        refine lv_goto (tgt := 260) hx hb dX7_goesOn_350 (by decide) ?_
        exact ih260 x1 x2 x3 x4 x5 v84 f82 _ _ hh ls (lv_sub hl [2, 3, 4, 5, 6, 7, 0] rfl) hf
      intro x1 x2 x3 x4 x5 x10 f_bands H locs hh ls hl hf
      rw [fX7_goesOn_b260] at hf
      refine lv_iload hx hb dX7_goesOn_260 (lv_at hl 6 rfl) ?_
      refine lv_bipush (v := (6 : Int32)) hx hb dX7_goesOn_262 (by decide) ?_
      refine lv_icmp_ge (tgt := 353) hx hb dX7_goesOn_264 (by decide) (fun h66 => ?_) (fun h66 => ?_)
      · have hf := pq_brt hf h66
        refine lv_iconst (v := (5 : Int32)) hx hb dX7_goesOn_353 (by decide) ?_
        refine lv_istore (lv' := [(10, .int (5 : Int32)), (0, .ref th), (1, .int x1), (2, .int x2), (3, .int x3), (4, .int x4), (5, .int x5)]) hx hb dX7_goesOn_354 hl (by decide) rfl (fun ls hl => ?_)
        exact J356 1100 x1 x2 x3 x4 x5 (5 : Int32) f_bands _ _ hh ls (lv_sub hl [1, 2, 3, 4, 5, 6, 0] rfl) hf
      · have hf := pq_brf hf h66
        refine lv_iload_n hx hb dX7_goesOn_267 rfl (lv_at hl 2 rfl) ?_
        refine lv_if_ne (tgt := 275) hx hb dX7_goesOn_268 (by decide) (fun h67 => ?_) (fun h67 => ?_)
        · have hf := pq_brf hf h67
          refine lv_aload_n hx hb dX7_goesOn_275 rfl (lv_at hl 0 rfl) ?_
          refine lv_iload_n hx hb dX7_goesOn_276 rfl (lv_at hl 2 rfl) ?_
          obtain ⟨r68, hu69, hf⟩ := pq_clx hf
          refine pq_cvI (n := 1) (As := [.int x2]) C hh (qX7_sign l D cI cL th x2 r68 hu69) (gvX7_sign hs (pq_m16 _ (List.mem_of_getElem? (i := 12) rfl))) rfl (by decide +kernel) ⟨Nat.le_of_ble_eq_true rfl, Nat.le_of_ble_eq_true rfl⟩ 0 6 rfl rfl rfl hl.1 rfl rfl (Nat.le_of_ble_eq_true rfl) dX7_goesOn_277 ⟨Nat.zero_le _, Nat.zero_le _⟩ [] [0, 1] [0, 1] rfl rfl (by decide) (by decide) (by decide) rfl (fun H locs (hh : pq_H D A s (wX7_goesOn cI th ad c_told c_sumZ c_sumE c_stepY c_odd c_even c_taped c_outs c_isFound f_bands) H locs) => ?_)
          refine lv_aload_n hx hb dX7_goesOn_280 rfl (lv_at hl 0 rfl) ?_
          refine lv_aload_n hx hb dX7_goesOn_281 rfl (lv_at hl 0 rfl) ?_
          refine pq_get C hh i7 0 6 rfl rfl 23 (by decide) kf69 rfl rfl dX7_goesOn_282 ?_
          refine lv_iload_n hx hb dX7_goesOn_285 rfl (lv_at hl 1 rfl) ?_
          refine lv_bipush (v := (17 : Int32)) hx hb dX7_goesOn_286 (by decide) ?_
          refine lv_iadd hx hb dX7_goesOn_288 ?_
          refine lv_iload hx hb dX7_goesOn_289 (lv_at hl 6 rfl) ?_
          refine lv_iadd hx hb dX7_goesOn_291 ?_
          obtain ⟨h70, hf⟩ := pq_rdx hf
          refine pq_iald C hh 1 rfl h70 dX7_goesOn_292 (fun v71 e72 => ?_)
          have hf := hf v71 e72
          obtain ⟨r73, hu74, hf⟩ := pq_clx hf
          refine pq_cvI (n := 1) (As := [.int v71]) C hh (qX7_sign l D cI cL th v71 r73 hu74) (gvX7_sign hs (pq_m16 _ (List.mem_of_getElem? (i := 12) rfl))) rfl (by decide +kernel) ⟨Nat.le_of_ble_eq_true rfl, Nat.le_of_ble_eq_true rfl⟩ 0 6 rfl rfl rfl hl.1 rfl rfl (Nat.le_of_ble_eq_true rfl) dX7_goesOn_293 ⟨Nat.zero_le _, Nat.zero_le _⟩ [] [0, 1] [0, 1] rfl rfl (by decide) (by decide) (by decide) rfl (fun H locs (hh : pq_H D A s (wX7_goesOn cI th ad c_told c_sumZ c_sumE c_stepY c_odd c_even c_taped c_outs c_isFound f_bands) H locs) => ?_)
          refine lv_icmp_ne (tgt := 305) hx hb dX7_goesOn_296 (by decide) (fun h75 => ?_) (fun h75 => ?_)
          · have hf := pq_brf hf h75
            refine lv_bipush (v := (-128 : Int32)) hx hb dX7_goesOn_305 (by decide) ?_
            exact J307 x1 x2 x3 x4 x5 x10 (-128 : Int32) f_bands _ _ hh ls (lv_sub hl [0, 1, 2, 3, 4, 5, 6] rfl) hf
          · have hf := pq_brt hf h75
            refine lv_sipush (v := (128 : Int32)) hx hb dX7_goesOn_299 (by decide) ?_
            refine lv_goto (tgt := 307) hx hb dX7_goesOn_302 (by decide) ?_
            exact J307 x1 x2 x3 x4 x5 x10 (128 : Int32) f_bands _ _ hh ls (lv_sub hl [0, 1, 2, 3, 4, 5, 6] rfl) hf
        · have hf := pq_brt hf h67
          refine lv_iconst (v := (0 : Int32)) hx hb dX7_goesOn_271 (by decide) ?_
          refine lv_goto (tgt := 307) hx hb dX7_goesOn_272 (by decide) ?_
          exact J307 x1 x2 x3 x4 x5 x10 (0 : Int32) f_bands _ _ hh ls (lv_sub hl [0, 1, 2, 3, 4, 5, 6] rfl) hf
  have J196 : ∀ (x1 : Int32) (x2 : Int32) (x3 : Int32) (x4 : Int32) (x5 : Int32) (s1 : Int32) (f_bands : Nat → Int32) (H : Heap) (locs : List Loc), pq_H D A s (wX7_goesOn cI th ad c_told c_sumZ c_sumE c_stepY c_odd c_even c_taped c_outs c_isFound f_bands) H locs → ∀ ls : Array Slot, lv_has ls 14 [(0, .ref th), (1, .int x1), (2, .int x2), (3, .int x3), (4, .int x4), (5, .int x5)] → fX7_goesOn_b196   x1 x2 x3 x4 x5 s1 f_bands = some res → W p l e (pq_rm 1 23) s m args below meth c H locs 0 0 Q (F0 m 196 ls [.int s1, .ref th]) := by
    intro x1 x2 x3 x4 x5 s1 f_bands H locs hh ls hl hf
    rw [fX7_goesOn_b196] at hf
    refine lv_aload_n hx hb dX7_goesOn_196 rfl (lv_at hl 0 rfl) ?_
    refine pq_get C hh i7 0 6 rfl rfl 23 (by decide) kf69 rfl rfl dX7_goesOn_197 ?_
    refine lv_iload_n hx hb dX7_goesOn_200 rfl (lv_at hl 1 rfl) ?_
    refine lv_iconst (v := (5 : Int32)) hx hb dX7_goesOn_201 (by decide) ?_
    refine lv_iadd hx hb dX7_goesOn_202 ?_
    obtain ⟨h50, hf⟩ := pq_rdx hf
    refine pq_iald C hh 1 rfl h50 dX7_goesOn_203 (fun v51 e52 => ?_)
    have hf := hf v51 e52
    refine lv_sipush (v := (32640 : Int32)) hx hb dX7_goesOn_204 (by decide) ?_
    refine lv_imul hx hb dX7_goesOn_207 ?_
    refine lv_bipush (v := (15 : Int32)) hx hb dX7_goesOn_208 (by decide) ?_
    refine lv_ishr hx hb dX7_goesOn_210 ?_
    refine lv_iadd hx hb dX7_goesOn_211 ?_
    obtain ⟨r53, hu54, hf⟩ := pq_clx hf
    refine pq_cvI (n := 1) (As := [.int (s1 + ((v51 * (32640 : Int32)) >>> ((15 : Int32) &&& 31)))]) C hh (qX7_limited l D cI cL th (s1 + ((v51 * (32640 : Int32)) >>> ((15 : Int32) &&& 31))) r53 hu54) (gvX7_limited hs (pq_m19 _ (List.mem_of_getElem? (i := 11) rfl))) rfl (by decide +kernel) ⟨Nat.le_of_ble_eq_true rfl, Nat.le_of_ble_eq_true rfl⟩ 0 6 rfl rfl rfl hl.1 rfl rfl (Nat.le_of_ble_eq_true rfl) dX7_goesOn_212 ⟨Nat.zero_le _, Nat.zero_le _⟩ [] [0, 1] [0, 1] rfl rfl (by decide) (by decide) (by decide) rfl (fun H locs (hh : pq_H D A s (wX7_goesOn cI th ad c_told c_sumZ c_sumE c_stepY c_odd c_even c_taped c_outs c_isFound f_bands) H locs) => ?_)
    refine lv_istore (lv' := [(9, .int r53), (0, .ref th), (1, .int x1), (2, .int x2), (3, .int x3), (4, .int x4), (5, .int x5)]) hx hb dX7_goesOn_215 hl (by decide) rfl (fun ls hl => ?_)
    refine lv_aload_n hx hb dX7_goesOn_217 rfl (lv_at hl 1 rfl) ?_
    refine pq_get C hh i7 0 6 rfl rfl 23 (by decide) kf69 rfl rfl dX7_goesOn_218 ?_
    refine lv_iload_n hx hb dX7_goesOn_221 rfl (lv_at hl 2 rfl) ?_
    refine lv_iconst (v := (5 : Int32)) hx hb dX7_goesOn_222 (by decide) ?_
    refine lv_iadd hx hb dX7_goesOn_223 ?_
    refine lv_aload_n hx hb dX7_goesOn_224 rfl (lv_at hl 1 rfl) ?_
    refine lv_iload hx hb dX7_goesOn_225 (lv_at hl 0 rfl) ?_
    refine lv_aload_n hx hb dX7_goesOn_227 rfl (lv_at hl 1 rfl) ?_
    refine pq_get C hh i7 0 6 rfl rfl 23 (by decide) kf69 rfl rfl dX7_goesOn_228 ?_
    refine lv_iload_n hx hb dX7_goesOn_231 rfl (lv_at hl 2 rfl) ?_
    refine lv_bipush (v := (6 : Int32)) hx hb dX7_goesOn_232 (by decide) ?_
    refine lv_iadd hx hb dX7_goesOn_234 ?_
    obtain ⟨h55, hf⟩ := pq_rdx hf
    refine pq_iald C hh 1 rfl h55 dX7_goesOn_235 (fun v56 e57 => ?_)
    have hf := hf v56 e57
    refine lv_sipush (v := (15360 : Int32)) hx hb dX7_goesOn_236 (by decide) ?_
    refine lv_isub hx hb dX7_goesOn_239 ?_
    refine lv_sipush (v := (15360 : Int32)) hx hb dX7_goesOn_240 (by decide) ?_
    refine lv_aload_n hx hb dX7_goesOn_243 rfl (lv_at hl 1 rfl) ?_
    refine pq_get C hh i7 0 6 rfl rfl 23 (by decide) kf69 rfl rfl dX7_goesOn_244 ?_
    refine lv_iload_n hx hb dX7_goesOn_247 rfl (lv_at hl 2 rfl) ?_
    refine lv_bipush (v := (6 : Int32)) hx hb dX7_goesOn_248 (by decide) ?_
    refine lv_iadd hx hb dX7_goesOn_250 ?_
    obtain ⟨h58, hf⟩ := pq_rdx hf
    refine pq_iald C hh 1 rfl h58 dX7_goesOn_251 (fun v59 e60 => ?_)
    have hf := hf v59 e60
    refine lv_isub hx hb dX7_goesOn_252 ?_
    obtain ⟨r61, hu62, hf⟩ := pq_clx hf
    refine pq_cvI (n := 3) (As := [.int r53, .int (v56 - (15360 : Int32)), .int ((15360 : Int32) - v59)]) C hh (qX7_cut l D cI cL th r53 (v56 - (15360 : Int32)) ((15360 : Int32) - v59) r61 hu62) (gvX7_cut hs (pq_m18 _ (List.mem_of_getElem? (i := 19) rfl))) rfl (by decide +kernel) ⟨Nat.le_of_ble_eq_true rfl, Nat.le_of_ble_eq_true rfl⟩ 0 6 rfl rfl rfl hl.1 rfl rfl (Nat.le_of_ble_eq_true rfl) dX7_goesOn_253 ⟨Nat.zero_le _, Nat.zero_le _⟩ [] [0, 1] [0, 1] rfl rfl (by decide) (by decide) (by decide) rfl (fun H locs (hh : pq_H D A s (wX7_goesOn cI th ad c_told c_sumZ c_sumE c_stepY c_odd c_even c_taped c_outs c_isFound f_bands) H locs) => ?_)
    obtain ⟨h63, hf⟩ := pq_wrx hf
    refine pq_iast C hh 1 rfl h63 dX7_goesOn_256 (fun H locs f64 e65 (hh : pq_H D A s (wX7_goesOn cI th ad c_told c_sumZ c_sumE c_stepY c_odd c_even c_taped c_outs c_isFound f64) H locs) => ?_)
    have hf := hf f64 e65
    refine lv_iconst (v := (0 : Int32)) hx hb dX7_goesOn_257 (by decide) ?_
    refine lv_istore (lv' := [(10, .int (0 : Int32)), (9, .int r53), (0, .ref th), (1, .int x1), (2, .int x2), (3, .int x3), (4, .int x4), (5, .int x5)]) hx hb dX7_goesOn_258 hl (by decide) rfl (fun ls hl => ?_)
    exact J260 1100 x1 x2 x3 x4 x5 (0 : Int32) f64 _ _ hh ls (lv_sub hl [2, 3, 4, 5, 6, 7, 0] rfl) hf
  have J125 : ∀ (x1 : Int32) (x2 : Int32) (x3 : Int32) (x4 : Int32) (x5 : Int32) (x7 : Int32) (s0 : Int32) (f_bands : Nat → Int32) (H : Heap) (locs : List Loc), pq_H D A s (wX7_goesOn cI th ad c_told c_sumZ c_sumE c_stepY c_odd c_even c_taped c_outs c_isFound f_bands) H locs → ∀ ls : Array Slot, lv_has ls 14 [(0, .ref th), (1, .int x1), (2, .int x2), (3, .int x3), (4, .int x4), (5, .int x5), (7, .int x7)] → fX7_goesOn_b125   x1 x2 x3 x4 x5 x7 s0 f_bands = some res → W p l e (pq_rm 1 23) s m args below meth c H locs 0 0 Q (F0 m 125 ls [.int s0]) := by
    intro x1 x2 x3 x4 x5 x7 s0 f_bands H locs hh ls hl hf
    rw [fX7_goesOn_b125] at hf
    refine lv_iload hx hb dX7_goesOn_125 (lv_at hl 6 rfl) ?_
    refine lv_bipush (v := (7 : Int32)) hx hb dX7_goesOn_127 (by decide) ?_
    refine lv_ishr hx hb dX7_goesOn_129 ?_
    refine lv_iadd hx hb dX7_goesOn_130 ?_
    refine lv_aload_n hx hb dX7_goesOn_131 rfl (lv_at hl 0 rfl) ?_
    refine pq_get C hh i7 0 6 rfl rfl 23 (by decide) kf69 rfl rfl dX7_goesOn_132 ?_
    refine lv_iload_n hx hb dX7_goesOn_135 rfl (lv_at hl 1 rfl) ?_
    refine lv_bipush (v := (6 : Int32)) hx hb dX7_goesOn_136 (by decide) ?_
    refine lv_iadd hx hb dX7_goesOn_138 ?_
    obtain ⟨h35, hf⟩ := pq_rdx hf
    refine pq_iald C hh 1 rfl h35 dX7_goesOn_139 (fun v36 e37 => ?_)
    have hf := hf v36 e37
    refine lv_sipush (v := (32512 : Int32)) hx hb dX7_goesOn_140 (by decide) ?_
    refine lv_imul hx hb dX7_goesOn_143 ?_
    refine lv_bipush (v := (15 : Int32)) hx hb dX7_goesOn_144 (by decide) ?_
    refine lv_ishr hx hb dX7_goesOn_146 ?_
    refine lv_iadd hx hb dX7_goesOn_147 ?_
    refine lv_topi (fun v38 e39 => ?_)
    have hf := pq_nmx hf v38 e39
    refine lv_istore (lv' := [(8, .int v38), (0, .ref th), (1, .int x1), (2, .int x2), (3, .int x3), (4, .int x4), (5, .int x5), (7, .int x7)]) hx hb dX7_goesOn_148 hl (by decide) rfl (fun ls hl => ?_)
    refine lv_aload_n hx hb dX7_goesOn_150 rfl (lv_at hl 1 rfl) ?_
    refine pq_get C hh i7 0 6 rfl rfl 23 (by decide) kf69 rfl rfl dX7_goesOn_151 ?_
    refine lv_iload_n hx hb dX7_goesOn_154 rfl (lv_at hl 2 rfl) ?_
    refine lv_bipush (v := (6 : Int32)) hx hb dX7_goesOn_155 (by decide) ?_
    refine lv_iadd hx hb dX7_goesOn_157 ?_
    refine lv_aload_n hx hb dX7_goesOn_158 rfl (lv_at hl 1 rfl) ?_
    refine lv_iload hx hb dX7_goesOn_159 (lv_at hl 0 rfl) ?_
    refine lv_sipush (v := (-12288 : Int32)) hx hb dX7_goesOn_161 (by decide) ?_
    refine lv_sipush (v := (12288 : Int32)) hx hb dX7_goesOn_164 (by decide) ?_
    obtain ⟨r40, hu41, hf⟩ := pq_clx hf
    refine pq_cvI (n := 3) (As := [.int v38, .int (-12288 : Int32), .int (12288 : Int32)]) C hh (qX7_cut l D cI cL th v38 (-12288 : Int32) (12288 : Int32) r40 hu41) (gvX7_cut hs (pq_m18 _ (List.mem_of_getElem? (i := 19) rfl))) rfl (by decide +kernel) ⟨Nat.le_of_ble_eq_true rfl, Nat.le_of_ble_eq_true rfl⟩ 0 6 rfl rfl rfl hl.1 rfl rfl (Nat.le_of_ble_eq_true rfl) dX7_goesOn_167 ⟨Nat.zero_le _, Nat.zero_le _⟩ [] [0, 1] [0, 1] rfl rfl (by decide) (by decide) (by decide) rfl (fun H locs (hh : pq_H D A s (wX7_goesOn cI th ad c_told c_sumZ c_sumE c_stepY c_odd c_even c_taped c_outs c_isFound f_bands) H locs) => ?_)
    obtain ⟨h42, hf⟩ := pq_wrx hf
    refine pq_iast C hh 1 rfl h42 dX7_goesOn_170 (fun H locs f43 e44 (hh : pq_H D A s (wX7_goesOn cI th ad c_told c_sumZ c_sumE c_stepY c_odd c_even c_taped c_outs c_isFound f43) H locs) => ?_)
    have hf := hf f43 e44
    refine lv_aload_n hx hb dX7_goesOn_171 rfl (lv_at hl 1 rfl) ?_
    refine lv_aload_n hx hb dX7_goesOn_172 rfl (lv_at hl 1 rfl) ?_
    refine lv_iload hx hb dX7_goesOn_173 (lv_at hl 5 rfl) ?_
    obtain ⟨r45, hu46, hf⟩ := pq_clx hf
    refine pq_cvI (n := 1) (As := [.int x4]) C hh (qX7_sign l D cI cL th x4 r45 hu46) (gvX7_sign hs (pq_m16 _ (List.mem_of_getElem? (i := 12) rfl))) rfl (by decide +kernel) ⟨Nat.le_of_ble_eq_true rfl, Nat.le_of_ble_eq_true rfl⟩ 0 6 rfl rfl rfl hl.1 rfl rfl (Nat.le_of_ble_eq_true rfl) dX7_goesOn_175 ⟨Nat.zero_le _, Nat.zero_le _⟩ [] [0, 1] [0, 1] rfl rfl (by decide) (by decide) (by decide) rfl (fun H locs (hh : pq_H D A s (wX7_goesOn cI th ad c_told c_sumZ c_sumE c_stepY c_odd c_even c_taped c_outs c_isFound f43) H locs) => ?_)
    refine lv_aload_n hx hb dX7_goesOn_178 rfl (lv_at hl 1 rfl) ?_
    refine lv_iload hx hb dX7_goesOn_179 (lv_at hl 6 rfl) ?_
    obtain ⟨r47, hu48, hf⟩ := pq_clx hf
    refine pq_cvI (n := 1) (As := [.int x5]) C hh (qX7_sign l D cI cL th x5 r47 hu48) (gvX7_sign hs (pq_m16 _ (List.mem_of_getElem? (i := 12) rfl))) rfl (by decide +kernel) ⟨Nat.le_of_ble_eq_true rfl, Nat.le_of_ble_eq_true rfl⟩ 0 6 rfl rfl rfl hl.1 rfl rfl (Nat.le_of_ble_eq_true rfl) dX7_goesOn_181 ⟨Nat.zero_le _, Nat.zero_le _⟩ [] [0, 1] [0, 1] rfl rfl (by decide) (by decide) (by decide) rfl (fun H locs (hh : pq_H D A s (wX7_goesOn cI th ad c_told c_sumZ c_sumE c_stepY c_odd c_even c_taped c_outs c_isFound f43) H locs) => ?_)
    refine lv_icmp_ne (tgt := 193) hx hb dX7_goesOn_184 (by decide) (fun h49 => ?_) (fun h49 => ?_)
    · have hf := pq_brf hf h49
      refine lv_sipush (v := (-192 : Int32)) hx hb dX7_goesOn_193 (by decide) ?_
      exact J196 x1 x2 x3 x4 x5 (-192 : Int32) f43 _ _ hh ls (lv_sub hl [1, 2, 3, 4, 5, 6] rfl) hf
    · have hf := pq_brt hf h49
      refine lv_sipush (v := (192 : Int32)) hx hb dX7_goesOn_187 (by decide) ?_
      refine lv_goto (tgt := 196) hx hb dX7_goesOn_190 (by decide) ?_
      exact J196 x1 x2 x3 x4 x5 (192 : Int32) f43 _ _ hh ls (lv_sub hl [1, 2, 3, 4, 5, 6] rfl) hf
  have J102 : ∀ (x1 : Int32) (x2 : Int32) (x3 : Int32) (x4 : Int32) (x5 : Int32) (x6 : Int32) (x7 : Int32) (f_bands : Nat → Int32) (H : Heap) (locs : List Loc), pq_H D A s (wX7_goesOn cI th ad c_told c_sumZ c_sumE c_stepY c_odd c_even c_taped c_outs c_isFound f_bands) H locs → ∀ ls : Array Slot, lv_has ls 14 [(0, .ref th), (1, .int x1), (2, .int x2), (3, .int x3), (4, .int x4), (5, .int x5), (6, .int x6), (7, .int x7)] → fX7_goesOn_b102   x1 x2 x3 x4 x5 x6 x7 f_bands = some res → W p l e (pq_rm 1 23) s m args below meth c H locs 0 0 Q (F0 m 102 ls []) := by
    intro x1 x2 x3 x4 x5 x6 x7 f_bands H locs hh ls hl hf
    rw [fX7_goesOn_b102] at hf
    refine lv_aload_n hx hb dX7_goesOn_102 rfl (lv_at hl 0 rfl) ?_
    refine lv_iload hx hb dX7_goesOn_103 (lv_at hl 4 rfl) ?_
    obtain ⟨r30, hu31, hf⟩ := pq_clx hf
    refine pq_cvI (n := 1) (As := [.int x4]) C hh (qX7_sign l D cI cL th x4 r30 hu31) (gvX7_sign hs (pq_m16 _ (List.mem_of_getElem? (i := 12) rfl))) rfl (by decide +kernel) ⟨Nat.le_of_ble_eq_true rfl, Nat.le_of_ble_eq_true rfl⟩ 0 6 rfl rfl rfl hl.1 rfl rfl (Nat.le_of_ble_eq_true rfl) dX7_goesOn_105 ⟨Nat.zero_le _, Nat.zero_le _⟩ [] [0, 1] [0, 1] rfl rfl (by decide) (by decide) (by decide) rfl (fun H locs (hh : pq_H D A s (wX7_goesOn cI th ad c_told c_sumZ c_sumE c_stepY c_odd c_even c_taped c_outs c_isFound f_bands) H locs) => ?_)
    refine lv_aload_n hx hb dX7_goesOn_108 rfl (lv_at hl 0 rfl) ?_
    refine lv_iload hx hb dX7_goesOn_109 (lv_at hl 6 rfl) ?_
    obtain ⟨r32, hu33, hf⟩ := pq_clx hf
    refine pq_cvI (n := 1) (As := [.int x6]) C hh (qX7_sign l D cI cL th x6 r32 hu33) (gvX7_sign hs (pq_m16 _ (List.mem_of_getElem? (i := 12) rfl))) rfl (by decide +kernel) ⟨Nat.le_of_ble_eq_true rfl, Nat.le_of_ble_eq_true rfl⟩ 0 6 rfl rfl rfl hl.1 rfl rfl (Nat.le_of_ble_eq_true rfl) dX7_goesOn_111 ⟨Nat.zero_le _, Nat.zero_le _⟩ [] [0, 1] [0, 1] rfl rfl (by decide) (by decide) (by decide) rfl (fun H locs (hh : pq_H D A s (wX7_goesOn cI th ad c_told c_sumZ c_sumE c_stepY c_odd c_even c_taped c_outs c_isFound f_bands) H locs) => ?_)
    refine lv_icmp_ne (tgt := 123) hx hb dX7_goesOn_114 (by decide) (fun h34 => ?_) (fun h34 => ?_)
    · have hf := pq_brf hf h34
      refine lv_bipush (v := (-128 : Int32)) hx hb dX7_goesOn_123 (by decide) ?_
      exact J125 x1 x2 x3 x4 x5 x7 (-128 : Int32) f_bands _ _ hh ls (lv_sub hl [0, 1, 2, 3, 4, 5, 7] rfl) hf
    · have hf := pq_brt hf h34
      refine lv_sipush (v := (128 : Int32)) hx hb dX7_goesOn_117 (by decide) ?_
      refine lv_goto (tgt := 125) hx hb dX7_goesOn_120 (by decide) ?_
      exact J125 x1 x2 x3 x4 x5 x7 (128 : Int32) f_bands _ _ hh ls (lv_sub hl [0, 1, 2, 3, 4, 5, 7] rfl) hf
  have J89 : ∀ (x1 : Int32) (x2 : Int32) (x3 : Int32) (x4 : Int32) (x5 : Int32) (x6 : Int32) (x7 : Int32) (f_bands : Nat → Int32) (H : Heap) (locs : List Loc), pq_H D A s (wX7_goesOn cI th ad c_told c_sumZ c_sumE c_stepY c_odd c_even c_taped c_outs c_isFound f_bands) H locs → ∀ ls : Array Slot, lv_has ls 14 [(0, .ref th), (1, .int x1), (2, .int x2), (3, .int x3), (4, .int x4), (5, .int x5), (6, .int x6), (7, .int x7)] → fX7_goesOn_b89   x1 x2 x3 x4 x5 x6 x7 f_bands = some res → W p l e (pq_rm 1 23) s m args below meth c H locs 0 0 Q (F0 m 89 ls []) := by
    intro x1 x2 x3 x4 x5 x6 x7 f_bands H locs hh ls hl hf
    rw [fX7_goesOn_b89] at hf
    refine lv_iload hx hb dX7_goesOn_89 (lv_at hl 7 rfl) ?_
    refine lv_sipush (v := (32767 : Int32)) hx hb dX7_goesOn_91 (by decide) ?_
    refine lv_icmp_le (tgt := 102) hx hb dX7_goesOn_94 (by decide) (fun h29 => ?_) (fun h29 => ?_)
    · have hf := pq_brt hf h29
      exact J102 x1 x2 x3 x4 x5 x6 x7 f_bands _ _ hh ls (lv_sub hl [0, 1, 2, 3, 4, 5, 6, 7] rfl) hf
    · have hf := pq_brf hf h29
      refine lv_sipush (v := (32767 : Int32)) hx hb dX7_goesOn_97 (by decide) ?_
      refine lv_istore (lv' := [(7, .int (32767 : Int32)), (0, .ref th), (1, .int x1), (2, .int x2), (3, .int x3), (4, .int x4), (5, .int x5), (6, .int x6)]) hx hb dX7_goesOn_100 hl (by decide) rfl (fun ls hl => ?_)
      exact J102 x1 x2 x3 x4 x5 x6 (32767 : Int32) f_bands _ _ hh ls (lv_sub hl [1, 2, 3, 4, 5, 6, 7, 0] rfl) hf
  rw [fX7_goesOn] at hf
  refine lv_aload_n hx hb dX7_goesOn_0 rfl (lv_at hl 0 rfl) ?_
  refine lv_aload_n hx hb dX7_goesOn_1 rfl (lv_at hl 0 rfl) ?_
  refine pq_get C hh i7 0 6 rfl rfl 23 (by decide) kf69 rfl rfl dX7_goesOn_2 ?_
  refine lv_iload_n hx hb dX7_goesOn_5 rfl (lv_at hl 1 rfl) ?_
  refine lv_iconst (v := (2 : Int32)) hx hb dX7_goesOn_6 (by decide) ?_
  refine lv_iadd hx hb dX7_goesOn_7 ?_
  obtain ⟨h1, hf⟩ := pq_rdx hf
  refine pq_iald C hh 1 rfl h1 dX7_goesOn_8 (fun v2 e3 => ?_)
  have hf := hf v2 e3
  refine lv_iload_n hx hb dX7_goesOn_9 rfl (lv_at hl 2 rfl) ?_
  refine lv_iadd hx hb dX7_goesOn_10 ?_
  obtain ⟨r4, hu5, hf⟩ := pq_clx hf
  refine pq_cvI (n := 1) (As := [.int (v2 + a2)]) C hh (qX7_limited l D cI cL th (v2 + a2) r4 hu5) (gvX7_limited hs (pq_m19 _ (List.mem_of_getElem? (i := 11) rfl))) rfl (by decide +kernel) ⟨Nat.le_of_ble_eq_true rfl, Nat.le_of_ble_eq_true rfl⟩ 0 6 rfl rfl rfl hl.1 rfl rfl (Nat.le_of_ble_eq_true rfl) dX7_goesOn_11 ⟨Nat.zero_le _, Nat.zero_le _⟩ [] [0, 1] [0, 1] rfl rfl (by decide) (by decide) (by decide) rfl (fun H locs (hh : pq_H D A s (wX7_goesOn cI th ad c_told c_sumZ c_sumE c_stepY c_odd c_even c_taped c_outs c_isFound f_bands) H locs) => ?_)
  refine lv_istore_n (lv' := [(3, .int r4), (0, .ref th), (1, .int a1), (2, .int a2)]) hx hb dX7_goesOn_14 rfl hl (by decide) rfl (fun ls hl => ?_)
  refine lv_aload_n hx hb dX7_goesOn_15 rfl (lv_at hl 1 rfl) ?_
  refine lv_aload_n hx hb dX7_goesOn_16 rfl (lv_at hl 1 rfl) ?_
  refine pq_get C hh i7 0 6 rfl rfl 23 (by decide) kf69 rfl rfl dX7_goesOn_17 ?_
  refine lv_iload_n hx hb dX7_goesOn_20 rfl (lv_at hl 2 rfl) ?_
  refine lv_iconst (v := (4 : Int32)) hx hb dX7_goesOn_21 (by decide) ?_
  refine lv_iadd hx hb dX7_goesOn_22 ?_
  obtain ⟨h6, hf⟩ := pq_rdx hf
  refine pq_iald C hh 1 rfl h6 dX7_goesOn_23 (fun v7 e8 => ?_)
  have hf := hf v7 e8
  refine lv_iload_n hx hb dX7_goesOn_24 rfl (lv_at hl 3 rfl) ?_
  refine lv_iadd hx hb dX7_goesOn_25 ?_
  obtain ⟨r9, hu10, hf⟩ := pq_clx hf
  refine pq_cvI (n := 1) (As := [.int (v7 + a2)]) C hh (qX7_limited l D cI cL th (v7 + a2) r9 hu10) (gvX7_limited hs (pq_m19 _ (List.mem_of_getElem? (i := 11) rfl))) rfl (by decide +kernel) ⟨Nat.le_of_ble_eq_true rfl, Nat.le_of_ble_eq_true rfl⟩ 0 6 rfl rfl rfl hl.1 rfl rfl (Nat.le_of_ble_eq_true rfl) dX7_goesOn_26 ⟨Nat.zero_le _, Nat.zero_le _⟩ [] [0, 1] [0, 1] rfl rfl (by decide) (by decide) (by decide) rfl (fun H locs (hh : pq_H D A s (wX7_goesOn cI th ad c_told c_sumZ c_sumE c_stepY c_odd c_even c_taped c_outs c_isFound f_bands) H locs) => ?_)
  refine lv_istore (lv' := [(4, .int r9), (3, .int r4), (0, .ref th), (1, .int a1), (2, .int a2)]) hx hb dX7_goesOn_29 hl (by decide) rfl (fun ls hl => ?_)
  refine lv_aload_n hx hb dX7_goesOn_31 rfl (lv_at hl 2 rfl) ?_
  refine pq_get C hh i7 0 6 rfl rfl 23 (by decide) kf69 rfl rfl dX7_goesOn_32 ?_
  refine lv_iload_n hx hb dX7_goesOn_35 rfl (lv_at hl 3 rfl) ?_
  refine lv_bipush (v := (15 : Int32)) hx hb dX7_goesOn_36 (by decide) ?_
  refine lv_iadd hx hb dX7_goesOn_38 ?_
  obtain ⟨h11, hf⟩ := pq_rdx hf
  refine pq_iald C hh 1 rfl h11 dX7_goesOn_39 (fun v12 e13 => ?_)
  have hf := hf v12 e13
  refine lv_istore (lv' := [(5, .int v12), (4, .int r9), (3, .int r4), (0, .ref th), (1, .int a1), (2, .int a2)]) hx hb dX7_goesOn_40 hl (by decide) rfl (fun ls hl => ?_)
  refine lv_aload_n hx hb dX7_goesOn_42 rfl (lv_at hl 3 rfl) ?_
  refine pq_get C hh i7 0 6 rfl rfl 23 (by decide) kf69 rfl rfl dX7_goesOn_43 ?_
  refine lv_iload_n hx hb dX7_goesOn_46 rfl (lv_at hl 4 rfl) ?_
  refine lv_bipush (v := (16 : Int32)) hx hb dX7_goesOn_47 (by decide) ?_
  refine lv_iadd hx hb dX7_goesOn_49 ?_
  obtain ⟨h14, hf⟩ := pq_rdx hf
  refine pq_iald C hh 1 rfl h14 dX7_goesOn_50 (fun v15 e16 => ?_)
  have hf := hf v15 e16
  refine lv_istore (lv' := [(6, .int v15), (5, .int v12), (4, .int r9), (3, .int r4), (0, .ref th), (1, .int a1), (2, .int a2)]) hx hb dX7_goesOn_51 hl (by decide) rfl (fun ls hl => ?_)
  refine lv_aload_n hx hb dX7_goesOn_53 rfl (lv_at hl 4 rfl) ?_
  refine lv_iconst (v := (4 : Int32)) hx hb dX7_goesOn_54 (by decide) ?_
  refine lv_aload_n hx hb dX7_goesOn_55 rfl (lv_at hl 4 rfl) ?_
  refine pq_get C hh i7 0 6 rfl rfl 23 (by decide) kf69 rfl rfl dX7_goesOn_56 ?_
  refine lv_iload_n hx hb dX7_goesOn_59 rfl (lv_at hl 5 rfl) ?_
  refine lv_iconst (v := (5 : Int32)) hx hb dX7_goesOn_60 (by decide) ?_
  refine lv_iadd hx hb dX7_goesOn_61 ?_
  obtain ⟨h17, hf⟩ := pq_rdx hf
  refine pq_iald C hh 1 rfl h17 dX7_goesOn_62 (fun v18 e19 => ?_)
  have hf := hf v18 e19
  refine lv_imul hx hb dX7_goesOn_63 ?_
  obtain ⟨r20, hu21, hf⟩ := pq_clx hf
  refine pq_cvI (n := 1) (As := [.int ((4 : Int32) * v18)]) C hh (qX7_limited l D cI cL th ((4 : Int32) * v18) r20 hu21) (gvX7_limited hs (pq_m19 _ (List.mem_of_getElem? (i := 11) rfl))) rfl (by decide +kernel) ⟨Nat.le_of_ble_eq_true rfl, Nat.le_of_ble_eq_true rfl⟩ 0 6 rfl rfl rfl hl.1 rfl rfl (Nat.le_of_ble_eq_true rfl) dX7_goesOn_64 ⟨Nat.zero_le _, Nat.zero_le _⟩ [] [0, 1] [0, 1] rfl rfl (by decide) (by decide) (by decide) rfl (fun H locs (hh : pq_H D A s (wX7_goesOn cI th ad c_told c_sumZ c_sumE c_stepY c_odd c_even c_taped c_outs c_isFound f_bands) H locs) => ?_)
  refine lv_istore (lv' := [(7, .int r20), (6, .int v15), (5, .int v12), (4, .int r9), (3, .int r4), (0, .ref th), (1, .int a1), (2, .int a2)]) hx hb dX7_goesOn_67 hl (by decide) rfl (fun ls hl => ?_)
  refine lv_aload_n hx hb dX7_goesOn_69 rfl (lv_at hl 5 rfl) ?_
  refine lv_iload hx hb dX7_goesOn_70 (lv_at hl 3 rfl) ?_
  obtain ⟨r22, hu23, hf⟩ := pq_clx hf
  refine pq_cvI (n := 1) (As := [.int r9]) C hh (qX7_sign l D cI cL th r9 r22 hu23) (gvX7_sign hs (pq_m16 _ (List.mem_of_getElem? (i := 12) rfl))) rfl (by decide +kernel) ⟨Nat.le_of_ble_eq_true rfl, Nat.le_of_ble_eq_true rfl⟩ 0 6 rfl rfl rfl hl.1 rfl rfl (Nat.le_of_ble_eq_true rfl) dX7_goesOn_72 ⟨Nat.zero_le _, Nat.zero_le _⟩ [] [0, 1] [0, 1] rfl rfl (by decide) (by decide) (by decide) rfl (fun H locs (hh : pq_H D A s (wX7_goesOn cI th ad c_told c_sumZ c_sumE c_stepY c_odd c_even c_taped c_outs c_isFound f_bands) H locs) => ?_)
  refine lv_aload_n hx hb dX7_goesOn_75 rfl (lv_at hl 5 rfl) ?_
  refine lv_iload hx hb dX7_goesOn_76 (lv_at hl 2 rfl) ?_
  obtain ⟨r24, hu25, hf⟩ := pq_clx hf
  refine pq_cvI (n := 1) (As := [.int v12]) C hh (qX7_sign l D cI cL th v12 r24 hu25) (gvX7_sign hs (pq_m16 _ (List.mem_of_getElem? (i := 12) rfl))) rfl (by decide +kernel) ⟨Nat.le_of_ble_eq_true rfl, Nat.le_of_ble_eq_true rfl⟩ 0 6 rfl rfl rfl hl.1 rfl rfl (Nat.le_of_ble_eq_true rfl) dX7_goesOn_78 ⟨Nat.zero_le _, Nat.zero_le _⟩ [] [0, 1] [0, 1] rfl rfl (by decide) (by decide) (by decide) rfl (fun H locs (hh : pq_H D A s (wX7_goesOn cI th ad c_told c_sumZ c_sumE c_stepY c_odd c_even c_taped c_outs c_isFound f_bands) H locs) => ?_)
  refine lv_icmp_ne (tgt := 89) hx hb dX7_goesOn_81 (by decide) (fun h26 => ?_) (fun h26 => ?_)
  · have hf := pq_brf hf h26
    exact J89 a1 a2 r4 r9 v12 v15 r20 f_bands _ _ hh ls (lv_sub hl [5, 6, 7, 4, 3, 2, 1, 0] rfl) hf
  · have hf := pq_brt hf h26
    refine lv_iload hx hb dX7_goesOn_84 (lv_at hl 0 rfl) ?_
    refine lv_ineg hx hb dX7_goesOn_86 ?_
    refine lv_topi (fun v27 e28 => ?_)
    have hf := pq_nmx hf v27 e28
    refine lv_istore (lv' := [(7, .int v27), (6, .int v15), (5, .int v12), (4, .int r9), (3, .int r4), (0, .ref th), (1, .int a1), (2, .int a2)]) hx hb dX7_goesOn_87 hl (by decide) rfl (fun ls hl => ?_)
    exact J89 a1 a2 r4 r9 v12 v15 v27 f_bands _ _ hh ls (lv_sub hl [5, 6, 7, 4, 3, 2, 1, 0] rfl) hf
set_option maxHeartbeats 4000000 in
set_option maxRecDepth 100000 in
theorem qX7_both (l : Launch) (D : va_G) (cI cL : ClassId) (th : Nat) (ad : Nat → Nat) (c_told : Int32) (c_sumZ : Int32) (c_sumE : Int32) (c_stepY : Int32) (c_odd : Int32) (c_even : Int32) (c_taped : Int32) (c_outs : Int32) (c_isFound : Int32) (f_bands : Nat → Int32) (f_roots : Nat → Int32) (f_ups : Nat → Int32) (f_highs : Nat → Int32) (f_lowWeights : Nat → Int32) (f_highWeights : Nat → Int32) (a1 : Int32) (a2 : Int32) (a3 : Int32) (res : (Nat → Int32)) (hf : fX7_both a1 a2 a3 f_roots f_ups f_highs f_lowWeights f_highWeights f_bands = some res) : pq_CV l yX7_both qsX7_both 2 56 D cI cL [.ref th, .int a1, .int a2, .int a3] (wX7_both cI th ad c_told c_sumZ c_sumE c_stepY c_odd c_even c_taped c_outs c_isFound f_bands f_roots f_ups f_highs f_lowWeights f_highWeights) (wX7_both cI th ad c_told c_sumZ c_sumE c_stepY c_odd c_even c_taped c_outs c_isFound res f_roots f_ups f_highs f_lowWeights f_highWeights) := by
  refine pq_mkV (cc := cX7_both) (maxL := 8) (by decide) rfl (Nat.le_of_ble_eq_true rfl) ?_
  intro p e s m args below meth c Q A C hh hret ls hl
  have hx := C.1
  have hb := C.2.1
  have hml := C.2.2.1
  have hown : s.vm.findClass RX7 = some m.cls := C.2.2.2.1
  have hs : ∀ w ∈ wsL_law, w ∈ qsX7_both := fun _ h => List.mem_cons_of_mem _ h
  have htw : ∀ w ∈ wsL_law, w.before args s = true := fun w h => C.2.2.2.2.1 w (hs w h)
  have hl : lv_has ls 8 [(0, .ref th), (1, .int a1), (2, .int a2), (3, .int a3)] := hl
  have i7 : ∀ w ∈ wsX70, w ∈ qsX7_both := fun w h => hs w (pq_i7 w h)
  have kf69 := htw (.fieldLink RX7 69 "VoiceDeskModel" "bands" "[I") (pq_m4 _ (List.mem_of_getElem? (i := 17) rfl))
  have kf84 := htw (.fieldLink RX7 84 "VoiceDeskModel" "ups" "[I") (pq_m4 _ (List.mem_of_getElem? (i := 22) rfl))
  have kf87 := htw (.fieldLink RX7 87 "VoiceDeskModel" "highs" "[I") (pq_m4 _ (List.mem_of_getElem? (i := 23) rfl))
  have kf90 := htw (.fieldLink RX7 90 "VoiceDeskModel" "lowWeights" "[I") (pq_m5 _ (List.mem_of_getElem? (i := 0) rfl))
  have kf93 := htw (.fieldLink RX7 93 "VoiceDeskModel" "highWeights" "[I") (pq_m5 _ (List.mem_of_getElem? (i := 1) rfl))
  rw [fX7_both] at hf
  refine lv_bipush (v := (46 : Int32)) hx hb dX7_both_0 (by decide) ?_
  refine lv_iload_n hx hb dX7_both_2 rfl (lv_at hl 1 rfl) ?_
  refine lv_imul hx hb dX7_both_3 ?_
  refine lv_topi (fun v1 e2 => ?_)
  have hf := pq_nmx hf v1 e2
  refine lv_istore (lv' := [(4, .int v1), (0, .ref th), (1, .int a1), (2, .int a2), (3, .int a3)]) hx hb dX7_both_4 hl (by decide) rfl (fun ls hl => ?_)
  refine lv_iload_n hx hb dX7_both_6 rfl (lv_at hl 3 rfl) ?_
  refine lv_iconst (v := (2 : Int32)) hx hb dX7_both_7 (by decide) ?_
  refine lv_ishr hx hb dX7_both_8 ?_
  refine lv_topi (fun v3 e4 => ?_)
  have hf := pq_nmx hf v3 e4
  refine lv_istore (lv' := [(5, .int v3), (4, .int v1), (0, .ref th), (1, .int a1), (2, .int a2), (3, .int a3)]) hx hb dX7_both_9 hl (by decide) rfl (fun ls hl => ?_)
  refine lv_aload_n hx hb dX7_both_11 rfl (lv_at hl 2 rfl) ?_
  refine pq_get C hh i7 0 6 rfl rfl 23 (by decide) kf69 rfl rfl dX7_both_12 ?_
  refine lv_iload hx hb dX7_both_15 (lv_at hl 1 rfl) ?_
  refine lv_iconst (v := (1 : Int32)) hx hb dX7_both_17 (by decide) ?_
  refine lv_iadd hx hb dX7_both_18 ?_
  obtain ⟨h5, hf⟩ := pq_rdx hf
  refine pq_iald C hh 1 rfl h5 dX7_both_19 (fun v6 e7 => ?_)
  have hf := hf v6 e7
  refine lv_aload_n hx hb dX7_both_20 rfl (lv_at hl 2 rfl) ?_
  refine pq_get C hh i7 0 6 rfl rfl 28 (by decide) kf84 rfl rfl dX7_both_21 ?_
  refine lv_iload hx hb dX7_both_24 (lv_at hl 0 rfl) ?_
  obtain ⟨h8, hf⟩ := pq_rdx hf
  refine pq_iald C hh 3 rfl h8 dX7_both_26 (fun v9 e10 => ?_)
  have hf := hf v9 e10
  refine lv_imul hx hb dX7_both_27 ?_
  refine lv_bipush (v := (15 : Int32)) hx hb dX7_both_28 (by decide) ?_
  refine lv_ishr hx hb dX7_both_30 ?_
  refine lv_topi (fun v11 e12 => ?_)
  have hf := pq_nmx hf v11 e12
  refine lv_istore (lv' := [(6, .int v11), (5, .int v3), (4, .int v1), (0, .ref th), (1, .int a1), (2, .int a2), (3, .int a3)]) hx hb dX7_both_31 hl (by decide) rfl (fun ls hl => ?_)
  refine lv_aload_n hx hb dX7_both_33 rfl (lv_at hl 3 rfl) ?_
  refine pq_get C hh i7 0 6 rfl rfl 23 (by decide) kf69 rfl rfl dX7_both_34 ?_
  refine lv_iload hx hb dX7_both_37 (lv_at hl 2 rfl) ?_
  refine lv_aload_n hx hb dX7_both_39 rfl (lv_at hl 3 rfl) ?_
  refine lv_bipush (v := (127 : Int32)) hx hb dX7_both_40 (by decide) ?_
  refine lv_aload_n hx hb dX7_both_42 rfl (lv_at hl 3 rfl) ?_
  refine pq_get C hh i7 0 6 rfl rfl 23 (by decide) kf69 rfl rfl dX7_both_43 ?_
  refine lv_iload hx hb dX7_both_46 (lv_at hl 2 rfl) ?_
  obtain ⟨h13, hf⟩ := pq_rdx hf
  refine pq_iald C hh 1 rfl h13 dX7_both_48 (fun v14 e15 => ?_)
  have hf := hf v14 e15
  refine lv_imul hx hb dX7_both_49 ?_
  refine lv_bipush (v := (7 : Int32)) hx hb dX7_both_50 (by decide) ?_
  refine lv_ishr hx hb dX7_both_52 ?_
  refine lv_aload_n hx hb dX7_both_53 rfl (lv_at hl 3 rfl) ?_
  refine pq_get C hh i7 0 6 rfl rfl 30 (by decide) kf90 rfl rfl dX7_both_54 ?_
  refine lv_iload hx hb dX7_both_57 (lv_at hl 1 rfl) ?_
  obtain ⟨h16, hf⟩ := pq_rdx hf
  refine pq_iald C hh 5 rfl h16 dX7_both_59 (fun v17 e18 => ?_)
  have hf := hf v17 e18
  refine lv_iadd hx hb dX7_both_60 ?_
  refine lv_iconst (v := (0 : Int32)) hx hb dX7_both_61 (by decide) ?_
  refine lv_sipush (v := (18432 : Int32)) hx hb dX7_both_62 (by decide) ?_
  obtain ⟨r19, hu20, hf⟩ := pq_clx hf
  refine pq_cvI (n := 3) (As := [.int ((((127 : Int32) * v14) >>> ((7 : Int32) &&& 31)) + v17), .int (0 : Int32), .int (18432 : Int32)]) C hh (qX7_cut l D cI cL th ((((127 : Int32) * v14) >>> ((7 : Int32) &&& 31)) + v17) (0 : Int32) (18432 : Int32) r19 hu20) (gvX7_cut hs (pq_m18 _ (List.mem_of_getElem? (i := 19) rfl))) rfl (by decide +kernel) ⟨Nat.le_of_ble_eq_true rfl, Nat.le_of_ble_eq_true rfl⟩ 0 6 rfl rfl rfl hl.1 rfl rfl (Nat.le_of_ble_eq_true rfl) dX7_both_65 ⟨Nat.zero_le _, Nat.zero_le _⟩ [] [0, 1, 2, 3, 4, 5, 6] [0, 1, 2, 3, 4, 5, 6] rfl rfl (by decide) (by decide) (by decide) rfl (fun H locs (hh : pq_H D A s (wX7_both cI th ad c_told c_sumZ c_sumE c_stepY c_odd c_even c_taped c_outs c_isFound f_bands f_roots f_ups f_highs f_lowWeights f_highWeights) H locs) => ?_)
  obtain ⟨h21, hf⟩ := pq_wrx hf
  refine pq_iast C hh 1 rfl h21 dX7_both_68 (fun H locs f22 e23 (hh : pq_H D A s (wX7_both cI th ad c_told c_sumZ c_sumE c_stepY c_odd c_even c_taped c_outs c_isFound f22 f_roots f_ups f_highs f_lowWeights f_highWeights) H locs) => ?_)
  have hf := hf f22 e23
  refine lv_aload_n hx hb dX7_both_69 rfl (lv_at hl 3 rfl) ?_
  refine pq_get C hh i7 0 6 rfl rfl 23 (by decide) kf69 rfl rfl dX7_both_70 ?_
  refine lv_iload hx hb dX7_both_73 (lv_at hl 2 rfl) ?_
  refine lv_iconst (v := (1 : Int32)) hx hb dX7_both_75 (by decide) ?_
  refine lv_iadd hx hb dX7_both_76 ?_
  refine lv_aload_n hx hb dX7_both_77 rfl (lv_at hl 3 rfl) ?_
  refine lv_aload_n hx hb dX7_both_78 rfl (lv_at hl 3 rfl) ?_
  refine pq_get C hh i7 0 6 rfl rfl 23 (by decide) kf69 rfl rfl dX7_both_79 ?_
  refine lv_iload hx hb dX7_both_82 (lv_at hl 2 rfl) ?_
  obtain ⟨h24, hf⟩ := pq_rdx hf
  refine pq_iald C hh 1 rfl h24 dX7_both_84 (fun v25 e26 => ?_)
  have hf := hf v25 e26
  refine lv_bipush (v := (8 : Int32)) hx hb dX7_both_85 (by decide) ?_
  obtain ⟨r27, hu28, hf⟩ := pq_clx hf
  refine pq_cvI (n := 2) (As := [.int v25, .int (8 : Int32)]) C hh (qX7_root l D cI cL th ad c_told c_sumZ c_sumE c_stepY c_odd c_even c_taped c_outs c_isFound f_roots v25 (8 : Int32) r27 hu28) (gvX7_root hs (pq_m20 _ (List.mem_of_getElem? (i := 13) rfl))) rfl (by decide +kernel) ⟨Nat.le_of_ble_eq_true rfl, Nat.le_of_ble_eq_true rfl⟩ 0 6 rfl rfl rfl hl.1 rfl rfl (Nat.le_of_ble_eq_true rfl) dX7_both_87 ⟨Nat.zero_le _, Nat.zero_le _⟩ [0, 2] [1, 3, 4, 5, 6] [5, 0, 6, 1, 2, 3, 4] rfl rfl (by decide) (by decide) (by decide) rfl (fun H locs (hh : pq_H D A s (wX7_both cI th ad c_told c_sumZ c_sumE c_stepY c_odd c_even c_taped c_outs c_isFound f22 f_roots f_ups f_highs f_lowWeights f_highWeights) H locs) => ?_)
  obtain ⟨h29, hf⟩ := pq_wrx hf
  refine pq_iast C hh 1 rfl h29 dX7_both_90 (fun H locs f30 e31 (hh : pq_H D A s (wX7_both cI th ad c_told c_sumZ c_sumE c_stepY c_odd c_even c_taped c_outs c_isFound f30 f_roots f_ups f_highs f_lowWeights f_highWeights) H locs) => ?_)
  have hf := hf f30 e31
  refine lv_aload_n hx hb dX7_both_91 rfl (lv_at hl 3 rfl) ?_
  refine lv_iload hx hb dX7_both_92 (lv_at hl 2 rfl) ?_
  refine lv_iload hx hb dX7_both_94 (lv_at hl 0 rfl) ?_
  obtain ⟨f32, hu33, hf⟩ := pq_clx hf
  refine pq_cvV (n := 2) (As := [.int v1, .int v11]) C hh (qX7_goesOn l D cI cL th ad c_told c_sumZ c_sumE c_stepY c_odd c_even c_taped c_outs c_isFound f30 v1 v11 f32 hu33) (gvX7_goesOn hs (pq_m20 _ (List.mem_of_getElem? (i := 17) rfl))) rfl (by decide +kernel) ⟨Nat.le_of_ble_eq_true rfl, Nat.le_of_ble_eq_true rfl⟩ 0 6 rfl rfl rfl hl.1 rfl rfl (Nat.le_of_ble_eq_true rfl) dX7_both_96 ⟨Nat.zero_le _, Nat.zero_le _⟩ [0, 1] [2, 3, 4, 5, 6] [5, 6, 0, 1, 2, 3, 4] rfl rfl (by decide) (by decide) (by decide) rfl (fun H locs (hh : pq_H D A s (wX7_both cI th ad c_told c_sumZ c_sumE c_stepY c_odd c_even c_taped c_outs c_isFound f32 f_roots f_ups f_highs f_lowWeights f_highWeights) H locs) => ?_)
  refine lv_aload_n hx hb dX7_both_99 rfl (lv_at hl 3 rfl) ?_
  refine pq_get C hh i7 0 6 rfl rfl 23 (by decide) kf69 rfl rfl dX7_both_100 ?_
  refine lv_iload hx hb dX7_both_103 (lv_at hl 2 rfl) ?_
  refine lv_bipush (v := (24 : Int32)) hx hb dX7_both_105 (by decide) ?_
  refine lv_iadd hx hb dX7_both_107 ?_
  obtain ⟨h34, hf⟩ := pq_rdx hf
  refine pq_iald C hh 1 rfl h34 dX7_both_108 (fun v35 e36 => ?_)
  have hf := hf v35 e36
  refine lv_aload_n hx hb dX7_both_109 rfl (lv_at hl 3 rfl) ?_
  refine pq_get C hh i7 0 6 rfl rfl 29 (by decide) kf87 rfl rfl dX7_both_110 ?_
  refine lv_iload_n hx hb dX7_both_113 rfl (lv_at hl 6 rfl) ?_
  obtain ⟨h37, hf⟩ := pq_rdx hf
  refine pq_iald C hh 4 rfl h37 dX7_both_114 (fun v38 e39 => ?_)
  have hf := hf v38 e39
  refine lv_imul hx hb dX7_both_115 ?_
  refine lv_bipush (v := (15 : Int32)) hx hb dX7_both_116 (by decide) ?_
  refine lv_ishr hx hb dX7_both_118 ?_
  refine lv_topi (fun v40 e41 => ?_)
  have hf := pq_nmx hf v40 e41
  refine lv_istore (lv' := [(7, .int v40), (6, .int v11), (5, .int v3), (4, .int v1), (0, .ref th), (1, .int a1), (2, .int a2), (3, .int a3)]) hx hb dX7_both_119 hl (by decide) rfl (fun ls hl => ?_)
  refine lv_aload_n hx hb dX7_both_121 rfl (lv_at hl 4 rfl) ?_
  refine pq_get C hh i7 0 6 rfl rfl 23 (by decide) kf69 rfl rfl dX7_both_122 ?_
  refine lv_iload hx hb dX7_both_125 (lv_at hl 3 rfl) ?_
  refine lv_bipush (v := (23 : Int32)) hx hb dX7_both_127 (by decide) ?_
  refine lv_iadd hx hb dX7_both_129 ?_
  refine lv_aload_n hx hb dX7_both_130 rfl (lv_at hl 4 rfl) ?_
  refine lv_bipush (v := (127 : Int32)) hx hb dX7_both_131 (by decide) ?_
  refine lv_aload_n hx hb dX7_both_133 rfl (lv_at hl 4 rfl) ?_
  refine pq_get C hh i7 0 6 rfl rfl 23 (by decide) kf69 rfl rfl dX7_both_134 ?_
  refine lv_iload hx hb dX7_both_137 (lv_at hl 3 rfl) ?_
  refine lv_bipush (v := (23 : Int32)) hx hb dX7_both_139 (by decide) ?_
  refine lv_iadd hx hb dX7_both_141 ?_
  obtain ⟨h42, hf⟩ := pq_rdx hf
  refine pq_iald C hh 1 rfl h42 dX7_both_142 (fun v43 e44 => ?_)
  have hf := hf v43 e44
  refine lv_imul hx hb dX7_both_143 ?_
  refine lv_bipush (v := (7 : Int32)) hx hb dX7_both_144 (by decide) ?_
  refine lv_ishr hx hb dX7_both_146 ?_
  refine lv_aload_n hx hb dX7_both_147 rfl (lv_at hl 4 rfl) ?_
  refine pq_get C hh i7 0 6 rfl rfl 31 (by decide) kf93 rfl rfl dX7_both_148 ?_
  refine lv_iload_n hx hb dX7_both_151 rfl (lv_at hl 7 rfl) ?_
  obtain ⟨h45, hf⟩ := pq_rdx hf
  refine pq_iald C hh 6 rfl h45 dX7_both_152 (fun v46 e47 => ?_)
  have hf := hf v46 e47
  refine lv_iadd hx hb dX7_both_153 ?_
  refine lv_iconst (v := (0 : Int32)) hx hb dX7_both_154 (by decide) ?_
  refine lv_sipush (v := (22528 : Int32)) hx hb dX7_both_155 (by decide) ?_
  obtain ⟨r48, hu49, hf⟩ := pq_clx hf
  refine pq_cvI (n := 3) (As := [.int ((((127 : Int32) * v43) >>> ((7 : Int32) &&& 31)) + v46), .int (0 : Int32), .int (22528 : Int32)]) C hh (qX7_cut l D cI cL th ((((127 : Int32) * v43) >>> ((7 : Int32) &&& 31)) + v46) (0 : Int32) (22528 : Int32) r48 hu49) (gvX7_cut hs (pq_m18 _ (List.mem_of_getElem? (i := 19) rfl))) rfl (by decide +kernel) ⟨Nat.le_of_ble_eq_true rfl, Nat.le_of_ble_eq_true rfl⟩ 0 6 rfl rfl rfl hl.1 rfl rfl (Nat.le_of_ble_eq_true rfl) dX7_both_158 ⟨Nat.zero_le _, Nat.zero_le _⟩ [] [0, 1, 2, 3, 4, 5, 6] [0, 1, 2, 3, 4, 5, 6] rfl rfl (by decide) (by decide) (by decide) rfl (fun H locs (hh : pq_H D A s (wX7_both cI th ad c_told c_sumZ c_sumE c_stepY c_odd c_even c_taped c_outs c_isFound f32 f_roots f_ups f_highs f_lowWeights f_highWeights) H locs) => ?_)
  obtain ⟨h50, hf⟩ := pq_wrx hf
  refine pq_iast C hh 1 rfl h50 dX7_both_161 (fun H locs f51 e52 (hh : pq_H D A s (wX7_both cI th ad c_told c_sumZ c_sumE c_stepY c_odd c_even c_taped c_outs c_isFound f51 f_roots f_ups f_highs f_lowWeights f_highWeights) H locs) => ?_)
  have hf := hf f51 e52
  refine lv_aload_n hx hb dX7_both_162 rfl (lv_at hl 4 rfl) ?_
  refine pq_get C hh i7 0 6 rfl rfl 23 (by decide) kf69 rfl rfl dX7_both_163 ?_
  refine lv_iload hx hb dX7_both_166 (lv_at hl 3 rfl) ?_
  refine lv_bipush (v := (24 : Int32)) hx hb dX7_both_168 (by decide) ?_
  refine lv_iadd hx hb dX7_both_170 ?_
  refine lv_aload_n hx hb dX7_both_171 rfl (lv_at hl 4 rfl) ?_
  refine lv_aload_n hx hb dX7_both_172 rfl (lv_at hl 4 rfl) ?_
  refine pq_get C hh i7 0 6 rfl rfl 23 (by decide) kf69 rfl rfl dX7_both_173 ?_
  refine lv_iload hx hb dX7_both_176 (lv_at hl 3 rfl) ?_
  refine lv_bipush (v := (23 : Int32)) hx hb dX7_both_178 (by decide) ?_
  refine lv_iadd hx hb dX7_both_180 ?_
  obtain ⟨h53, hf⟩ := pq_rdx hf
  refine pq_iald C hh 1 rfl h53 dX7_both_181 (fun v54 e55 => ?_)
  have hf := hf v54 e55
  refine lv_bipush (v := (10 : Int32)) hx hb dX7_both_182 (by decide) ?_
  obtain ⟨r56, hu57, hf⟩ := pq_clx hf
  refine pq_cvI (n := 2) (As := [.int v54, .int (10 : Int32)]) C hh (qX7_root l D cI cL th ad c_told c_sumZ c_sumE c_stepY c_odd c_even c_taped c_outs c_isFound f_roots v54 (10 : Int32) r56 hu57) (gvX7_root hs (pq_m20 _ (List.mem_of_getElem? (i := 13) rfl))) rfl (by decide +kernel) ⟨Nat.le_of_ble_eq_true rfl, Nat.le_of_ble_eq_true rfl⟩ 0 6 rfl rfl rfl hl.1 rfl rfl (Nat.le_of_ble_eq_true rfl) dX7_both_184 ⟨Nat.zero_le _, Nat.zero_le _⟩ [0, 2] [1, 3, 4, 5, 6] [5, 0, 6, 1, 2, 3, 4] rfl rfl (by decide) (by decide) (by decide) rfl (fun H locs (hh : pq_H D A s (wX7_both cI th ad c_told c_sumZ c_sumE c_stepY c_odd c_even c_taped c_outs c_isFound f51 f_roots f_ups f_highs f_lowWeights f_highWeights) H locs) => ?_)
  obtain ⟨h58, hf⟩ := pq_wrx hf
  refine pq_iast C hh 1 rfl h58 dX7_both_187 (fun H locs f59 e60 (hh : pq_H D A s (wX7_both cI th ad c_told c_sumZ c_sumE c_stepY c_odd c_even c_taped c_outs c_isFound f59 f_roots f_ups f_highs f_lowWeights f_highWeights) H locs) => ?_)
  have hf := hf f59 e60
  refine lv_aload_n hx hb dX7_both_188 rfl (lv_at hl 4 rfl) ?_
  refine lv_iload hx hb dX7_both_189 (lv_at hl 3 rfl) ?_
  refine lv_bipush (v := (23 : Int32)) hx hb dX7_both_191 (by decide) ?_
  refine lv_iadd hx hb dX7_both_193 ?_
  refine lv_iload hx hb dX7_both_194 (lv_at hl 0 rfl) ?_
  obtain ⟨f61, hu62, hf⟩ := pq_clx hf
  refine pq_cvV (n := 2) (As := [.int (v1 + (23 : Int32)), .int v40]) C hh (qX7_goesOn l D cI cL th ad c_told c_sumZ c_sumE c_stepY c_odd c_even c_taped c_outs c_isFound f59 (v1 + (23 : Int32)) v40 f61 hu62) (gvX7_goesOn hs (pq_m20 _ (List.mem_of_getElem? (i := 17) rfl))) rfl (by decide +kernel) ⟨Nat.le_of_ble_eq_true rfl, Nat.le_of_ble_eq_true rfl⟩ 0 6 rfl rfl rfl hl.1 rfl rfl (Nat.le_of_ble_eq_true rfl) dX7_both_196 ⟨Nat.zero_le _, Nat.zero_le _⟩ [0, 1] [2, 3, 4, 5, 6] [5, 6, 0, 1, 2, 3, 4] rfl rfl (by decide) (by decide) (by decide) rfl (fun H locs (hh : pq_H D A s (wX7_both cI th ad c_told c_sumZ c_sumE c_stepY c_odd c_even c_taped c_outs c_isFound f61 f_roots f_ups f_highs f_lowWeights f_highWeights) H locs) => ?_)
  obtain rfl := Option.some.inj hf
  exact hret _ _ _ ls hh dX7_both_199
