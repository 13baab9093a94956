set_option maxHeartbeats 4000000 in
set_option maxRecDepth 100000 in
theorem qX7_comes (l : Launch) (D : va_G) (cI cL : ClassId) (th : Nat) (ad : Nat → Nat) (c_told : Int32) (c_sumZ : Int32) (c_sumE : Int32) (c_stepY : Int32) (c_odd : Int32) (c_even : Int32) (c_taped : Int32) (c_outs : Int32) (c_isFound : Int32) (f_g : Nat → Int32) (f_table2 : Nat → Int32) (f_table3 : Nat → Int32) (f_table4 : Nat → Int32) (f_table5 : Nat → Int32) (f_weight2 : Nat → Int32) (f_weight3 : Nat → Int32) (f_weight4 : Nat → Int32) (f_weight5 : Nat → Int32) (f_pace2 : Nat → Int32) (f_pace3 : Nat → Int32) (f_pace4 : Nat → Int32) (f_pace5 : Nat → Int32) (a1 : Int32) (a2 : Int32) (a3 : Int32) (res : Int32 × (Nat → Int32)) (hf : fX7_comes a1 a2 a3 c_sumZ c_sumE c_stepY f_table2 f_table3 f_table4 f_table5 f_weight2 f_weight3 f_weight4 f_weight5 f_pace2 f_pace3 f_pace4 f_pace5 f_g = some res) : pq_CI l yX7_comes qsX7_comes 2 52 D cI cL [.ref th, .int a1, .int a2, .int a3] (wX7_comes cI th ad c_told c_sumZ c_sumE c_stepY c_odd c_even c_taped c_outs c_isFound f_g f_table2 f_table3 f_table4 f_table5 f_weight2 f_weight3 f_weight4 f_weight5 f_pace2 f_pace3 f_pace4 f_pace5) (wX7_comes cI th ad c_told c_sumZ c_sumE c_stepY c_odd c_even c_taped c_outs c_isFound res.2 f_table2 f_table3 f_table4 f_table5 f_weight2 f_weight3 f_weight4 f_weight5 f_pace2 f_pace3 f_pace4 f_pace5) res.1 := by
  refine pq_mkI (cc := cX7_comes) (maxL := 16) (RT := .int) (by decide) rfl (Nat.le_of_ble_eq_true rfl) ?_
  intro p e s m args below meth c Q A C hh hret ls hl
  have hx := C.1
  have hb := C.2.1
  have hml := C.2.2.1
  have hown : s.vm.findClass RX7 = some m.cls := C.2.2.2.1
  have hs : ∀ w ∈ wsL_law, w ∈ qsX7_comes := fun _ h => List.mem_cons_of_mem _ h
  have htw : ∀ w ∈ wsL_law, w.before args s = true := fun w h => C.2.2.2.2.1 w (hs w h)
  have hl : lv_has ls 16 [(0, .ref th), (1, .int a1), (2, .int a2), (3, .int a3)] := hl
  have i7 : ∀ w ∈ wsX70, w ∈ qsX7_comes := fun w h => hs w (pq_i7 w h)
  have kf143 := htw (.fieldLink RX7 143 "VoiceDeskModel" "sumZ" "I") (pq_m17 _ (List.mem_of_getElem? (i := 10) rfl))
  have kf146 := htw (.fieldLink RX7 146 "VoiceDeskModel" "sumE" "I") (pq_m17 _ (List.mem_of_getElem? (i := 4) rfl))
  have kf149 := htw (.fieldLink RX7 149 "VoiceDeskModel" "stepY" "I") (pq_m17 _ (List.mem_of_getElem? (i := 5) rfl))
  have kf17 := htw (.fieldLink RX7 17 "VoiceDeskModel" "g" "[I") (pq_m3 _ (List.mem_of_getElem? (i := 23) rfl))
  have J844 : ∀ (x9 : Int32) (f_g : Nat → Int32) (H : Heap) (locs : List Loc), pq_H D A s (wX7_comes cI th ad c_told c_sumZ c_sumE c_stepY c_odd c_even c_taped c_outs c_isFound f_g f_table2 f_table3 f_table4 f_table5 f_weight2 f_weight3 f_weight4 f_weight5 f_pace2 f_pace3 f_pace4 f_pace5) H locs → ∀ ls : Array Slot, lv_has ls 16 [(0, .ref th), (9, .int x9)] → fX7_comes_b844  c_sumZ c_sumE c_stepY f_table2 f_table3 f_table4 f_table5 f_weight2 f_weight3 f_weight4 f_weight5 f_pace2 f_pace3 f_pace4 f_pace5 x9 f_g = some res → W p l e (pq_rm 2 52) s m args below meth c H locs 0 0 Q (F0 m 844 ls []) := by
    intro x9 f_g H locs hh ls hl hf
    rw [fX7_comes_b844] at hf
    refine lv_aload_n hx hb dX7_comes_844 rfl (lv_at hl 0 rfl) ?_
    refine lv_iload hx hb dX7_comes_845 (lv_at hl 1 rfl) ?_
    refine lv_iconst (v := (4 : Int32)) hx hb dX7_comes_847 (by decide) ?_
    refine lv_imul hx hb dX7_comes_848 ?_
    obtain ⟨r148, hu149, hf⟩ := pq_clx hf
    refine pq_cvI (n := 1) (As := [.int (x9 * (4 : Int32))]) C hh (qX7_limited l D cI cL th (x9 * (4 : Int32)) r148 hu149) (gvX7_limited hs (pq_m19 _ (List.mem_of_getElem? (i := 11) rfl))) rfl (by decide +kernel) ⟨Nat.le_of_ble_eq_true rfl, Nat.le_of_ble_eq_true rfl⟩ 0 6 rfl rfl rfl hl.1 rfl rfl (Nat.le_of_ble_eq_true rfl) dX7_comes_849 ⟨Nat.zero_le _, Nat.zero_le _⟩ [] [0, 1, 2, 3, 4, 5, 6, 7, 8, 9, 10, 11, 12, 13] [0, 1, 2, 3, 4, 5, 6, 7, 8, 9, 10, 11, 12, 13] rfl rfl (by decide) (by decide) (by decide) rfl (fun H locs (hh : pq_H D A s (wX7_comes cI th ad c_told c_sumZ c_sumE c_stepY c_odd c_even c_taped c_outs c_isFound f_g f_table2 f_table3 f_table4 f_table5 f_weight2 f_weight3 f_weight4 f_weight5 f_pace2 f_pace3 f_pace4 f_pace5) H locs) => ?_)
    obtain rfl := Option.some.inj hf
    exact hret _ _ _ ls hh dX7_comes_852 rfl
  have J830 : ∀ (x4 : Int32) (x9 : Int32) (s1 : Int32) (s2 : Int32) (s3 : Int32) (f_g : Nat → Int32) (H : Heap) (locs : List Loc), pq_H D A s (wX7_comes cI th ad c_told c_sumZ c_sumE c_stepY c_odd c_even c_taped c_outs c_isFound f_g f_table2 f_table3 f_table4 f_table5 f_weight2 f_weight3 f_weight4 f_weight5 f_pace2 f_pace3 f_pace4 f_pace5) H locs → ∀ ls : Array Slot, lv_has ls 16 [(0, .ref th), (4, .int x4), (9, .int x9)] → fX7_comes_b830  c_sumZ c_sumE c_stepY f_table2 f_table3 f_table4 f_table5 f_weight2 f_weight3 f_weight4 f_weight5 f_pace2 f_pace3 f_pace4 f_pace5 x4 x9 s1 s2 s3 f_g = some res → W p l e (pq_rm 2 52) s m args below meth c H locs 0 0 Q (F0 m 830 ls [.int s3, .int s2, .int s1, .ref (ad 3)]) := by
    intro x4 x9 s1 s2 s3 f_g H locs hh ls hl hf
    rw [fX7_comes_b830] at hf
    refine lv_aload_n hx hb dX7_comes_830 rfl (lv_at hl 0 rfl) ?_
    refine pq_get C hh i7 0 6 rfl rfl 3 (by decide) kf17 rfl rfl dX7_comes_831 ?_
    refine lv_iload hx hb dX7_comes_834 (lv_at hl 1 rfl) ?_
    refine lv_iconst (v := (4 : Int32)) hx hb dX7_comes_836 (by decide) ?_
    refine lv_iadd hx hb dX7_comes_837 ?_
    obtain ⟨h150, hf⟩ := pq_rdx hf
    refine pq_iald C hh 1 rfl h150 dX7_comes_838 (fun v151 e152 => ?_)
    have hf := hf v151 e152
    refine lv_isub hx hb dX7_comes_839 ?_
    refine lv_iconst (v := (4 : Int32)) hx hb dX7_comes_840 (by decide) ?_
    refine lv_ishr hx hb dX7_comes_841 ?_
    refine lv_iadd hx hb dX7_comes_842 ?_
    obtain ⟨h153, hf⟩ := pq_wrx hf
    refine pq_iast C hh 1 rfl h153 dX7_comes_843 (fun H locs f154 e155 (hh : pq_H D A s (wX7_comes cI th ad c_told c_sumZ c_sumE c_stepY c_odd c_even c_taped c_outs c_isFound f154 f_table2 f_table3 f_table4 f_table5 f_weight2 f_weight3 f_weight4 f_weight5 f_pace2 f_pace3 f_pace4 f_pace5) H locs) => ?_)
    have hf := hf f154 e155
    exact J844 x9 f154 _ _ hh ls (lv_sub hl [0, 2] rfl) hf
  have J778 : ∀ (x4 : Int32) (x9 : Int32) (x11 : Int32) (s0 : Int32) (f_g : Nat → Int32) (H : Heap) (locs : List Loc), pq_H D A s (wX7_comes cI th ad c_told c_sumZ c_sumE c_stepY c_odd c_even c_taped c_outs c_isFound f_g f_table2 f_table3 f_table4 f_table5 f_weight2 f_weight3 f_weight4 f_weight5 f_pace2 f_pace3 f_pace4 f_pace5) H locs → ∀ ls : Array Slot, lv_has ls 16 [(0, .ref th), (4, .int x4), (9, .int x9), (11, .int x11)] → fX7_comes_b778  c_sumZ c_sumE c_stepY f_table2 f_table3 f_table4 f_table5 f_weight2 f_weight3 f_weight4 f_weight5 f_pace2 f_pace3 f_pace4 f_pace5 x4 x9 x11 s0 f_g = some res → W p l e (pq_rm 2 52) s m args below meth c H locs 0 0 Q (F0 m 778 ls [.int s0]) := by
    intro x4 x9 x11 s0 f_g H locs hh ls hl hf
    rw [fX7_comes_b778] at hf
    refine lv_istore (lv' := [(15, .int s0), (0, .ref th), (4, .int x4), (9, .int x9), (11, .int x11)]) hx hb dX7_comes_778 hl (by decide) rfl (fun ls hl => ?_)
    refine lv_iload hx hb dX7_comes_780 (lv_at hl 4 rfl) ?_
    refine lv_iconst (v := (1 : Int32)) hx hb dX7_comes_782 (by decide) ?_
    refine lv_icmp_ne (tgt := 801) hx hb dX7_comes_783 (by decide) (fun h140 => ?_) (fun h140 => ?_)
    · have hf := pq_brf hf h140
      refine lv_aload_n hx hb dX7_comes_801 rfl (lv_at hl 1 rfl) ?_
      refine pq_get C hh i7 0 6 rfl rfl 3 (by decide) kf17 rfl rfl dX7_comes_802 ?_
      refine lv_iload hx hb dX7_comes_805 (lv_at hl 2 rfl) ?_
      refine lv_iconst (v := (4 : Int32)) hx hb dX7_comes_807 (by decide) ?_
      refine lv_iadd hx hb dX7_comes_808 ?_
      refine lv_aload_n hx hb dX7_comes_809 rfl (lv_at hl 1 rfl) ?_
      refine pq_get C hh i7 0 6 rfl rfl 3 (by decide) kf17 rfl rfl dX7_comes_810 ?_
      refine lv_iload hx hb dX7_comes_813 (lv_at hl 2 rfl) ?_
      refine lv_iconst (v := (4 : Int32)) hx hb dX7_comes_815 (by decide) ?_
      refine lv_iadd hx hb dX7_comes_816 ?_
      obtain ⟨h141, hf⟩ := pq_rdx hf
      refine pq_iald C hh 1 rfl h141 dX7_comes_817 (fun v142 e143 => ?_)
      have hf := hf v142 e143
      refine lv_iload hx hb dX7_comes_818 (lv_at hl 0 rfl) ?_
      refine lv_if_eq (tgt := 829) hx hb dX7_comes_820 (by decide) (fun h144 => ?_) (fun h144 => ?_)
      · have hf := pq_brt hf h144
        refine lv_iconst (v := (0 : Int32)) hx hb dX7_comes_829 (by decide) ?_
        exact J830 x4 x9 (x4 + (4 : Int32)) v142 (0 : Int32) f_g _ _ hh ls (lv_sub hl [1, 2, 3] rfl) hf
      · have hf := pq_brf hf h144
        refine lv_sipush (v := (512 : Int32)) hx hb dX7_comes_823 (by decide) ?_
        refine lv_goto (tgt := 830) hx hb dX7_comes_826 (by decide) ?_
        exact J830 x4 x9 (x4 + (4 : Int32)) v142 (512 : Int32) f_g _ _ hh ls (lv_sub hl [1, 2, 3] rfl) hf
    · have hf := pq_brt hf h140
      refine lv_aload_n hx hb dX7_comes_786 rfl (lv_at hl 1 rfl) ?_
      refine pq_get C hh i7 0 6 rfl rfl 3 (by decide) kf17 rfl rfl dX7_comes_787 ?_
      refine lv_iload hx hb dX7_comes_790 (lv_at hl 2 rfl) ?_
      refine lv_iconst (v := (4 : Int32)) hx hb dX7_comes_792 (by decide) ?_
      refine lv_iadd hx hb dX7_comes_793 ?_
      refine lv_sipush (v := (256 : Int32)) hx hb dX7_comes_794 (by decide) ?_
      obtain ⟨h145, hf⟩ := pq_wrx hf
      refine pq_iast C hh 1 rfl h145 dX7_comes_797 (fun H locs f146 e147 (hh : pq_H D A s (wX7_comes cI th ad c_told c_sumZ c_sumE c_stepY c_odd c_even c_taped c_outs c_isFound f146 f_table2 f_table3 f_table4 f_table5 f_weight2 f_weight3 f_weight4 f_weight5 f_pace2 f_pace3 f_pace4 f_pace5) H locs) => ?_)
      have hf := hf f146 e147
      refine lv_goto (tgt := 844) hx hb dX7_comes_798 (by decide) ?_
      exact J844 x9 f146 _ _ hh ls (lv_sub hl [1, 3] rfl) hf
  have J773 : ∀ (x4 : Int32) (x9 : Int32) (x11 : Int32) (f_g : Nat → Int32) (H : Heap) (locs : List Loc), pq_H D A s (wX7_comes cI th ad c_told c_sumZ c_sumE c_stepY c_odd c_even c_taped c_outs c_isFound f_g f_table2 f_table3 f_table4 f_table5 f_weight2 f_weight3 f_weight4 f_weight5 f_pace2 f_pace3 f_pace4 f_pace5) H locs → ∀ ls : Array Slot, lv_has ls 16 [(0, .ref th), (4, .int x4), (9, .int x9), (11, .int x11)] → fX7_comes_b773  c_sumZ c_sumE c_stepY f_table2 f_table3 f_table4 f_table5 f_weight2 f_weight3 f_weight4 f_weight5 f_pace2 f_pace3 f_pace4 f_pace5 x4 x9 x11 f_g = some res → W p l e (pq_rm 2 52) s m args below meth c H locs 0 0 Q (F0 m 773 ls []) := by
    intro x4 x9 x11 f_g H locs hh ls hl hf
    rw [fX7_comes_b773] at hf
    refine lv_iconst (v := (1 : Int32)) hx hb dX7_comes_773 (by decide) ?_
    refine lv_goto (tgt := 778) hx hb dX7_comes_774 (by decide) ?_
    exact J778 x4 x9 x11 (1 : Int32) f_g _ _ hh ls (lv_sub hl [0, 1, 2, 3] rfl) hf
  have J635 : ∀ (x2 : Int32) (x3 : Int32) (x4 : Int32) (x5 : Int32) (x9 : Int32) (x11 : Int32) (s1 : Int32) (s2 : Int32) (f_g : Nat → Int32) (H : Heap) (locs : List Loc), pq_H D A s (wX7_comes cI th ad c_told c_sumZ c_sumE c_stepY c_odd c_even c_taped c_outs c_isFound f_g f_table2 f_table3 f_table4 f_table5 f_weight2 f_weight3 f_weight4 f_weight5 f_pace2 f_pace3 f_pace4 f_pace5) H locs → ∀ ls : Array Slot, lv_has ls 16 [(0, .ref th), (2, .int x2), (3, .int x3), (4, .int x4), (5, .int x5), (9, .int x9), (11, .int x11)] → fX7_comes_b635  c_sumZ c_sumE c_stepY f_table2 f_table3 f_table4 f_table5 f_weight2 f_weight3 f_weight4 f_weight5 f_pace2 f_pace3 f_pace4 f_pace5 x2 x3 x4 x5 x9 x11 s1 s2 f_g = some res → W p l e (pq_rm 2 52) s m args below meth c H locs 0 0 Q (F0 m 635 ls [.int s2, .int s1, .ref (ad 3)]) := by
    intro x2 x3 x4 x5 x9 x11 s1 s2 f_g H locs hh ls hl hf
    rw [fX7_comes_b635] at hf
    obtain ⟨h100, hf⟩ := pq_wrx hf
    refine pq_iast C hh 1 rfl h100 dX7_comes_635 (fun H locs f101 e102 (hh : pq_H D A s (wX7_comes cI th ad c_told c_sumZ c_sumE c_stepY c_odd c_even c_taped c_outs c_isFound f101 f_table2 f_table3 f_table4 f_table5 f_weight2 f_weight3 f_weight4 f_weight5 f_pace2 f_pace3 f_pace4 f_pace5) H locs) => ?_)
    have hf := hf f101 e102
    refine lv_aload_n hx hb dX7_comes_636 rfl (lv_at hl 0 rfl) ?_
    refine lv_iload_n hx hb dX7_comes_637 rfl (lv_at hl 1 rfl) ?_
    refine lv_iload_n hx hb dX7_comes_638 rfl (lv_at hl 2 rfl) ?_
    obtain ⟨r103, hu104, hf⟩ := pq_clx hf
    refine pq_cvI (n := 2) (As := [.int x2, .int x3]) C hh (qX7_pace l D cI cL th ad c_told c_sumZ c_sumE c_stepY c_odd c_even c_taped c_outs c_isFound f_pace2 f_pace3 f_pace4 f_pace5 x2 x3 r103 hu104) (gvX7_pace hs (pq_m19 _ (List.mem_of_getElem? (i := 7) rfl))) rfl (by decide +kernel) ⟨Nat.le_of_ble_eq_true rfl, Nat.le_of_ble_eq_true rfl⟩ 0 6 rfl rfl rfl hl.1 rfl rfl (Nat.le_of_ble_eq_true rfl) dX7_comes_639 ⟨Nat.zero_le _, Nat.zero_le _⟩ [0, 10, 11, 12, 13] [1, 2, 3, 4, 5, 6, 7, 8, 9] [9, 0, 1, 2, 3, 4, 5, 6, 7, 8, 10, 11, 12, 13] rfl rfl (by decide) (by decide) (by decide) rfl (fun H locs (hh : pq_H D A s (wX7_comes cI th ad c_told c_sumZ c_sumE c_stepY c_odd c_even c_taped c_outs c_isFound f101 f_table2 f_table3 f_table4 f_table5 f_weight2 f_weight3 f_weight4 f_weight5 f_pace2 f_pace3 f_pace4 f_pace5) H locs) => ?_)
    refine lv_istore (lv' := [(14, .int r103), (0, .ref th), (2, .int x2), (3, .int x3), (4, .int x4), (5, .int x5), (9, .int x9), (11, .int x11)]) hx hb dX7_comes_642 hl (by decide) rfl (fun ls hl => ?_)
    refine lv_aload_n hx hb dX7_comes_644 rfl (lv_at hl 1 rfl) ?_
    refine pq_get C hh i7 0 6 rfl rfl 3 (by decide) kf17 rfl rfl dX7_comes_645 ?_
    refine lv_iload hx hb dX7_comes_648 (lv_at hl 4 rfl) ?_
    refine lv_iconst (v := (2 : Int32)) hx hb dX7_comes_650 (by decide) ?_
    refine lv_iadd hx hb dX7_comes_651 ?_
    refine lv_aload_n hx hb dX7_comes_652 rfl (lv_at hl 1 rfl) ?_
    refine pq_get C hh i7 0 6 rfl rfl 3 (by decide) kf17 rfl rfl dX7_comes_653 ?_
    refine lv_iload hx hb dX7_comes_656 (lv_at hl 4 rfl) ?_
    refine lv_iconst (v := (2 : Int32)) hx hb dX7_comes_658 (by decide) ?_
    refine lv_iadd hx hb dX7_comes_659 ?_
    obtain ⟨h105, hf⟩ := pq_rdx hf
    refine pq_iald C hh 1 rfl h105 dX7_comes_660 (fun v106 e107 => ?_)
    have hf := hf v106 e107
    refine lv_iload hx hb dX7_comes_661 (lv_at hl 0 rfl) ?_
    refine lv_aload_n hx hb dX7_comes_663 rfl (lv_at hl 1 rfl) ?_
    refine pq_get C hh i7 0 6 rfl rfl 3 (by decide) kf17 rfl rfl dX7_comes_664 ?_
    refine lv_iload hx hb dX7_comes_667 (lv_at hl 4 rfl) ?_
    refine lv_iconst (v := (2 : Int32)) hx hb dX7_comes_669 (by decide) ?_
    refine lv_iadd hx hb dX7_comes_670 ?_
    obtain ⟨h108, hf⟩ := pq_rdx hf
    refine pq_iald C hh 1 rfl h108 dX7_comes_671 (fun v109 e110 => ?_)
    have hf := hf v109 e110
    refine lv_isub hx hb dX7_comes_672 ?_
    refine lv_iconst (v := (5 : Int32)) hx hb dX7_comes_673 (by decide) ?_
    refine lv_ishr hx hb dX7_comes_674 ?_
    refine lv_iadd hx hb dX7_comes_675 ?_
    obtain ⟨h111, hf⟩ := pq_wrx hf
    refine pq_iast C hh 1 rfl h111 dX7_comes_676 (fun H locs f112 e113 (hh : pq_H D A s (wX7_comes cI th ad c_told c_sumZ c_sumE c_stepY c_odd c_even c_taped c_outs c_isFound f112 f_table2 f_table3 f_table4 f_table5 f_weight2 f_weight3 f_weight4 f_weight5 f_pace2 f_pace3 f_pace4 f_pace5) H locs) => ?_)
    have hf := hf f112 e113
    refine lv_aload_n hx hb dX7_comes_677 rfl (lv_at hl 1 rfl) ?_
    refine pq_get C hh i7 0 6 rfl rfl 3 (by decide) kf17 rfl rfl dX7_comes_678 ?_
    refine lv_iload hx hb dX7_comes_681 (lv_at hl 4 rfl) ?_
    refine lv_iconst (v := (3 : Int32)) hx hb dX7_comes_683 (by decide) ?_
    refine lv_iadd hx hb dX7_comes_684 ?_
    refine lv_aload_n hx hb dX7_comes_685 rfl (lv_at hl 1 rfl) ?_
    refine pq_get C hh i7 0 6 rfl rfl 3 (by decide) kf17 rfl rfl dX7_comes_686 ?_
    refine lv_iload hx hb dX7_comes_689 (lv_at hl 4 rfl) ?_
    refine lv_iconst (v := (3 : Int32)) hx hb dX7_comes_691 (by decide) ?_
    refine lv_iadd hx hb dX7_comes_692 ?_
    obtain ⟨h114, hf⟩ := pq_rdx hf
    refine pq_iald C hh 1 rfl h114 dX7_comes_693 (fun v115 e116 => ?_)
    have hf := hf v115 e116
    refine lv_iconst (v := (4 : Int32)) hx hb dX7_comes_694 (by decide) ?_
    refine lv_iload hx hb dX7_comes_695 (lv_at hl 0 rfl) ?_
    refine lv_imul hx hb dX7_comes_697 ?_
    refine lv_aload_n hx hb dX7_comes_698 rfl (lv_at hl 1 rfl) ?_
    refine pq_get C hh i7 0 6 rfl rfl 3 (by decide) kf17 rfl rfl dX7_comes_699 ?_
    refine lv_iload hx hb dX7_comes_702 (lv_at hl 4 rfl) ?_
    refine lv_iconst (v := (3 : Int32)) hx hb dX7_comes_704 (by decide) ?_
    refine lv_iadd hx hb dX7_comes_705 ?_
    obtain ⟨h117, hf⟩ := pq_rdx hf
    refine pq_iald C hh 1 rfl h117 dX7_comes_706 (fun v118 e119 => ?_)
    have hf := hf v118 e119
    refine lv_isub hx hb dX7_comes_707 ?_
    refine lv_bipush (v := (7 : Int32)) hx hb dX7_comes_708 (by decide) ?_
    refine lv_ishr hx hb dX7_comes_710 ?_
    refine lv_iadd hx hb dX7_comes_711 ?_
    obtain ⟨h120, hf⟩ := pq_wrx hf
    refine pq_iast C hh 1 rfl h120 dX7_comes_712 (fun H locs f121 e122 (hh : pq_H D A s (wX7_comes cI th ad c_told c_sumZ c_sumE c_stepY c_odd c_even c_taped c_outs c_isFound f121 f_table2 f_table3 f_table4 f_table5 f_weight2 f_weight3 f_weight4 f_weight5 f_pace2 f_pace3 f_pace4 f_pace5) H locs) => ?_)
    have hf := hf f121 e122
    refine lv_iload hx hb dX7_comes_713 (lv_at hl 5 rfl) ?_
    refine lv_sipush (v := (1536 : Int32)) hx hb dX7_comes_715 (by decide) ?_
    refine lv_icmp_lt (tgt := 773) hx hb dX7_comes_718 (by decide) (fun h123 => ?_) (fun h123 => ?_)
    · have hf := pq_brt hf h123
      exact J773 x4 x9 x11 f121 _ _ hh ls (lv_sub hl [1, 4, 6, 7] rfl) hf
    · have hf := pq_brf hf h123
      refine lv_aload_n hx hb dX7_comes_721 rfl (lv_at hl 1 rfl) ?_
      refine pq_get C hh i7 0 6 rfl rfl 3 (by decide) kf17 rfl rfl dX7_comes_722 ?_
      refine lv_iload hx hb dX7_comes_725 (lv_at hl 4 rfl) ?_
      refine lv_iconst (v := (5 : Int32)) hx hb dX7_comes_727 (by decide) ?_
      refine lv_iadd hx hb dX7_comes_728 ?_
      obtain ⟨h124, hf⟩ := pq_rdx hf
      refine pq_iald C hh 1 rfl h124 dX7_comes_729 (fun v125 e126 => ?_)
      have hf := hf v125 e126
      refine lv_iconst (v := (1 : Int32)) hx hb dX7_comes_730 (by decide) ?_
      refine lv_icmp_eq (tgt := 773) hx hb dX7_comes_731 (by decide) (fun h127 => ?_) (fun h127 => ?_)
      · have hf := pq_brt hf h127
        exact J773 x4 x9 x11 f121 _ _ hh ls (lv_sub hl [1, 4, 6, 7] rfl) hf
      · have hf := pq_brf hf h127
        refine lv_aload_n hx hb dX7_comes_734 rfl (lv_at hl 1 rfl) ?_
        refine lv_iconst (v := (4 : Int32)) hx hb dX7_comes_735 (by decide) ?_
        refine lv_aload_n hx hb dX7_comes_736 rfl (lv_at hl 1 rfl) ?_
        refine pq_get C hh i7 0 6 rfl rfl 3 (by decide) kf17 rfl rfl dX7_comes_737 ?_
        refine lv_iload hx hb dX7_comes_740 (lv_at hl 4 rfl) ?_
        refine lv_iconst (v := (2 : Int32)) hx hb dX7_comes_742 (by decide) ?_
        refine lv_iadd hx hb dX7_comes_743 ?_
        obtain ⟨h128, hf⟩ := pq_rdx hf
        refine pq_iald C hh 1 rfl h128 dX7_comes_744 (fun v129 e130 => ?_)
        have hf := hf v129 e130
        refine lv_imul hx hb dX7_comes_745 ?_
        refine lv_aload_n hx hb dX7_comes_746 rfl (lv_at hl 1 rfl) ?_
        refine pq_get C hh i7 0 6 rfl rfl 3 (by decide) kf17 rfl rfl dX7_comes_747 ?_
        refine lv_iload hx hb dX7_comes_750 (lv_at hl 4 rfl) ?_
        refine lv_iconst (v := (3 : Int32)) hx hb dX7_comes_752 (by decide) ?_
        refine lv_iadd hx hb dX7_comes_753 ?_
        obtain ⟨h131, hf⟩ := pq_rdx hf
        refine pq_iald C hh 1 rfl h131 dX7_comes_754 (fun v132 e133 => ?_)
        have hf := hf v132 e133
        refine lv_isub hx hb dX7_comes_755 ?_
        obtain ⟨r134, hu135, hf⟩ := pq_clx hf
        refine pq_cvI (n := 1) (As := [.int (((4 : Int32) * v129) - v132)]) C hh (qX7_amount l D cI cL th (((4 : Int32) * v129) - v132) r134 hu135) (gvX7_amount hs (pq_m16 _ (List.mem_of_getElem? (i := 16) rfl))) rfl (by decide +kernel) ⟨Nat.le_of_ble_eq_true rfl, Nat.le_of_ble_eq_true rfl⟩ 0 6 rfl rfl rfl hl.1 rfl rfl (Nat.le_of_ble_eq_true rfl) dX7_comes_756 ⟨Nat.zero_le _, Nat.zero_le _⟩ [] [0, 1, 2, 3, 4, 5, 6, 7, 8, 9, 10, 11, 12, 13] [0, 1, 2, 3, 4, 5, 6, 7, 8, 9, 10, 11, 12, 13] rfl rfl (by decide) (by decide) (by decide) rfl (fun H locs (hh : pq_H D A s (wX7_comes cI th ad c_told c_sumZ c_sumE c_stepY c_odd c_even c_taped c_outs c_isFound f121 f_table2 f_table3 f_table4 f_table5 f_weight2 f_weight3 f_weight4 f_weight5 f_pace2 f_pace3 f_pace4 f_pace5) H locs) => ?_)
        refine lv_aload_n hx hb dX7_comes_759 rfl (lv_at hl 1 rfl) ?_
        refine pq_get C hh i7 0 6 rfl rfl 3 (by decide) kf17 rfl rfl dX7_comes_760 ?_
        refine lv_iload hx hb dX7_comes_763 (lv_at hl 4 rfl) ?_
        refine lv_iconst (v := (3 : Int32)) hx hb dX7_comes_765 (by decide) ?_
        refine lv_iadd hx hb dX7_comes_766 ?_
        obtain ⟨h136, hf⟩ := pq_rdx hf
        refine pq_iald C hh 1 rfl h136 dX7_comes_767 (fun v137 e138 => ?_)
        have hf := hf v137 e138
        refine lv_iconst (v := (3 : Int32)) hx hb dX7_comes_768 (by decide) ?_
        refine lv_ishr hx hb dX7_comes_769 ?_
        refine lv_icmp_lt (tgt := 777) hx hb dX7_comes_770 (by decide) (fun h139 => ?_) (fun h139 => ?_)
        · have hf := pq_brt hf h139
          refine lv_iconst (v := (0 : Int32)) hx hb dX7_comes_777 (by decide) ?_
          exact J778 x4 x9 x11 (0 : Int32) f121 _ _ hh ls (lv_sub hl [1, 4, 6, 7] rfl) hf
        · have hf := pq_brf hf h139
          exact J773 x4 x9 x11 f121 _ _ hh ls (lv_sub hl [1, 4, 6, 7] rfl) hf
  have J634 : ∀ (x2 : Int32) (x3 : Int32) (x4 : Int32) (x5 : Int32) (x9 : Int32) (x11 : Int32) (s1 : Int32) (f_g : Nat → Int32) (H : Heap) (locs : List Loc), pq_H D A s (wX7_comes cI th ad c_told c_sumZ c_sumE c_stepY c_odd c_even c_taped c_outs c_isFound f_g f_table2 f_table3 f_table4 f_table5 f_weight2 f_weight3 f_weight4 f_weight5 f_pace2 f_pace3 f_pace4 f_pace5) H locs → ∀ ls : Array Slot, lv_has ls 16 [(0, .ref th), (2, .int x2), (3, .int x3), (4, .int x4), (5, .int x5), (9, .int x9), (11, .int x11)] → fX7_comes_b634  c_sumZ c_sumE c_stepY f_table2 f_table3 f_table4 f_table5 f_weight2 f_weight3 f_weight4 f_weight5 f_pace2 f_pace3 f_pace4 f_pace5 x2 x3 x4 x5 x9 x11 s1 f_g = some res → W p l e (pq_rm 2 52) s m args below meth c H locs 0 0 Q (F0 m 634 ls [.int s1, .ref (ad 3)]) := by
    intro x2 x3 x4 x5 x9 x11 s1 f_g H locs hh ls hl hf
    rw [fX7_comes_b634] at hf
    refine lv_iconst (v := (0 : Int32)) hx hb dX7_comes_634 (by decide) ?_
    exact J635 x2 x3 x4 x5 x9 x11 s1 (0 : Int32) f_g _ _ hh ls (lv_sub hl [0, 1, 2, 3, 4, 5, 6] rfl) hf
  have J576 : ∀ (x2 : Int32) (x3 : Int32) (x4 : Int32) (x5 : Int32) (x9 : Int32) (x11 : Int32) (x12 : Int32) (x13 : Int32) (s1 : Int32) (s2 : Int32) (f_g : Nat → Int32) (H : Heap) (locs : List Loc), pq_H D A s (wX7_comes cI th ad c_told c_sumZ c_sumE c_stepY c_odd c_even c_taped c_outs c_isFound f_g f_table2 f_table3 f_table4 f_table5 f_weight2 f_weight3 f_weight4 f_weight5 f_pace2 f_pace3 f_pace4 f_pace5) H locs → ∀ ls : Array Slot, lv_has ls 16 [(0, .ref th), (2, .int x2), (3, .int x3), (4, .int x4), (5, .int x5), (9, .int x9), (11, .int x11), (12, .int x12), (13, .int x13)] → fX7_comes_b576  c_sumZ c_sumE c_stepY f_table2 f_table3 f_table4 f_table5 f_weight2 f_weight3 f_weight4 f_weight5 f_pace2 f_pace3 f_pace4 f_pace5 x2 x3 x4 x5 x9 x11 x12 x13 s1 s2 f_g = some res → W p l e (pq_rm 2 52) s m args below meth c H locs 0 0 Q (F0 m 576 ls [.int s2, .int s1, .ref (ad 3)]) := by
    intro x2 x3 x4 x5 x9 x11 x12 x13 s1 s2 f_g H locs hh ls hl hf
    rw [fX7_comes_b576] at hf
    obtain ⟨h86, hf⟩ := pq_wrx hf
    refine pq_iast C hh 1 rfl h86 dX7_comes_576 (fun H locs f87 e88 (hh : pq_H D A s (wX7_comes cI th ad c_told c_sumZ c_sumE c_stepY c_odd c_even c_taped c_outs c_isFound f87 f_table2 f_table3 f_table4 f_table5 f_weight2 f_weight3 f_weight4 f_weight5 f_pace2 f_pace3 f_pace4 f_pace5) H locs) => ?_)
    have hf := hf f87 e88
    refine lv_aload_n hx hb dX7_comes_577 rfl (lv_at hl 0 rfl) ?_
    refine pq_get C hh i7 0 6 rfl rfl 3 (by decide) kf17 rfl rfl dX7_comes_578 ?_
    refine lv_iload hx hb dX7_comes_581 (lv_at hl 3 rfl) ?_
    refine lv_bipush (v := (23 : Int32)) hx hb dX7_comes_583 (by decide) ?_
    refine lv_iadd hx hb dX7_comes_585 ?_
    refine lv_aload_n hx hb dX7_comes_586 rfl (lv_at hl 0 rfl) ?_
    refine pq_get C hh i7 0 6 rfl rfl 3 (by decide) kf17 rfl rfl dX7_comes_587 ?_
    refine lv_iload hx hb dX7_comes_590 (lv_at hl 3 rfl) ?_
    refine lv_bipush (v := (22 : Int32)) hx hb dX7_comes_592 (by decide) ?_
    refine lv_iadd hx hb dX7_comes_594 ?_
    obtain ⟨h89, hf⟩ := pq_rdx hf
    refine pq_iald C hh 1 rfl h89 dX7_comes_595 (fun v90 e91 => ?_)
    have hf := hf v90 e91
    obtain ⟨h92, hf⟩ := pq_wrx hf
    refine pq_iast C hh 1 rfl h92 dX7_comes_596 (fun H locs f93 e94 (hh : pq_H D A s (wX7_comes cI th ad c_told c_sumZ c_sumE c_stepY c_odd c_even c_taped c_outs c_isFound f93 f_table2 f_table3 f_table4 f_table5 f_weight2 f_weight3 f_weight4 f_weight5 f_pace2 f_pace3 f_pace4 f_pace5) H locs) => ?_)
    have hf := hf f93 e94
    refine lv_aload_n hx hb dX7_comes_597 rfl (lv_at hl 0 rfl) ?_
    refine pq_get C hh i7 0 6 rfl rfl 3 (by decide) kf17 rfl rfl dX7_comes_598 ?_
    refine lv_iload hx hb dX7_comes_601 (lv_at hl 3 rfl) ?_
    refine lv_bipush (v := (22 : Int32)) hx hb dX7_comes_603 (by decide) ?_
    refine lv_iadd hx hb dX7_comes_605 ?_
    refine lv_iload hx hb dX7_comes_606 (lv_at hl 7 rfl) ?_
    obtain ⟨h95, hf⟩ := pq_wrx hf
    refine pq_iast C hh 1 rfl h95 dX7_comes_608 (fun H locs f96 e97 (hh : pq_H D A s (wX7_comes cI th ad c_told c_sumZ c_sumE c_stepY c_odd c_even c_taped c_outs c_isFound f96 f_table2 f_table3 f_table4 f_table5 f_weight2 f_weight3 f_weight4 f_weight5 f_pace2 f_pace3 f_pace4 f_pace5) H locs) => ?_)
    have hf := hf f96 e97
    refine lv_aload_n hx hb dX7_comes_609 rfl (lv_at hl 0 rfl) ?_
    refine pq_get C hh i7 0 6 rfl rfl 3 (by decide) kf17 rfl rfl dX7_comes_610 ?_
    refine lv_iload hx hb dX7_comes_613 (lv_at hl 3 rfl) ?_
    refine lv_iconst (v := (5 : Int32)) hx hb dX7_comes_615 (by decide) ?_
    refine lv_iadd hx hb dX7_comes_616 ?_
    refine lv_iload hx hb dX7_comes_617 (lv_at hl 6 rfl) ?_
    refine lv_if_ne (tgt := 634) hx hb dX7_comes_619 (by decide) (fun h98 => ?_) (fun h98 => ?_)
    · have hf := pq_brf hf h98
      exact J634 x2 x3 x4 x5 x9 x11 (x4 + (5 : Int32)) f96 _ _ hh ls (lv_sub hl [0, 1, 2, 3, 4, 5, 6] rfl) hf
    · have hf := pq_brt hf h98
      refine lv_iload hx hb dX7_comes_622 (lv_at hl 8 rfl) ?_
      refine lv_sipush (v := (-11776 : Int32)) hx hb dX7_comes_624 (by decide) ?_
      refine lv_icmp_ge (tgt := 634) hx hb dX7_comes_627 (by decide) (fun h99 => ?_) (fun h99 => ?_)
      · have hf := pq_brt hf h99
        exact J634 x2 x3 x4 x5 x9 x11 (x4 + (5 : Int32)) f96 _ _ hh ls (lv_sub hl [0, 1, 2, 3, 4, 5, 6] rfl) hf
      · have hf := pq_brf hf h99
        refine lv_iconst (v := (1 : Int32)) hx hb dX7_comes_630 (by decide) ?_
        refine lv_goto (tgt := 635) hx hb dX7_comes_631 (by decide) ?_
        exact J635 x2 x3 x4 x5 x9 x11 (x4 + (5 : Int32)) (1 : Int32) f96 _ _ hh ls (lv_sub hl [0, 1, 2, 3, 4, 5, 6] rfl) hf
  have J573 : ∀ (x2 : Int32) (x3 : Int32) (x4 : Int32) (x5 : Int32) (x9 : Int32) (x11 : Int32) (x12 : Int32) (x13 : Int32) (s1 : Int32) (s3 : Int32) (s4 : Int32) (f_g : Nat → Int32) (H : Heap) (locs : List Loc), pq_H D A s (wX7_comes cI th ad c_told c_sumZ c_sumE c_stepY c_odd c_even c_taped c_outs c_isFound f_g f_table2 f_table3 f_table4 f_table5 f_weight2 f_weight3 f_weight4 f_weight5 f_pace2 f_pace3 f_pace4 f_pace5) H locs → ∀ ls : Array Slot, lv_has ls 16 [(0, .ref th), (2, .int x2), (3, .int x3), (4, .int x4), (5, .int x5), (9, .int x9), (11, .int x11), (12, .int x12), (13, .int x13)] → fX7_comes_b573  c_sumZ c_sumE c_stepY f_table2 f_table3 f_table4 f_table5 f_weight2 f_weight3 f_weight4 f_weight5 f_pace2 f_pace3 f_pace4 f_pace5 x2 x3 x4 x5 x9 x11 x12 x13 s1 s3 s4 f_g = some res → W p l e (pq_rm 2 52) s m args below meth c H locs 0 0 Q (F0 m 573 ls [.int s4, .int s3, .ref th, .int s1, .ref (ad 3)]) := by
    intro x2 x3 x4 x5 x9 x11 x12 x13 s1 s3 s4 f_g H locs hh ls hl hf
    rw [fX7_comes_b573] at hf
    obtain ⟨r156, hu157, hf⟩ := pq_clx hf
    refine pq_cvI (n := 2) (As := [.int s3, .int s4]) C hh (qX7_floated l D cI cL th ad c_told c_sumZ c_sumE c_stepY c_odd c_even c_taped c_outs c_isFound s3 s4 r156 hu157) (gvX7_floated hs (pq_m19 _ (List.mem_of_getElem? (i := 3) rfl))) rfl (by decide +kernel) ⟨Nat.le_of_ble_eq_true rfl, Nat.le_of_ble_eq_true rfl⟩ 0 6 rfl rfl rfl hl.1 rfl rfl (Nat.le_of_ble_eq_true rfl) dX7_comes_573 ⟨Nat.zero_le _, Nat.zero_le _⟩ [0] [1, 2, 3, 4, 5, 6, 7, 8, 9, 10, 11, 12, 13] [13, 0, 1, 2, 3, 4, 5, 6, 7, 8, 9, 10, 11, 12] rfl rfl (by decide) (by decide) (by decide) rfl (fun H locs (hh : pq_H D A s (wX7_comes cI th ad c_told c_sumZ c_sumE c_stepY c_odd c_even c_taped c_outs c_isFound f_g f_table2 f_table3 f_table4 f_table5 f_weight2 f_weight3 f_weight4 f_weight5 f_pace2 f_pace3 f_pace4 f_pace5) H locs) => ?_)
    exact J576 x2 x3 x4 x5 x9 x11 x12 x13 s1 r156 f_g _ _ hh ls (lv_sub hl [0, 1, 2, 3, 4, 5, 6, 7, 8] rfl) hf
  have J456 : ∀ (fuel456 : Nat) (x2 : Int32) (x3 : Int32) (x4 : Int32) (x5 : Int32) (x7 : Int32) (x8 : Int32) (x9 : Int32) (x11 : Int32) (x12 : Int32) (x13 : Int32) (x14 : Int32) (f_g : Nat → Int32) (H : Heap) (locs : List Loc), pq_H D A s (wX7_comes cI th ad c_told c_sumZ c_sumE c_stepY c_odd c_even c_taped c_outs c_isFound f_g f_table2 f_table3 f_table4 f_table5 f_weight2 f_weight3 f_weight4 f_weight5 f_pace2 f_pace3 f_pace4 f_pace5) H locs → ∀ ls : Array Slot, lv_has ls 16 [(0, .ref th), (2, .int x2), (3, .int x3), (4, .int x4), (5, .int x5), (7, .int x7), (8, .int x8), (9, .int x9), (11, .int x11), (12, .int x12), (13, .int x13), (14, .int x14)] → fX7_comes_b456  c_sumZ c_sumE c_stepY f_table2 f_table3 f_table4 f_table5 f_weight2 f_weight3 f_weight4 f_weight5 f_pace2 f_pace3 f_pace4 f_pace5 fuel456 x2 x3 x4 x5 x7 x8 x9 x11 x12 x13 x14 f_g = some res → W p l e (pq_rm 2 52) s m args below meth c H locs 0 0 Q (F0 m 456 ls []) := by
    intro fuel456
    induction fuel456 with
    | zero => intro x2 x3 x4 x5 x7 x8 x9 x11 x12 x13 x14 f_g H locs hh ls hl hf; rw [fX7_comes_b456] at hf; cases hf
    | succ fuel456 ih456 =>
      intro x2 x3 x4 x5 x7 x8 x9 x11 x12 x13 x14 f_g H locs hh ls hl hf
      rw [fX7_comes_b456] at hf
      refine lv_iload hx hb dX7_comes_456 (lv_at hl 11 rfl) ?_
      refine lv_if_le (tgt := 495) hx hb dX7_comes_458 (by decide) (fun h62 => ?_) (fun h62 => ?_)
      · have hf := pq_brt hf h62
        refine lv_aload_n hx hb dX7_comes_495 rfl (lv_at hl 0 rfl) ?_
        refine pq_get C hh i7 0 6 rfl rfl 3 (by decide) kf17 rfl rfl dX7_comes_496 ?_
        refine lv_iload hx hb dX7_comes_499 (lv_at hl 3 rfl) ?_
        refine lv_bipush (v := (16 : Int32)) hx hb dX7_comes_501 (by decide) ?_
        refine lv_iadd hx hb dX7_comes_503 ?_
        refine lv_aload_n hx hb dX7_comes_504 rfl (lv_at hl 0 rfl) ?_
        refine lv_iload hx hb dX7_comes_505 (lv_at hl 5 rfl) ?_
        refine lv_iload hx hb dX7_comes_507 (lv_at hl 6 rfl) ?_
        obtain ⟨r63, hu64, hf⟩ := pq_clx hf
        refine pq_cvI (n := 2) (As := [.int x7, .int x8]) C hh (qX7_floated l D cI cL th ad c_told c_sumZ c_sumE c_stepY c_odd c_even c_taped c_outs c_isFound x7 x8 r63 hu64) (gvX7_floated hs (pq_m19 _ (List.mem_of_getElem? (i := 3) rfl))) rfl (by decide +kernel) ⟨Nat.le_of_ble_eq_true rfl, Nat.le_of_ble_eq_true rfl⟩ 0 6 rfl rfl rfl hl.1 rfl rfl (Nat.le_of_ble_eq_true rfl) dX7_comes_509 ⟨Nat.zero_le _, Nat.zero_le _⟩ [0] [1, 2, 3, 4, 5, 6, 7, 8, 9, 10, 11, 12, 13] [13, 0, 1, 2, 3, 4, 5, 6, 7, 8, 9, 10, 11, 12] rfl rfl (by decide) (by decide) (by decide) rfl (fun H locs (hh : pq_H D A s (wX7_comes cI th ad c_told c_sumZ c_sumE c_stepY c_odd c_even c_taped c_outs c_isFound f_g f_table2 f_table3 f_table4 f_table5 f_weight2 f_weight3 f_weight4 f_weight5 f_pace2 f_pace3 f_pace4 f_pace5) H locs) => ?_)
        obtain ⟨h65, hf⟩ := pq_wrx hf
        refine pq_iast C hh 1 rfl h65 dX7_comes_512 (fun H locs f66 e67 (hh : pq_H D A s (wX7_comes cI th ad c_told c_sumZ c_sumE c_stepY c_odd c_even c_taped c_outs c_isFound f66 f_table2 f_table3 f_table4 f_table5 f_weight2 f_weight3 f_weight4 f_weight5 f_pace2 f_pace3 f_pace4 f_pace5) H locs) => ?_)
        have hf := hf f66 e67
        refine lv_aload_n hx hb dX7_comes_513 rfl (lv_at hl 0 rfl) ?_
        refine pq_get C hh i7 0 6 rfl rfl 3 (by decide) kf17 rfl rfl dX7_comes_514 ?_
        refine lv_iload hx hb dX7_comes_517 (lv_at hl 3 rfl) ?_
        refine lv_bipush (v := (15 : Int32)) hx hb dX7_comes_519 (by decide) ?_
        refine lv_iadd hx hb dX7_comes_521 ?_
        refine lv_aload_n hx hb dX7_comes_522 rfl (lv_at hl 0 rfl) ?_
        refine pq_get C hh i7 0 6 rfl rfl 3 (by decide) kf17 rfl rfl dX7_comes_523 ?_
        refine lv_iload hx hb dX7_comes_526 (lv_at hl 3 rfl) ?_
        refine lv_bipush (v := (14 : Int32)) hx hb dX7_comes_528 (by decide) ?_
        refine lv_iadd hx hb dX7_comes_530 ?_
        obtain ⟨h68, hf⟩ := pq_rdx hf
        refine pq_iald C hh 1 rfl h68 dX7_comes_531 (fun v69 e70 => ?_)
        have hf := hf v69 e70
        obtain ⟨h71, hf⟩ := pq_wrx hf
        refine pq_iast C hh 1 rfl h71 dX7_comes_532 (fun H locs f72 e73 (hh : pq_H D A s (wX7_comes cI th ad c_told c_sumZ c_sumE c_stepY c_odd c_even c_taped c_outs c_isFound f72 f_table2 f_table3 f_table4 f_table5 f_weight2 f_weight3 f_weight4 f_weight5 f_pace2 f_pace3 f_pace4 f_pace5) H locs) => ?_)
        have hf := hf f72 e73
        refine lv_aload_n hx hb dX7_comes_533 rfl (lv_at hl 0 rfl) ?_
        refine pq_get C hh i7 0 6 rfl rfl 3 (by decide) kf17 rfl rfl dX7_comes_534 ?_
        refine lv_iload hx hb dX7_comes_537 (lv_at hl 3 rfl) ?_
        refine lv_bipush (v := (14 : Int32)) hx hb dX7_comes_539 (by decide) ?_
        refine lv_iadd hx hb dX7_comes_541 ?_
        refine lv_iload hx hb dX7_comes_542 (lv_at hl 7 rfl) ?_
        refine lv_sipush (v := (-32768 : Int32)) hx hb dX7_comes_544 (by decide) ?_
        refine lv_icmp_ne (tgt := 556) hx hb dX7_comes_547 (by decide) (fun h74 => ?_) (fun h74 => ?_)
        · have hf := pq_brf hf h74
          refine lv_aload_n hx hb dX7_comes_556 rfl (lv_at hl 0 rfl) ?_
          refine lv_aload_n hx hb dX7_comes_557 rfl (lv_at hl 0 rfl) ?_
          refine lv_iload hx hb dX7_comes_558 (lv_at hl 7 rfl) ?_
          obtain ⟨r75, hu76, hf⟩ := pq_clx hf
          refine pq_cvI (n := 1) (As := [.int x9]) C hh (qX7_amount l D cI cL th x9 r75 hu76) (gvX7_amount hs (pq_m16 _ (List.mem_of_getElem? (i := 16) rfl))) rfl (by decide +kernel) ⟨Nat.le_of_ble_eq_true rfl, Nat.le_of_ble_eq_true rfl⟩ 0 6 rfl rfl rfl hl.1 rfl rfl (Nat.le_of_ble_eq_true rfl) dX7_comes_560 ⟨Nat.zero_le _, Nat.zero_le _⟩ [] [0, 1, 2, 3, 4, 5, 6, 7, 8, 9, 10, 11, 12, 13] [0, 1, 2, 3, 4, 5, 6, 7, 8, 9, 10, 11, 12, 13] rfl rfl (by decide) (by decide) (by decide) rfl (fun H locs (hh : pq_H D A s (wX7_comes cI th ad c_told c_sumZ c_sumE c_stepY c_odd c_even c_taped c_outs c_isFound f72 f_table2 f_table3 f_table4 f_table5 f_weight2 f_weight3 f_weight4 f_weight5 f_pace2 f_pace3 f_pace4 f_pace5) H locs) => ?_)
          refine lv_iload hx hb dX7_comes_563 (lv_at hl 7 rfl) ?_
          refine lv_if_ge (tgt := 572) hx hb dX7_comes_565 (by decide) (fun h77 => ?_) (fun h77 => ?_)
          · have hf := pq_brt hf h77
            refine lv_iconst (v := (0 : Int32)) hx hb dX7_comes_572 (by decide) ?_
            exact J573 x2 x3 x4 x5 x9 x11 x12 x13 (x4 + (14 : Int32)) r75 (0 : Int32) f72 _ _ hh ls (lv_sub hl [0, 1, 2, 3, 4, 7, 8, 9, 10] rfl) hf
          · have hf := pq_brf hf h77
            refine lv_iconst (v := (1 : Int32)) hx hb dX7_comes_568 (by decide) ?_
            refine lv_goto (tgt := 573) hx hb dX7_comes_569 (by decide) ?_
            exact J573 x2 x3 x4 x5 x9 x11 x12 x13 (x4 + (14 : Int32)) r75 (1 : Int32) f72 _ _ hh ls (lv_sub hl [0, 1, 2, 3, 4, 7, 8, 9, 10] rfl) hf
        · have hf := pq_brt hf h74
          refine lv_sipush (v := (-992 : Int32)) hx hb dX7_comes_550 (by decide) ?_
          refine lv_goto (tgt := 576) hx hb dX7_comes_553 (by decide) ?_
          exact J576 x2 x3 x4 x5 x9 x11 x12 x13 (x4 + (14 : Int32)) (-992 : Int32) f72 _ _ hh ls (lv_sub hl [0, 1, 2, 3, 4, 7, 8, 9, 10] rfl) hf
      · have hf := pq_brf hf h62
        refine lv_aload_n hx hb dX7_comes_461 rfl (lv_at hl 0 rfl) ?_
        refine pq_get C hh i7 0 6 rfl rfl 3 (by decide) kf17 rfl rfl dX7_comes_462 ?_
        refine lv_iload hx hb dX7_comes_465 (lv_at hl 3 rfl) ?_
        refine lv_bipush (v := (16 : Int32)) hx hb dX7_comes_467 (by decide) ?_
        refine lv_iadd hx hb dX7_comes_469 ?_
        refine lv_iload hx hb dX7_comes_470 (lv_at hl 11 rfl) ?_
        refine lv_iadd hx hb dX7_comes_472 ?_
        refine lv_aload_n hx hb dX7_comes_473 rfl (lv_at hl 0 rfl) ?_
        refine pq_get C hh i7 0 6 rfl rfl 3 (by decide) kf17 rfl rfl dX7_comes_474 ?_
        refine lv_iload hx hb dX7_comes_477 (lv_at hl 3 rfl) ?_
        refine lv_bipush (v := (16 : Int32)) hx hb dX7_comes_479 (by decide) ?_
        refine lv_iadd hx hb dX7_comes_481 ?_
        refine lv_iload hx hb dX7_comes_482 (lv_at hl 11 rfl) ?_
        refine lv_iadd hx hb dX7_comes_484 ?_
        refine lv_iconst (v := (1 : Int32)) hx hb dX7_comes_485 (by decide) ?_
        refine lv_isub hx hb dX7_comes_486 ?_
        obtain ⟨h78, hf⟩ := pq_rdx hf
        refine pq_iald C hh 1 rfl h78 dX7_comes_487 (fun v79 e80 => ?_)
        have hf := hf v79 e80
        obtain ⟨h81, hf⟩ := pq_wrx hf
        refine pq_iast C hh 1 rfl h81 dX7_comes_488 (fun H locs f82 e83 (hh : pq_H D A s (wX7_comes cI th ad c_told c_sumZ c_sumE c_stepY c_odd c_even c_taped c_outs c_isFound f82 f_table2 f_table3 f_table4 f_table5 f_weight2 f_weight3 f_weight4 f_weight5 f_pace2 f_pace3 f_pace4 f_pace5) H locs) => ?_)
        have hf := hf f82 e83
        obtain ⟨v84, e85⟩ : ∃ y : Int32, y = x14 + (-1 : Int32) := ⟨_, rfl⟩
        refine lv_iinc (v := v84) (lv' := [(14, .int v84), (0, .ref th), (2, .int x2), (3, .int x3), (4, .int x4), (5, .int x5), (7, .int x7), (8, .int x8), (9, .int x9), (11, .int x11), (12, .int x12), (13, .int x13)]) hx hb dX7_comes_489 hl (k := 11) rfl (by rw [e85]; rfl) (by decide) rfl (fun ls hl => ?_)
        have hf := pq_nmx hf v84 e85
        refine lv_goto (tgt := 456) hx hb dX7_comes_492 (by decide) ?_
        exact ih456 x2 x3 x4 x5 x7 x8 x9 x11 x12 x13 v84 f82 _ _ hh ls (lv_sub hl [1, 2, 3, 4, 5, 6, 7, 8, 9, 10, 11, 0] rfl) hf
  have J453 : ∀ (x2 : Int32) (x3 : Int32) (x4 : Int32) (x5 : Int32) (x7 : Int32) (x8 : Int32) (x9 : Int32) (x11 : Int32) (x12 : Int32) (x13 : Int32) (f_g : Nat → Int32) (H : Heap) (locs : List Loc), pq_H D A s (wX7_comes cI th ad c_told c_sumZ c_sumE c_stepY c_odd c_even c_taped c_outs c_isFound f_g f_table2 f_table3 f_table4 f_table5 f_weight2 f_weight3 f_weight4 f_weight5 f_pace2 f_pace3 f_pace4 f_pace5) H locs → ∀ ls : Array Slot, lv_has ls 16 [(0, .ref th), (2, .int x2), (3, .int x3), (4, .int x4), (5, .int x5), (7, .int x7), (8, .int x8), (9, .int x9), (11, .int x11), (12, .int x12), (13, .int x13)] → fX7_comes_b453  c_sumZ c_sumE c_stepY f_table2 f_table3 f_table4 f_table5 f_weight2 f_weight3 f_weight4 f_weight5 f_pace2 f_pace3 f_pace4 f_pace5 x2 x3 x4 x5 x7 x8 x9 x11 x12 x13 f_g = some res → W p l e (pq_rm 2 52) s m args below meth c H locs 0 0 Q (F0 m 453 ls []) := by
    intro x2 x3 x4 x5 x7 x8 x9 x11 x12 x13 f_g H locs hh ls hl hf
    rw [fX7_comes_b453] at hf
    refine lv_iconst (v := (5 : Int32)) hx hb dX7_comes_453 (by decide) ?_
    refine lv_istore (lv' := [(14, .int (5 : Int32)), (0, .ref th), (2, .int x2), (3, .int x3), (4, .int x4), (5, .int x5), (7, .int x7), (8, .int x8), (9, .int x9), (11, .int x11), (12, .int x12), (13, .int x13)]) hx hb dX7_comes_454 hl (by decide) rfl (fun ls hl => ?_)
    exact J456 1100 x2 x3 x4 x5 x7 x8 x9 x11 x12 x13 (5 : Int32) f_g _ _ hh ls (lv_sub hl [1, 2, 3, 4, 5, 6, 7, 8, 9, 10, 11, 0] rfl) hf
  have J300 : ∀ (fuel300 : Nat) (x2 : Int32) (x3 : Int32) (x4 : Int32) (x5 : Int32) (x7 : Int32) (x8 : Int32) (x9 : Int32) (x11 : Int32) (x12 : Int32) (x13 : Int32) (x14 : Int32) (f_g : Nat → Int32) (H : Heap) (locs : List Loc), pq_H D A s (wX7_comes cI th ad c_told c_sumZ c_sumE c_stepY c_odd c_even c_taped c_outs c_isFound f_g f_table2 f_table3 f_table4 f_table5 f_weight2 f_weight3 f_weight4 f_weight5 f_pace2 f_pace3 f_pace4 f_pace5) H locs → ∀ ls : Array Slot, lv_has ls 16 [(0, .ref th), (2, .int x2), (3, .int x3), (4, .int x4), (5, .int x5), (7, .int x7), (8, .int x8), (9, .int x9), (11, .int x11), (12, .int x12), (13, .int x13), (14, .int x14)] → fX7_comes_b300  c_sumZ c_sumE c_stepY f_table2 f_table3 f_table4 f_table5 f_weight2 f_weight3 f_weight4 f_weight5 f_pace2 f_pace3 f_pace4 f_pace5 fuel300 x2 x3 x4 x5 x7 x8 x9 x11 x12 x13 x14 f_g = some res → W p l e (pq_rm 2 52) s m args below meth c H locs 0 0 Q (F0 m 300 ls []) := by
    intro fuel300
    induction fuel300 with
    | zero => intro x2 x3 x4 x5 x7 x8 x9 x11 x12 x13 x14 f_g H locs hh ls hl hf; rw [fX7_comes_b300] at hf; cases hf
    | succ fuel300 ih300 =>
      intro x2 x3 x4 x5 x7 x8 x9 x11 x12 x13 x14 f_g H locs hh ls hl hf
      rw [fX7_comes_b300] at hf
      refine lv_iload hx hb dX7_comes_300 (lv_at hl 11 rfl) ?_
      refine lv_bipush (v := (14 : Int32)) hx hb dX7_comes_302 (by decide) ?_
      refine lv_icmp_ge (tgt := 324) hx hb dX7_comes_304 (by decide) (fun h56 => ?_) (fun h56 => ?_)
      · have hf := pq_brt hf h56
        refine lv_goto (tgt := 453) hx hb dX7_comes_324 (by decide) ?_
        exact J453 x2 x3 x4 x5 x7 x8 x9 x11 x12 x13 f_g _ _ hh ls (lv_sub hl [0, 1, 2, 3, 4, 5, 6, 7, 8, 9, 10] rfl) hf
      · have hf := pq_brf hf h56
        refine lv_aload_n hx hb dX7_comes_307 rfl (lv_at hl 0 rfl) ?_
        refine pq_get C hh i7 0 6 rfl rfl 3 (by decide) kf17 rfl rfl dX7_comes_308 ?_
        refine lv_iload hx hb dX7_comes_311 (lv_at hl 3 rfl) ?_
        refine lv_iload hx hb dX7_comes_313 (lv_at hl 11 rfl) ?_
        refine lv_iadd hx hb dX7_comes_315 ?_
        refine lv_iconst (v := (0 : Int32)) hx hb dX7_comes_316 (by decide) ?_
        obtain ⟨h57, hf⟩ := pq_wrx hf
        refine pq_iast C hh 1 rfl h57 dX7_comes_317 (fun H locs f58 e59 (hh : pq_H D A s (wX7_comes cI th ad c_told c_sumZ c_sumE c_stepY c_odd c_even c_taped c_outs c_isFound f58 f_table2 f_table3 f_table4 f_table5 f_weight2 f_weight3 f_weight4 f_weight5 f_pace2 f_pace3 f_pace4 f_pace5) H locs) => ?_)
        have hf := hf f58 e59
        obtain ⟨v60, e61⟩ : ∃ y : Int32, y = x14 + (1 : Int32) := ⟨_, rfl⟩
        refine lv_iinc (v := v60) (lv' := [(14, .int v60), (0, .ref th), (2, .int x2), (3, .int x3), (4, .int x4), (5, .int x5), (7, .int x7), (8, .int x8), (9, .int x9), (11, .int x11), (12, .int x12), (13, .int x13)]) hx hb dX7_comes_318 hl (k := 11) rfl (by rw [e61]; rfl) (by decide) rfl (fun ls hl => ?_)
        have hf := pq_nmx hf v60 e61
        refine lv_goto (tgt := 300) hx hb dX7_comes_321 (by decide) ?_
        exact ih300 x2 x3 x4 x5 x7 x8 x9 x11 x12 x13 v60 f58 _ _ hh ls (lv_sub hl [1, 2, 3, 4, 5, 6, 7, 8, 9, 10, 11, 0] rfl) hf
  have J342 : ∀ (fuel342 : Nat) (x2 : Int32) (x3 : Int32) (x4 : Int32) (x5 : Int32) (x7 : Int32) (x8 : Int32) (x9 : Int32) (x11 : Int32) (x12 : Int32) (x13 : Int32) (x14 : Int32) (f_g : Nat → Int32) (H : Heap) (locs : List Loc), pq_H D A s (wX7_comes cI th ad c_told c_sumZ c_sumE c_stepY c_odd c_even c_taped c_outs c_isFound f_g f_table2 f_table3 f_table4 f_table5 f_weight2 f_weight3 f_weight4 f_weight5 f_pace2 f_pace3 f_pace4 f_pace5) H locs → ∀ ls : Array Slot, lv_has ls 16 [(0, .ref th), (2, .int x2), (3, .int x3), (4, .int x4), (5, .int x5), (7, .int x7), (8, .int x8), (9, .int x9), (11, .int x11), (12, .int x12), (13, .int x13), (14, .int x14)] → fX7_comes_b342  c_sumZ c_sumE c_stepY f_table2 f_table3 f_table4 f_table5 f_weight2 f_weight3 f_weight4 f_weight5 f_pace2 f_pace3 f_pace4 f_pace5 fuel342 x2 x3 x4 x5 x7 x8 x9 x11 x12 x13 x14 f_g = some res → W p l e (pq_rm 2 52) s m args below meth c H locs 0 0 Q (F0 m 342 ls []) := by
    intro fuel342
    induction fuel342 with
    | zero => intro x2 x3 x4 x5 x7 x8 x9 x11 x12 x13 x14 f_g H locs hh ls hl hf; rw [fX7_comes_b342] at hf; cases hf
    | succ fuel342 ih342 =>
      have J428 : ∀ (x2 : Int32) (x3 : Int32) (x4 : Int32) (x5 : Int32) (x7 : Int32) (x8 : Int32) (x9 : Int32) (x11 : Int32) (x12 : Int32) (x13 : Int32) (x14 : Int32) (x15 : Int32) (f_g : Nat → Int32) (H : Heap) (locs : List Loc), pq_H D A s (wX7_comes cI th ad c_told c_sumZ c_sumE c_stepY c_odd c_even c_taped c_outs c_isFound f_g f_table2 f_table3 f_table4 f_table5 f_weight2 f_weight3 f_weight4 f_weight5 f_pace2 f_pace3 f_pace4 f_pace5) H locs → ∀ ls : Array Slot, lv_has ls 16 [(0, .ref th), (2, .int x2), (3, .int x3), (4, .int x4), (5, .int x5), (7, .int x7), (8, .int x8), (9, .int x9), (11, .int x11), (12, .int x12), (13, .int x13), (14, .int x14), (15, .int x15)] → fX7_comes_b428 (fX7_comes_b342  c_sumZ c_sumE c_stepY f_table2 f_table3 f_table4 f_table5 f_weight2 f_weight3 f_weight4 f_weight5 f_pace2 f_pace3 f_pace4 f_pace5 fuel342) c_sumZ c_sumE c_stepY f_table2 f_table3 f_table4 f_table5 f_weight2 f_weight3 f_weight4 f_weight5 f_pace2 f_pace3 f_pace4 f_pace5 x2 x3 x4 x5 x7 x8 x9 x11 x12 x13 x14 x15 f_g = some res → W p l e (pq_rm 2 52) s m args below meth c H locs 0 0 Q (F0 m 428 ls []) := by
        intro x2 x3 x4 x5 x7 x8 x9 x11 x12 x13 x14 x15 f_g H locs hh ls hl hf
        rw [fX7_comes_b428] at hf
        refine lv_aload_n hx hb dX7_comes_428 rfl (lv_at hl 0 rfl) ?_
        refine pq_get C hh i7 0 6 rfl rfl 3 (by decide) kf17 rfl rfl dX7_comes_429 ?_
        refine lv_iload hx hb dX7_comes_432 (lv_at hl 3 rfl) ?_
        refine lv_bipush (v := (8 : Int32)) hx hb dX7_comes_434 (by decide) ?_
        refine lv_iadd hx hb dX7_comes_436 ?_
        refine lv_iload hx hb dX7_comes_437 (lv_at hl 11 rfl) ?_
        refine lv_iadd hx hb dX7_comes_439 ?_
        refine lv_aload_n hx hb dX7_comes_440 rfl (lv_at hl 0 rfl) ?_
        refine lv_iload hx hb dX7_comes_441 (lv_at hl 12 rfl) ?_
        obtain ⟨r173, hu174, hf⟩ := pq_clx hf
        refine pq_cvI (n := 1) (As := [.int x15]) C hh (qX7_wrapped l D cI cL th x15 r173 hu174) (gvX7_wrapped hs (pq_m17 _ (List.mem_of_getElem? (i := 19) rfl))) rfl (by decide +kernel) ⟨Nat.le_of_ble_eq_true rfl, Nat.le_of_ble_eq_true rfl⟩ 0 6 rfl rfl rfl hl.1 rfl rfl (Nat.le_of_ble_eq_true rfl) dX7_comes_443 ⟨Nat.zero_le _, Nat.zero_le _⟩ [] [0, 1, 2, 3, 4, 5, 6, 7, 8, 9, 10, 11, 12, 13] [0, 1, 2, 3, 4, 5, 6, 7, 8, 9, 10, 11, 12, 13] rfl rfl (by decide) (by decide) (by decide) rfl (fun H locs (hh : pq_H D A s (wX7_comes cI th ad c_told c_sumZ c_sumE c_stepY c_odd c_even c_taped c_outs c_isFound f_g f_table2 f_table3 f_table4 f_table5 f_weight2 f_weight3 f_weight4 f_weight5 f_pace2 f_pace3 f_pace4 f_pace5) H locs) => ?_)
        obtain ⟨h175, hf⟩ := pq_wrx hf
        refine pq_iast C hh 1 rfl h175 dX7_comes_446 (fun H locs f176 e177 (hh : pq_H D A s (wX7_comes cI th ad c_told c_sumZ c_sumE c_stepY c_odd c_even c_taped c_outs c_isFound f176 f_table2 f_table3 f_table4 f_table5 f_weight2 f_weight3 f_weight4 f_weight5 f_pace2 f_pace3 f_pace4 f_pace5) H locs) => ?_)
        have hf := hf f176 e177
        obtain ⟨v178, e179⟩ : ∃ y : Int32, y = x14 + (1 : Int32) := ⟨_, rfl⟩
        refine lv_iinc (v := v178) (lv' := [(14, .int v178), (0, .ref th), (2, .int x2), (3, .int x3), (4, .int x4), (5, .int x5), (7, .int x7), (8, .int x8), (9, .int x9), (11, .int x11), (12, .int x12), (13, .int x13), (15, .int x15)]) hx hb dX7_comes_447 hl (k := 11) rfl (by rw [e179]; rfl) (by decide) rfl (fun ls hl => ?_)
        have hf := pq_nmx hf v178 e179
        refine lv_goto (tgt := 342) hx hb dX7_comes_450 (by decide) ?_
        exact ih342 x2 x3 x4 x5 x7 x8 x9 x11 x12 x13 v178 f176 _ _ hh ls (lv_sub hl [1, 2, 3, 4, 5, 6, 7, 8, 9, 10, 11, 0] rfl) hf
      have J425 : ∀ (x2 : Int32) (x3 : Int32) (x4 : Int32) (x5 : Int32) (x7 : Int32) (x8 : Int32) (x9 : Int32) (x11 : Int32) (x12 : Int32) (x13 : Int32) (x14 : Int32) (s0 : Int32) (s1 : Int32) (f_g : Nat → Int32) (H : Heap) (locs : List Loc), pq_H D A s (wX7_comes cI th ad c_told c_sumZ c_sumE c_stepY c_odd c_even c_taped c_outs c_isFound f_g f_table2 f_table3 f_table4 f_table5 f_weight2 f_weight3 f_weight4 f_weight5 f_pace2 f_pace3 f_pace4 f_pace5) H locs → ∀ ls : Array Slot, lv_has ls 16 [(0, .ref th), (2, .int x2), (3, .int x3), (4, .int x4), (5, .int x5), (7, .int x7), (8, .int x8), (9, .int x9), (11, .int x11), (12, .int x12), (13, .int x13), (14, .int x14)] → fX7_comes_b425 (fX7_comes_b342  c_sumZ c_sumE c_stepY f_table2 f_table3 f_table4 f_table5 f_weight2 f_weight3 f_weight4 f_weight5 f_pace2 f_pace3 f_pace4 f_pace5 fuel342) c_sumZ c_sumE c_stepY f_table2 f_table3 f_table4 f_table5 f_weight2 f_weight3 f_weight4 f_weight5 f_pace2 f_pace3 f_pace4 f_pace5 x2 x3 x4 x5 x7 x8 x9 x11 x12 x13 x14 s0 s1 f_g = some res → W p l e (pq_rm 2 52) s m args below meth c H locs 0 0 Q (F0 m 425 ls [.int s1, .int s0]) := by
        intro x2 x3 x4 x5 x7 x8 x9 x11 x12 x13 x14 s0 s1 f_g H locs hh ls hl hf
        rw [fX7_comes_b425] at hf
        refine lv_iadd hx hb dX7_comes_425 ?_
        refine lv_topi (fun v171 e172 => ?_)
        have hf := pq_nmx hf v171 e172
        refine lv_istore (lv' := [(15, .int v171), (0, .ref th), (2, .int x2), (3, .int x3), (4, .int x4), (5, .int x5), (7, .int x7), (8, .int x8), (9, .int x9), (11, .int x11), (12, .int x12), (13, .int x13), (14, .int x14)]) hx hb dX7_comes_426 hl (by decide) rfl (fun ls hl => ?_)
        exact J428 x2 x3 x4 x5 x7 x8 x9 x11 x12 x13 x14 v171 f_g _ _ hh ls (lv_sub hl [1, 2, 3, 4, 5, 6, 7, 8, 9, 10, 11, 12, 0] rfl) hf
      have J414 : ∀ (x2 : Int32) (x3 : Int32) (x4 : Int32) (x5 : Int32) (x7 : Int32) (x8 : Int32) (x9 : Int32) (x11 : Int32) (x12 : Int32) (x13 : Int32) (x14 : Int32) (s0 : Int32) (s1 : Int32) (s2 : Int32) (f_g : Nat → Int32) (H : Heap) (locs : List Loc), pq_H D A s (wX7_comes cI th ad c_told c_sumZ c_sumE c_stepY c_odd c_even c_taped c_outs c_isFound f_g f_table2 f_table3 f_table4 f_table5 f_weight2 f_weight3 f_weight4 f_weight5 f_pace2 f_pace3 f_pace4 f_pace5) H locs → ∀ ls : Array Slot, lv_has ls 16 [(0, .ref th), (2, .int x2), (3, .int x3), (4, .int x4), (5, .int x5), (7, .int x7), (8, .int x8), (9, .int x9), (11, .int x11), (12, .int x12), (13, .int x13), (14, .int x14)] → fX7_comes_b414 (fX7_comes_b342  c_sumZ c_sumE c_stepY f_table2 f_table3 f_table4 f_table5 f_weight2 f_weight3 f_weight4 f_weight5 f_pace2 f_pace3 f_pace4 f_pace5 fuel342) c_sumZ c_sumE c_stepY f_table2 f_table3 f_table4 f_table5 f_weight2 f_weight3 f_weight4 f_weight5 f_pace2 f_pace3 f_pace4 f_pace5 x2 x3 x4 x5 x7 x8 x9 x11 x12 x13 x14 s0 s1 s2 f_g = some res → W p l e (pq_rm 2 52) s m args below meth c H locs 0 0 Q (F0 m 414 ls [.int s2, .int s1, .int s0]) := by
        intro x2 x3 x4 x5 x7 x8 x9 x11 x12 x13 x14 s0 s1 s2 f_g H locs hh ls hl hf
        rw [fX7_comes_b414] at hf
        refine lv_icmp_ne (tgt := 423) hx hb dX7_comes_414 (by decide) (fun h170 => ?_) (fun h170 => ?_)
        · have hf := pq_brf hf h170
          refine lv_bipush (v := (-128 : Int32)) hx hb dX7_comes_423 (by decide) ?_
          exact J425 x2 x3 x4 x5 x7 x8 x9 x11 x12 x13 x14 s0 (-128 : Int32) f_g _ _ hh ls (lv_sub hl [0, 1, 2, 3, 4, 5, 6, 7, 8, 9, 10, 11] rfl) hf
        · have hf := pq_brt hf h170
          refine lv_sipush (v := (128 : Int32)) hx hb dX7_comes_417 (by decide) ?_
          refine lv_goto (tgt := 425) hx hb dX7_comes_420 (by decide) ?_
          exact J425 x2 x3 x4 x5 x7 x8 x9 x11 x12 x13 x14 s0 (128 : Int32) f_g _ _ hh ls (lv_sub hl [0, 1, 2, 3, 4, 5, 6, 7, 8, 9, 10, 11] rfl) hf
      have J380 : ∀ (x2 : Int32) (x3 : Int32) (x4 : Int32) (x5 : Int32) (x7 : Int32) (x8 : Int32) (x9 : Int32) (x11 : Int32) (x12 : Int32) (x13 : Int32) (x14 : Int32) (s0 : Int32) (s1 : Int32) (s2 : Int32) (f_g : Nat → Int32) (H : Heap) (locs : List Loc), pq_H D A s (wX7_comes cI th ad c_told c_sumZ c_sumE c_stepY c_odd c_even c_taped c_outs c_isFound f_g f_table2 f_table3 f_table4 f_table5 f_weight2 f_weight3 f_weight4 f_weight5 f_pace2 f_pace3 f_pace4 f_pace5) H locs → ∀ ls : Array Slot, lv_has ls 16 [(0, .ref th), (2, .int x2), (3, .int x3), (4, .int x4), (5, .int x5), (7, .int x7), (8, .int x8), (9, .int x9), (11, .int x11), (12, .int x12), (13, .int x13), (14, .int x14)] → fX7_comes_b380 (fX7_comes_b342  c_sumZ c_sumE c_stepY f_table2 f_table3 f_table4 f_table5 f_weight2 f_weight3 f_weight4 f_weight5 f_pace2 f_pace3 f_pace4 f_pace5 fuel342) c_sumZ c_sumE c_stepY f_table2 f_table3 f_table4 f_table5 f_weight2 f_weight3 f_weight4 f_weight5 f_pace2 f_pace3 f_pace4 f_pace5 x2 x3 x4 x5 x7 x8 x9 x11 x12 x13 x14 s0 s1 s2 f_g = some res → W p l e (pq_rm 2 52) s m args below meth c H locs 0 0 Q (F0 m 380 ls [.int s2, .int s1, .int s0]) := by
        intro x2 x3 x4 x5 x7 x8 x9 x11 x12 x13 x14 s0 s1 s2 f_g H locs hh ls hl hf
        rw [fX7_comes_b380] at hf
        refine lv_ishr hx hb dX7_comes_380 ?_
        refine lv_isub hx hb dX7_comes_381 ?_
        refine lv_topi (fun v163 e164 => ?_)
        have hf := pq_nmx hf v163 e164
        refine lv_istore (lv' := [(15, .int v163), (0, .ref th), (2, .int x2), (3, .int x3), (4, .int x4), (5, .int x5), (7, .int x7), (8, .int x8), (9, .int x9), (11, .int x11), (12, .int x12), (13, .int x13), (14, .int x14)]) hx hb dX7_comes_382 hl (by decide) rfl (fun ls hl => ?_)
        refine lv_iload hx hb dX7_comes_384 (lv_at hl 6 rfl) ?_
        refine lv_if_eq (tgt := 428) hx hb dX7_comes_386 (by decide) (fun h165 => ?_) (fun h165 => ?_)
        · have hf := pq_brt hf h165
          exact J428 x2 x3 x4 x5 x7 x8 x9 x11 x12 x13 x14 v163 f_g _ _ hh ls (lv_sub hl [1, 2, 3, 4, 5, 6, 7, 8, 9, 10, 11, 12, 0] rfl) hf
        · have hf := pq_brf hf h165
          refine lv_iload hx hb dX7_comes_389 (lv_at hl 0 rfl) ?_
          refine lv_iload hx hb dX7_comes_391 (lv_at hl 7 rfl) ?_
          refine lv_aload_n hx hb dX7_comes_393 rfl (lv_at hl 1 rfl) ?_
          refine pq_get C hh i7 0 6 rfl rfl 3 (by decide) kf17 rfl rfl dX7_comes_394 ?_
          refine lv_iload hx hb dX7_comes_397 (lv_at hl 4 rfl) ?_
          refine lv_bipush (v := (16 : Int32)) hx hb dX7_comes_399 (by decide) ?_
          refine lv_iadd hx hb dX7_comes_401 ?_
          refine lv_iload hx hb dX7_comes_402 (lv_at hl 12 rfl) ?_
          refine lv_iadd hx hb dX7_comes_404 ?_
          obtain ⟨h166, hf⟩ := pq_rdx hf
          refine pq_iald C hh 1 rfl h166 dX7_comes_405 (fun v167 e168 => ?_)
          have hf := hf v167 e168
          refine lv_if_ge (tgt := 413) hx hb dX7_comes_406 (by decide) (fun h169 => ?_) (fun h169 => ?_)
          · have hf := pq_brt hf h169
            refine lv_iconst (v := (0 : Int32)) hx hb dX7_comes_413 (by decide) ?_
            exact J414 x2 x3 x4 x5 x7 x8 x9 x11 x12 x13 x14 v163 x8 (0 : Int32) f_g _ _ hh ls (lv_sub hl [1, 2, 3, 4, 5, 6, 7, 8, 9, 10, 11, 12] rfl) hf
          · have hf := pq_brf hf h169
            refine lv_iconst (v := (1 : Int32)) hx hb dX7_comes_409 (by decide) ?_
            refine lv_goto (tgt := 414) hx hb dX7_comes_410 (by decide) ?_
            exact J414 x2 x3 x4 x5 x7 x8 x9 x11 x12 x13 x14 v163 x8 (1 : Int32) f_g _ _ hh ls (lv_sub hl [1, 2, 3, 4, 5, 6, 7, 8, 9, 10, 11, 12] rfl) hf
      intro x2 x3 x4 x5 x7 x8 x9 x11 x12 x13 x14 f_g H locs hh ls hl hf
      rw [fX7_comes_b342] at hf
      refine lv_iload hx hb dX7_comes_342 (lv_at hl 11 rfl) ?_
      refine lv_bipush (v := (6 : Int32)) hx hb dX7_comes_344 (by decide) ?_
      refine lv_icmp_ge (tgt := 453) hx hb dX7_comes_346 (by decide) (fun h158 => ?_) (fun h158 => ?_)
      · have hf := pq_brt hf h158
        exact J453 x2 x3 x4 x5 x7 x8 x9 x11 x12 x13 f_g _ _ hh ls (lv_sub hl [0, 1, 2, 3, 4, 5, 6, 7, 8, 9, 10] rfl) hf
      · have hf := pq_brf hf h158
        refine lv_aload_n hx hb dX7_comes_349 rfl (lv_at hl 0 rfl) ?_
        refine pq_get C hh i7 0 6 rfl rfl 3 (by decide) kf17 rfl rfl dX7_comes_350 ?_
        refine lv_iload hx hb dX7_comes_353 (lv_at hl 3 rfl) ?_
        refine lv_bipush (v := (8 : Int32)) hx hb dX7_comes_355 (by decide) ?_
        refine lv_iadd hx hb dX7_comes_357 ?_
        refine lv_iload hx hb dX7_comes_358 (lv_at hl 11 rfl) ?_
        refine lv_iadd hx hb dX7_comes_360 ?_
        obtain ⟨h159, hf⟩ := pq_rdx hf
        refine pq_iald C hh 1 rfl h159 dX7_comes_361 (fun v160 e161 => ?_)
        have hf := hf v160 e161
        refine lv_istore (lv' := [(15, .int v160), (0, .ref th), (2, .int x2), (3, .int x3), (4, .int x4), (5, .int x5), (7, .int x7), (8, .int x8), (9, .int x9), (11, .int x11), (12, .int x12), (13, .int x13), (14, .int x14)]) hx hb dX7_comes_362 hl (by decide) rfl (fun ls hl => ?_)
        refine lv_iload hx hb dX7_comes_364 (lv_at hl 0 rfl) ?_
        refine lv_iload hx hb dX7_comes_366 (lv_at hl 0 rfl) ?_
        refine lv_iload_n hx hb dX7_comes_368 rfl (lv_at hl 2 rfl) ?_
        refine lv_iconst (v := (5 : Int32)) hx hb dX7_comes_369 (by decide) ?_
        refine lv_icmp_ne (tgt := 378) hx hb dX7_comes_370 (by decide) (fun h162 => ?_) (fun h162 => ?_)
        · have hf := pq_brf hf h162
          refine lv_bipush (v := (8 : Int32)) hx hb dX7_comes_378 (by decide) ?_
          exact J380 x2 x3 x4 x5 x7 x8 x9 x11 x12 x13 x14 v160 v160 (8 : Int32) f_g _ _ hh ls (lv_sub hl [1, 2, 3, 4, 5, 6, 7, 8, 9, 10, 11, 12] rfl) hf
        · have hf := pq_brt hf h162
          refine lv_bipush (v := (9 : Int32)) hx hb dX7_comes_373 (by decide) ?_
          refine lv_goto (tgt := 380) hx hb dX7_comes_375 (by decide) ?_
          exact J380 x2 x3 x4 x5 x7 x8 x9 x11 x12 x13 x14 v160 v160 (9 : Int32) f_g _ _ hh ls (lv_sub hl [1, 2, 3, 4, 5, 6, 7, 8, 9, 10, 11, 12] rfl) hf
  have J210 : ∀ (x2 : Int32) (x3 : Int32) (x4 : Int32) (x5 : Int32) (x7 : Int32) (x8 : Int32) (x9 : Int32) (x10 : Int32) (x11 : Int32) (f_g : Nat → Int32) (H : Heap) (locs : List Loc), pq_H D A s (wX7_comes cI th ad c_told c_sumZ c_sumE c_stepY c_odd c_even c_taped c_outs c_isFound f_g f_table2 f_table3 f_table4 f_table5 f_weight2 f_weight3 f_weight4 f_weight5 f_pace2 f_pace3 f_pace4 f_pace5) H locs → ∀ ls : Array Slot, lv_has ls 16 [(0, .ref th), (2, .int x2), (3, .int x3), (4, .int x4), (5, .int x5), (7, .int x7), (8, .int x8), (9, .int x9), (10, .int x10), (11, .int x11)] → fX7_comes_b210  c_sumZ c_sumE c_stepY f_table2 f_table3 f_table4 f_table5 f_weight2 f_weight3 f_weight4 f_weight5 f_pace2 f_pace3 f_pace4 f_pace5 x2 x3 x4 x5 x7 x8 x9 x10 x11 f_g = some res → W p l e (pq_rm 2 52) s m args below meth c H locs 0 0 Q (F0 m 210 ls []) := by
    intro x2 x3 x4 x5 x7 x8 x9 x10 x11 f_g H locs hh ls hl hf
    rw [fX7_comes_b210] at hf
    refine lv_aload_n hx hb dX7_comes_210 rfl (lv_at hl 0 rfl) ?_
    refine pq_get C hh i7 0 6 rfl rfl 3 (by decide) kf17 rfl rfl dX7_comes_211 ?_
    refine lv_iload hx hb dX7_comes_214 (lv_at hl 3 rfl) ?_
    refine lv_iconst (v := (1 : Int32)) hx hb dX7_comes_216 (by decide) ?_
    refine lv_iadd hx hb dX7_comes_217 ?_
    refine lv_aload_n hx hb dX7_comes_218 rfl (lv_at hl 0 rfl) ?_
    refine lv_iload hx hb dX7_comes_219 (lv_at hl 4 rfl) ?_
    refine lv_aload_n hx hb dX7_comes_221 rfl (lv_at hl 0 rfl) ?_
    refine lv_iload_n hx hb dX7_comes_222 rfl (lv_at hl 1 rfl) ?_
    refine lv_iload_n hx hb dX7_comes_223 rfl (lv_at hl 2 rfl) ?_
    obtain ⟨r30, hu31, hf⟩ := pq_clx hf
    refine pq_cvI (n := 2) (As := [.int x2, .int x3]) C hh (qX7_weight l D cI cL th ad c_told c_sumZ c_sumE c_stepY c_odd c_even c_taped c_outs c_isFound f_weight2 f_weight3 f_weight4 f_weight5 x2 x3 r30 hu31) (gvX7_weight hs (pq_m18 _ (List.mem_of_getElem? (i := 15) rfl))) rfl (by decide +kernel) ⟨Nat.le_of_ble_eq_true rfl, Nat.le_of_ble_eq_true rfl⟩ 0 6 rfl rfl rfl hl.1 rfl rfl (Nat.le_of_ble_eq_true rfl) dX7_comes_224 ⟨Nat.zero_le _, Nat.zero_le _⟩ [0, 6, 7, 8, 9] [1, 2, 3, 4, 5, 10, 11, 12, 13] [9, 0, 1, 2, 3, 4, 10, 11, 12, 13, 5, 6, 7, 8] rfl rfl (by decide) (by decide) (by decide) rfl (fun H locs (hh : pq_H D A s (wX7_comes cI th ad c_told c_sumZ c_sumE c_stepY c_odd c_even c_taped c_outs c_isFound f_g f_table2 f_table3 f_table4 f_table5 f_weight2 f_weight3 f_weight4 f_weight5 f_pace2 f_pace3 f_pace4 f_pace5) H locs) => ?_)
    refine lv_iload hx hb dX7_comes_227 (lv_at hl 4 rfl) ?_
    refine lv_isub hx hb dX7_comes_229 ?_
    refine lv_iconst (v := (5 : Int32)) hx hb dX7_comes_230 (by decide) ?_
    refine lv_ishr hx hb dX7_comes_231 ?_
    refine lv_iadd hx hb dX7_comes_232 ?_
    refine lv_sipush (v := (544 : Int32)) hx hb dX7_comes_233 (by decide) ?_
    refine lv_sipush (v := (5120 : Int32)) hx hb dX7_comes_236 (by decide) ?_
    obtain ⟨r32, hu33, hf⟩ := pq_clx hf
    refine pq_cvI (n := 3) (As := [.int (x5 + ((r30 - x5) >>> ((5 : Int32) &&& 31))), .int (544 : Int32), .int (5120 : Int32)]) C hh (qX7_cut l D cI cL th (x5 + ((r30 - x5) >>> ((5 : Int32) &&& 31))) (544 : Int32) (5120 : Int32) r32 hu33) (gvX7_cut hs (pq_m18 _ (List.mem_of_getElem? (i := 19) rfl))) rfl (by decide +kernel) ⟨Nat.le_of_ble_eq_true rfl, Nat.le_of_ble_eq_true rfl⟩ 0 6 rfl rfl rfl hl.1 rfl rfl (Nat.le_of_ble_eq_true rfl) dX7_comes_239 ⟨Nat.zero_le _, Nat.zero_le _⟩ [] [0, 1, 2, 3, 4, 5, 6, 7, 8, 9, 10, 11, 12, 13] [0, 1, 2, 3, 4, 5, 6, 7, 8, 9, 10, 11, 12, 13] rfl rfl (by decide) (by decide) (by decide) rfl (fun H locs (hh : pq_H D A s (wX7_comes cI th ad c_told c_sumZ c_sumE c_stepY c_odd c_even c_taped c_outs c_isFound f_g f_table2 f_table3 f_table4 f_table5 f_weight2 f_weight3 f_weight4 f_weight5 f_pace2 f_pace3 f_pace4 f_pace5) H locs) => ?_)
    obtain ⟨h34, hf⟩ := pq_wrx hf
    refine pq_iast C hh 1 rfl h34 dX7_comes_242 (fun H locs f35 e36 (hh : pq_H D A s (wX7_comes cI th ad c_told c_sumZ c_sumE c_stepY c_odd c_even c_taped c_outs c_isFound f35 f_table2 f_table3 f_table4 f_table5 f_weight2 f_weight3 f_weight4 f_weight5 f_pace2 f_pace3 f_pace4 f_pace5) H locs) => ?_)
    have hf := hf f35 e36
    refine lv_aload_n hx hb dX7_comes_243 rfl (lv_at hl 0 rfl) ?_
    refine pq_get C hh i7 0 6 rfl rfl 3 (by decide) kf17 rfl rfl dX7_comes_244 ?_
    refine lv_iload hx hb dX7_comes_247 (lv_at hl 3 rfl) ?_
    refine lv_aload_n hx hb dX7_comes_249 rfl (lv_at hl 0 rfl) ?_
    refine pq_get C hh i7 0 6 rfl rfl 3 (by decide) kf17 rfl rfl dX7_comes_250 ?_
    refine lv_iload hx hb dX7_comes_253 (lv_at hl 3 rfl) ?_
    obtain ⟨h37, hf⟩ := pq_rdx hf
    refine pq_iald C hh 1 rfl h37 dX7_comes_255 (fun v38 e39 => ?_)
    have hf := hf v38 e39
    refine lv_aload_n hx hb dX7_comes_256 rfl (lv_at hl 0 rfl) ?_
    refine pq_get C hh i7 0 6 rfl rfl 3 (by decide) kf17 rfl rfl dX7_comes_257 ?_
    refine lv_iload hx hb dX7_comes_260 (lv_at hl 3 rfl) ?_
    refine lv_iconst (v := (1 : Int32)) hx hb dX7_comes_262 (by decide) ?_
    refine lv_iadd hx hb dX7_comes_263 ?_
    obtain ⟨h40, hf⟩ := pq_rdx hf
    refine pq_iald C hh 1 rfl h40 dX7_comes_264 (fun v41 e42 => ?_)
    have hf := hf v41 e42
    refine lv_iadd hx hb dX7_comes_265 ?_
    refine lv_aload_n hx hb dX7_comes_266 rfl (lv_at hl 0 rfl) ?_
    refine pq_get C hh i7 0 6 rfl rfl 3 (by decide) kf17 rfl rfl dX7_comes_267 ?_
    refine lv_iload hx hb dX7_comes_270 (lv_at hl 3 rfl) ?_
    obtain ⟨h43, hf⟩ := pq_rdx hf
    refine pq_iald C hh 1 rfl h43 dX7_comes_272 (fun v44 e45 => ?_)
    have hf := hf v44 e45
    refine lv_ineg hx hb dX7_comes_273 ?_
    refine lv_bipush (v := (6 : Int32)) hx hb dX7_comes_274 (by decide) ?_
    refine lv_ishr hx hb dX7_comes_276 ?_
    refine lv_iadd hx hb dX7_comes_277 ?_
    obtain ⟨h46, hf⟩ := pq_wrx hf
    refine pq_iast C hh 1 rfl h46 dX7_comes_278 (fun H locs f47 e48 (hh : pq_H D A s (wX7_comes cI th ad c_told c_sumZ c_sumE c_stepY c_odd c_even c_taped c_outs c_isFound f47 f_table2 f_table3 f_table4 f_table5 f_weight2 f_weight3 f_weight4 f_weight5 f_pace2 f_pace3 f_pace4 f_pace5) H locs) => ?_)
    have hf := hf f47 e48
    refine lv_aload_n hx hb dX7_comes_279 rfl (lv_at hl 0 rfl) ?_
    refine lv_iload hx hb dX7_comes_280 (lv_at hl 8 rfl) ?_
    obtain ⟨r49, hu50, hf⟩ := pq_clx hf
    refine pq_cvI (n := 1) (As := [.int x10]) C hh (qX7_sign l D cI cL th x10 r49 hu50) (gvX7_sign hs (pq_m16 _ (List.mem_of_getElem? (i := 12) rfl))) rfl (by decide +kernel) ⟨Nat.le_of_ble_eq_true rfl, Nat.le_of_ble_eq_true rfl⟩ 0 6 rfl rfl rfl hl.1 rfl rfl (Nat.le_of_ble_eq_true rfl) dX7_comes_282 ⟨Nat.zero_le _, Nat.zero_le _⟩ [] [0, 1, 2, 3, 4, 5, 6, 7, 8, 9, 10, 11, 12, 13] [0, 1, 2, 3, 4, 5, 6, 7, 8, 9, 10, 11, 12, 13] rfl rfl (by decide) (by decide) (by decide) rfl (fun H locs (hh : pq_H D A s (wX7_comes cI th ad c_told c_sumZ c_sumE c_stepY c_odd c_even c_taped c_outs c_isFound f47 f_table2 f_table3 f_table4 f_table5 f_weight2 f_weight3 f_weight4 f_weight5 f_pace2 f_pace3 f_pace4 f_pace5) H locs) => ?_)
    refine lv_istore (lv' := [(12, .int r49), (0, .ref th), (2, .int x2), (3, .int x3), (4, .int x4), (5, .int x5), (7, .int x7), (8, .int x8), (9, .int x9), (10, .int x10), (11, .int x11)]) hx hb dX7_comes_285 hl (by decide) rfl (fun ls hl => ?_)
    refine lv_iconst (v := (0 : Int32)) hx hb dX7_comes_287 (by decide) ?_
    refine lv_istore (lv' := [(13, .int (0 : Int32)), (12, .int r49), (0, .ref th), (2, .int x2), (3, .int x3), (4, .int x4), (5, .int x5), (7, .int x7), (8, .int x8), (9, .int x9), (10, .int x10), (11, .int x11)]) hx hb dX7_comes_288 hl (by decide) rfl (fun ls hl => ?_)
    refine lv_iload hx hb dX7_comes_290 (lv_at hl 11 rfl) ?_
    refine lv_iconst (v := (1 : Int32)) hx hb dX7_comes_292 (by decide) ?_
    refine lv_icmp_ne (tgt := 327) hx hb dX7_comes_293 (by decide) (fun h51 => ?_) (fun h51 => ?_)
    · have hf := pq_brf hf h51
      refine lv_aload_n hx hb dX7_comes_327 rfl (lv_at hl 2 rfl) ?_
      refine lv_iload hx hb dX7_comes_328 (lv_at hl 5 rfl) ?_
      refine lv_iload hx hb dX7_comes_330 (lv_at hl 1 rfl) ?_
      refine lv_iload hx hb dX7_comes_332 (lv_at hl 10 rfl) ?_
      obtain ⟨⟨r52, f53⟩, hu54, hf⟩ := pq_clx hf
      have hf := pq_nmx hf r52 rfl
      have hf := pq_nmx hf f53 rfl
      refine pq_cvI (n := 3) (As := [.int x4, .int r49, .int x10]) C hh (qX7_adapts l D cI cL th ad c_told c_sumZ c_sumE c_stepY c_odd c_even c_taped c_outs c_isFound f47 x4 r49 x10 (r52, f53) hu54) (gvX7_adapts hs (pq_m18 _ (List.mem_of_getElem? (i := 23) rfl))) rfl (by decide +kernel) ⟨Nat.le_of_ble_eq_true rfl, Nat.le_of_ble_eq_true rfl⟩ 0 6 rfl rfl rfl hl.1 rfl rfl (Nat.le_of_ble_eq_true rfl) dX7_comes_334 ⟨Nat.zero_le _, Nat.zero_le _⟩ [0, 1] [2, 3, 4, 5, 6, 7, 8, 9, 10, 11, 12, 13] [12, 13, 0, 1, 2, 3, 4, 5, 6, 7, 8, 9, 10, 11] rfl rfl (by decide) (by decide) (by decide) rfl (fun H locs (hh : pq_H D A s (wX7_comes cI th ad c_told c_sumZ c_sumE c_stepY c_odd c_even c_taped c_outs c_isFound f53 f_table2 f_table3 f_table4 f_table5 f_weight2 f_weight3 f_weight4 f_weight5 f_pace2 f_pace3 f_pace4 f_pace5) H locs) => ?_)
      refine lv_istore (lv' := [(13, .int r52), (12, .int r49), (0, .ref th), (2, .int x2), (3, .int x3), (4, .int x4), (5, .int x5), (7, .int x7), (8, .int x8), (9, .int x9), (10, .int x10), (11, .int x11)]) hx hb dX7_comes_337 hl (by decide) rfl (fun ls hl => ?_)
      refine lv_iconst (v := (0 : Int32)) hx hb dX7_comes_339 (by decide) ?_
      refine lv_istore (lv' := [(14, .int (0 : Int32)), (13, .int r52), (12, .int r49), (0, .ref th), (2, .int x2), (3, .int x3), (4, .int x4), (5, .int x5), (7, .int x7), (8, .int x8), (9, .int x9), (10, .int x10), (11, .int x11)]) hx hb dX7_comes_340 hl (by decide) rfl (fun ls hl => ?_)
      exact J342 1100 x2 x3 x4 x5 x7 x8 x9 x11 r49 r52 (0 : Int32) f53 _ _ hh ls (lv_sub hl [3, 4, 5, 6, 7, 8, 9, 10, 12, 2, 1, 0] rfl) hf
    · have hf := pq_brt hf h51
      refine lv_bipush (v := (6 : Int32)) hx hb dX7_comes_296 (by decide) ?_
      refine lv_istore (lv' := [(14, .int (6 : Int32)), (13, .int (0 : Int32)), (12, .int r49), (0, .ref th), (2, .int x2), (3, .int x3), (4, .int x4), (5, .int x5), (7, .int x7), (8, .int x8), (9, .int x9), (10, .int x10), (11, .int x11)]) hx hb dX7_comes_298 hl (by decide) rfl (fun ls hl => ?_)
      exact J300 1100 x2 x3 x4 x5 x7 x8 x9 x11 r49 (0 : Int32) (6 : Int32) f47 _ _ hh ls (lv_sub hl [3, 4, 5, 6, 7, 8, 9, 10, 12, 2, 1, 0] rfl) hf
  have J208 : ∀ (x2 : Int32) (x3 : Int32) (x4 : Int32) (x5 : Int32) (x7 : Int32) (x8 : Int32) (x9 : Int32) (x10 : Int32) (s0 : Int32) (f_g : Nat → Int32) (H : Heap) (locs : List Loc), pq_H D A s (wX7_comes cI th ad c_told c_sumZ c_sumE c_stepY c_odd c_even c_taped c_outs c_isFound f_g f_table2 f_table3 f_table4 f_table5 f_weight2 f_weight3 f_weight4 f_weight5 f_pace2 f_pace3 f_pace4 f_pace5) H locs → ∀ ls : Array Slot, lv_has ls 16 [(0, .ref th), (2, .int x2), (3, .int x3), (4, .int x4), (5, .int x5), (7, .int x7), (8, .int x8), (9, .int x9), (10, .int x10)] → fX7_comes_b208  c_sumZ c_sumE c_stepY f_table2 f_table3 f_table4 f_table5 f_weight2 f_weight3 f_weight4 f_weight5 f_pace2 f_pace3 f_pace4 f_pace5 x2 x3 x4 x5 x7 x8 x9 x10 s0 f_g = some res → W p l e (pq_rm 2 52) s m args below meth c H locs 0 0 Q (F0 m 208 ls [.int s0]) := by
    intro x2 x3 x4 x5 x7 x8 x9 x10 s0 f_g H locs hh ls hl hf
    rw [fX7_comes_b208] at hf
    refine lv_istore (lv' := [(11, .int s0), (0, .ref th), (2, .int x2), (3, .int x3), (4, .int x4), (5, .int x5), (7, .int x7), (8, .int x8), (9, .int x9), (10, .int x10)]) hx hb dX7_comes_208 hl (by decide) rfl (fun ls hl => ?_)
    exact J210 x2 x3 x4 x5 x7 x8 x9 x10 s0 f_g _ _ hh ls (lv_sub hl [1, 2, 3, 4, 5, 6, 7, 8, 9, 0] rfl) hf
  have J183 : ∀ (x2 : Int32) (x3 : Int32) (x4 : Int32) (x5 : Int32) (x7 : Int32) (x8 : Int32) (x9 : Int32) (x10 : Int32) (s0 : Int32) (f_g : Nat → Int32) (H : Heap) (locs : List Loc), pq_H D A s (wX7_comes cI th ad c_told c_sumZ c_sumE c_stepY c_odd c_even c_taped c_outs c_isFound f_g f_table2 f_table3 f_table4 f_table5 f_weight2 f_weight3 f_weight4 f_weight5 f_pace2 f_pace3 f_pace4 f_pace5) H locs → ∀ ls : Array Slot, lv_has ls 16 [(0, .ref th), (2, .int x2), (3, .int x3), (4, .int x4), (5, .int x5), (7, .int x7), (8, .int x8), (9, .int x9), (10, .int x10)] → fX7_comes_b183  c_sumZ c_sumE c_stepY f_table2 f_table3 f_table4 f_table5 f_weight2 f_weight3 f_weight4 f_weight5 f_pace2 f_pace3 f_pace4 f_pace5 x2 x3 x4 x5 x7 x8 x9 x10 s0 f_g = some res → W p l e (pq_rm 2 52) s m args below meth c H locs 0 0 Q (F0 m 183 ls [.int s0]) := by
    intro x2 x3 x4 x5 x7 x8 x9 x10 s0 f_g H locs hh ls hl hf
    rw [fX7_comes_b183] at hf
    refine lv_istore (lv' := [(13, .int s0), (0, .ref th), (2, .int x2), (3, .int x3), (4, .int x4), (5, .int x5), (7, .int x7), (8, .int x8), (9, .int x9), (10, .int x10)]) hx hb dX7_comes_183 hl (by decide) rfl (fun ls hl => ?_)
    refine lv_iload hx hb dX7_comes_185 (lv_at hl 0 rfl) ?_
    refine lv_iload hx hb dX7_comes_187 (lv_at hl 0 rfl) ?_
    refine lv_iconst (v := (1 : Int32)) hx hb dX7_comes_189 (by decide) ?_
    refine lv_ishr hx hb dX7_comes_190 ?_
    refine lv_iadd hx hb dX7_comes_191 ?_
    refine lv_iconst (v := (1 : Int32)) hx hb dX7_comes_192 (by decide) ?_
    refine lv_ishr hx hb dX7_comes_193 ?_
    refine lv_topi (fun v27 e28 => ?_)
    have hf := pq_nmx hf v27 e28
    refine lv_istore (lv' := [(14, .int v27), (13, .int s0), (0, .ref th), (2, .int x2), (3, .int x3), (4, .int x4), (5, .int x5), (7, .int x7), (8, .int x8), (9, .int x9), (10, .int x10)]) hx hb dX7_comes_194 hl (by decide) rfl (fun ls hl => ?_)
    refine lv_iload hx hb dX7_comes_196 (lv_at hl 7 rfl) ?_
    refine lv_iload hx hb dX7_comes_198 (lv_at hl 0 rfl) ?_
    refine lv_icmp_le (tgt := 207) hx hb dX7_comes_200 (by decide) (fun h29 => ?_) (fun h29 => ?_)
    · have hf := pq_brt hf h29
      refine lv_iconst (v := (0 : Int32)) hx hb dX7_comes_207 (by decide) ?_
      exact J208 x2 x3 x4 x5 x7 x8 x9 x10 (0 : Int32) f_g _ _ hh ls (lv_sub hl [2, 3, 4, 5, 6, 7, 8, 9, 10] rfl) hf
    · have hf := pq_brf hf h29
      refine lv_iconst (v := (1 : Int32)) hx hb dX7_comes_203 (by decide) ?_
      refine lv_goto (tgt := 208) hx hb dX7_comes_204 (by decide) ?_
      exact J208 x2 x3 x4 x5 x7 x8 x9 x10 (1 : Int32) f_g _ _ hh ls (lv_sub hl [2, 3, 4, 5, 6, 7, 8, 9, 10] rfl) hf
  have J100 : ∀ (x2 : Int32) (x3 : Int32) (x4 : Int32) (x5 : Int32) (x7 : Int32) (x8 : Int32) (s1 : Int32) (f_g : Nat → Int32) (H : Heap) (locs : List Loc), pq_H D A s (wX7_comes cI th ad c_told c_sumZ c_sumE c_stepY c_odd c_even c_taped c_outs c_isFound f_g f_table2 f_table3 f_table4 f_table5 f_weight2 f_weight3 f_weight4 f_weight5 f_pace2 f_pace3 f_pace4 f_pace5) H locs → ∀ ls : Array Slot, lv_has ls 16 [(0, .ref th), (2, .int x2), (3, .int x3), (4, .int x4), (5, .int x5), (7, .int x7), (8, .int x8)] → fX7_comes_b100  c_sumZ c_sumE c_stepY f_table2 f_table3 f_table4 f_table5 f_weight2 f_weight3 f_weight4 f_weight5 f_pace2 f_pace3 f_pace4 f_pace5 x2 x3 x4 x5 x7 x8 s1 f_g = some res → W p l e (pq_rm 2 52) s m args below meth c H locs 0 0 Q (F0 m 100 ls [.int s1, .ref th]) := by
    intro x2 x3 x4 x5 x7 x8 s1 f_g H locs hh ls hl hf
    rw [fX7_comes_b100] at hf
    obtain ⟨r10, hu11, hf⟩ := pq_clx hf
    refine pq_cvI (n := 1) (As := [.int s1]) C hh (qX7_wrapped l D cI cL th s1 r10 hu11) (gvX7_wrapped hs (pq_m17 _ (List.mem_of_getElem? (i := 19) rfl))) rfl (by decide +kernel) ⟨Nat.le_of_ble_eq_true rfl, Nat.le_of_ble_eq_true rfl⟩ 0 6 rfl rfl rfl hl.1 rfl rfl (Nat.le_of_ble_eq_true rfl) dX7_comes_100 ⟨Nat.zero_le _, Nat.zero_le _⟩ [] [0, 1, 2, 3, 4, 5, 6, 7, 8, 9, 10, 11, 12, 13] [0, 1, 2, 3, 4, 5, 6, 7, 8, 9, 10, 11, 12, 13] rfl rfl (by decide) (by decide) (by decide) rfl (fun H locs (hh : pq_H D A s (wX7_comes cI th ad c_told c_sumZ c_sumE c_stepY c_odd c_even c_taped c_outs c_isFound f_g f_table2 f_table3 f_table4 f_table5 f_weight2 f_weight3 f_weight4 f_weight5 f_pace2 f_pace3 f_pace4 f_pace5) H locs) => ?_)
    refine lv_istore (lv' := [(9, .int r10), (0, .ref th), (2, .int x2), (3, .int x3), (4, .int x4), (5, .int x5), (7, .int x7), (8, .int x8)]) hx hb dX7_comes_103 hl (by decide) rfl (fun ls hl => ?_)
    refine lv_aload_n hx hb dX7_comes_105 rfl (lv_at hl 1 rfl) ?_
    refine lv_iload hx hb dX7_comes_106 (lv_at hl 0 rfl) ?_
    refine lv_aload_n hx hb dX7_comes_108 rfl (lv_at hl 1 rfl) ?_
    refine pq_get C hh i7 0 6 rfl rfl 20 (by decide) kf143 rfl rfl dX7_comes_109 ?_
    refine lv_iadd hx hb dX7_comes_112 ?_
    refine lv_aload_n hx hb dX7_comes_113 rfl (lv_at hl 1 rfl) ?_
    refine pq_get C hh i7 0 6 rfl rfl 21 (by decide) kf146 rfl rfl dX7_comes_114 ?_
    refine lv_isub hx hb dX7_comes_117 ?_
    obtain ⟨r12, hu13, hf⟩ := pq_clx hf
    refine pq_cvI (n := 1) (As := [.int ((r10 + c_sumZ) - c_sumE)]) C hh (qX7_wrapped l D cI cL th ((r10 + c_sumZ) - c_sumE) r12 hu13) (gvX7_wrapped hs (pq_m17 _ (List.mem_of_getElem? (i := 19) rfl))) rfl (by decide +kernel) ⟨Nat.le_of_ble_eq_true rfl, Nat.le_of_ble_eq_true rfl⟩ 0 6 rfl rfl rfl hl.1 rfl rfl (Nat.le_of_ble_eq_true rfl) dX7_comes_118 ⟨Nat.zero_le _, Nat.zero_le _⟩ [] [0, 1, 2, 3, 4, 5, 6, 7, 8, 9, 10, 11, 12, 13] [0, 1, 2, 3, 4, 5, 6, 7, 8, 9, 10, 11, 12, 13] rfl rfl (by decide) (by decide) (by decide) rfl (fun H locs (hh : pq_H D A s (wX7_comes cI th ad c_told c_sumZ c_sumE c_stepY c_odd c_even c_taped c_outs c_isFound f_g f_table2 f_table3 f_table4 f_table5 f_weight2 f_weight3 f_weight4 f_weight5 f_pace2 f_pace3 f_pace4 f_pace5) H locs) => ?_)
    refine lv_istore (lv' := [(10, .int r12), (9, .int r10), (0, .ref th), (2, .int x2), (3, .int x3), (4, .int x4), (5, .int x5), (7, .int x7), (8, .int x8)]) hx hb dX7_comes_121 hl (by decide) rfl (fun ls hl => ?_)
    refine lv_iconst (v := (0 : Int32)) hx hb dX7_comes_123 (by decide) ?_
    refine lv_istore (lv' := [(11, .int (0 : Int32)), (10, .int r12), (9, .int r10), (0, .ref th), (2, .int x2), (3, .int x3), (4, .int x4), (5, .int x5), (7, .int x7), (8, .int x8)]) hx hb dX7_comes_124 hl (by decide) rfl (fun ls hl => ?_)
    refine lv_aload_n hx hb dX7_comes_126 rfl (lv_at hl 3 rfl) ?_
    refine pq_get C hh i7 0 6 rfl rfl 3 (by decide) kf17 rfl rfl dX7_comes_127 ?_
    refine lv_iload hx hb dX7_comes_130 (lv_at hl 6 rfl) ?_
    refine lv_iconst (v := (5 : Int32)) hx hb dX7_comes_132 (by decide) ?_
    refine lv_iadd hx hb dX7_comes_133 ?_
    obtain ⟨h14, hf⟩ := pq_rdx hf
    refine pq_iald C hh 1 rfl h14 dX7_comes_134 (fun v15 e16 => ?_)
    have hf := hf v15 e16
    refine lv_iconst (v := (1 : Int32)) hx hb dX7_comes_135 (by decide) ?_
    refine lv_icmp_ne (tgt := 210) hx hb dX7_comes_136 (by decide) (fun h17 => ?_) (fun h17 => ?_)
    · have hf := pq_brf hf h17
      exact J210 x2 x3 x4 x5 x7 x8 r10 r12 (0 : Int32) f_g _ _ hh ls (lv_sub hl [3, 4, 5, 6, 7, 8, 9, 2, 1, 0] rfl) hf
    · have hf := pq_brt hf h17
      refine lv_aload_n hx hb dX7_comes_139 rfl (lv_at hl 3 rfl) ?_
      refine pq_get C hh i7 0 6 rfl rfl 3 (by decide) kf17 rfl rfl dX7_comes_140 ?_
      refine lv_iload hx hb dX7_comes_143 (lv_at hl 6 rfl) ?_
      obtain ⟨h18, hf⟩ := pq_rdx hf
      refine pq_iald C hh 1 rfl h18 dX7_comes_145 (fun v19 e20 => ?_)
      have hf := hf v19 e20
      refine lv_bipush (v := (15 : Int32)) hx hb dX7_comes_146 (by decide) ?_
      refine lv_ishr hx hb dX7_comes_148 ?_
      refine lv_topi (fun v21 e22 => ?_)
      have hf := pq_nmx hf v21 e22
      refine lv_istore (lv' := [(12, .int v21), (11, .int (0 : Int32)), (10, .int r12), (9, .int r10), (0, .ref th), (2, .int x2), (3, .int x3), (4, .int x4), (5, .int x5), (7, .int x7), (8, .int x8)]) hx hb dX7_comes_149 hl (by decide) rfl (fun ls hl => ?_)
      refine lv_iload hx hb dX7_comes_151 (lv_at hl 0 rfl) ?_
      refine lv_bipush (v := (9 : Int32)) hx hb dX7_comes_153 (by decide) ?_
      refine lv_icmp_le (tgt := 164) hx hb dX7_comes_155 (by decide) (fun h23 => ?_) (fun h23 => ?_)
      · have hf := pq_brt hf h23
        refine lv_bipush (v := (32 : Int32)) hx hb dX7_comes_164 (by decide) ?_
        refine lv_aload_n hx hb dX7_comes_166 rfl (lv_at hl 4 rfl) ?_
        refine pq_get C hh i7 0 6 rfl rfl 3 (by decide) kf17 rfl rfl dX7_comes_167 ?_
        refine lv_iload hx hb dX7_comes_170 (lv_at hl 7 rfl) ?_
        obtain ⟨h24, hf⟩ := pq_rdx hf
        refine pq_iald C hh 1 rfl h24 dX7_comes_172 (fun v25 e26 => ?_)
        have hf := hf v25 e26
        refine lv_bipush (v := (10 : Int32)) hx hb dX7_comes_173 (by decide) ?_
        refine lv_ishr hx hb dX7_comes_175 ?_
        refine lv_bipush (v := (31 : Int32)) hx hb dX7_comes_176 (by decide) ?_
        refine lv_iand hx hb dX7_comes_178 ?_
        refine lv_iadd hx hb dX7_comes_179 ?_
        refine lv_iload hx hb dX7_comes_180 (lv_at hl 0 rfl) ?_
        refine lv_ishl hx hb dX7_comes_182 ?_
        exact J183 x2 x3 x4 x5 x7 x8 r10 r12 (((32 : Int32) + ((v25 >>> ((10 : Int32) &&& 31)) &&& (31 : Int32))) <<< (v21 &&& 31)) f_g _ _ hh ls (lv_sub hl [4, 5, 6, 7, 8, 9, 10, 3, 2] rfl) hf
      · have hf := pq_brf hf h23
        refine lv_sipush (v := (31744 : Int32)) hx hb dX7_comes_158 (by decide) ?_
        refine lv_goto (tgt := 183) hx hb dX7_comes_161 (by decide) ?_
        exact J183 x2 x3 x4 x5 x7 x8 r10 r12 (31744 : Int32) f_g _ _ hh ls (lv_sub hl [4, 5, 6, 7, 8, 9, 10, 3, 2] rfl) hf
  have J75 : ∀ (x2 : Int32) (x3 : Int32) (x4 : Int32) (x5 : Int32) (x7 : Int32) (s0 : Int32) (f_g : Nat → Int32) (H : Heap) (locs : List Loc), pq_H D A s (wX7_comes cI th ad c_told c_sumZ c_sumE c_stepY c_odd c_even c_taped c_outs c_isFound f_g f_table2 f_table3 f_table4 f_table5 f_weight2 f_weight3 f_weight4 f_weight5 f_pace2 f_pace3 f_pace4 f_pace5) H locs → ∀ ls : Array Slot, lv_has ls 16 [(0, .ref th), (2, .int x2), (3, .int x3), (4, .int x4), (5, .int x5), (7, .int x7)] → fX7_comes_b75  c_sumZ c_sumE c_stepY f_table2 f_table3 f_table4 f_table5 f_weight2 f_weight3 f_weight4 f_weight5 f_pace2 f_pace3 f_pace4 f_pace5 x2 x3 x4 x5 x7 s0 f_g = some res → W p l e (pq_rm 2 52) s m args below meth c H locs 0 0 Q (F0 m 75 ls [.int s0]) := by
    intro x2 x3 x4 x5 x7 s0 f_g H locs hh ls hl hf
    rw [fX7_comes_b75] at hf
    refine lv_istore (lv' := [(8, .int s0), (0, .ref th), (2, .int x2), (3, .int x3), (4, .int x4), (5, .int x5), (7, .int x7)]) hx hb dX7_comes_75 hl (by decide) rfl (fun ls hl => ?_)
    refine lv_aload_n hx hb dX7_comes_77 rfl (lv_at hl 1 rfl) ?_
    refine lv_iload hx hb dX7_comes_78 (lv_at hl 0 rfl) ?_
    refine lv_if_eq (tgt := 93) hx hb dX7_comes_80 (by decide) (fun h9 => ?_) (fun h9 => ?_)
    · have hf := pq_brt hf h9
      refine lv_aload_n hx hb dX7_comes_93 rfl (lv_at hl 1 rfl) ?_
      refine pq_get C hh i7 0 6 rfl rfl 21 (by decide) kf146 rfl rfl dX7_comes_94 ?_
      refine lv_iload hx hb dX7_comes_97 (lv_at hl 6 rfl) ?_
      refine lv_iadd hx hb dX7_comes_99 ?_
      exact J100 x2 x3 x4 x5 x7 s0 (c_sumE + x7) f_g _ _ hh ls (lv_sub hl [1, 2, 3, 4, 5, 6, 0] rfl) hf
    · have hf := pq_brf hf h9
      refine lv_aload_n hx hb dX7_comes_83 rfl (lv_at hl 1 rfl) ?_
      refine pq_get C hh i7 0 6 rfl rfl 21 (by decide) kf146 rfl rfl dX7_comes_84 ?_
      refine lv_iload hx hb dX7_comes_87 (lv_at hl 6 rfl) ?_
      refine lv_isub hx hb dX7_comes_89 ?_
      refine lv_goto (tgt := 100) hx hb dX7_comes_90 (by decide) ?_
      exact J100 x2 x3 x4 x5 x7 s0 (c_sumE - x7) f_g _ _ hh ls (lv_sub hl [1, 2, 3, 4, 5, 6, 0] rfl) hf
  have J59 : ∀ (x2 : Int32) (x3 : Int32) (x4 : Int32) (x5 : Int32) (s0 : Int32) (f_g : Nat → Int32) (H : Heap) (locs : List Loc), pq_H D A s (wX7_comes cI th ad c_told c_sumZ c_sumE c_stepY c_odd c_even c_taped c_outs c_isFound f_g f_table2 f_table3 f_table4 f_table5 f_weight2 f_weight3 f_weight4 f_weight5 f_pace2 f_pace3 f_pace4 f_pace5) H locs → ∀ ls : Array Slot, lv_has ls 16 [(0, .ref th), (2, .int x2), (3, .int x3), (4, .int x4), (5, .int x5)] → fX7_comes_b59  c_sumZ c_sumE c_stepY f_table2 f_table3 f_table4 f_table5 f_weight2 f_weight3 f_weight4 f_weight5 f_pace2 f_pace3 f_pace4 f_pace5 x2 x3 x4 x5 s0 f_g = some res → W p l e (pq_rm 2 52) s m args below meth c H locs 0 0 Q (F0 m 59 ls [.int s0]) := by
    intro x2 x3 x4 x5 s0 f_g H locs hh ls hl hf
    rw [fX7_comes_b59] at hf
    refine lv_istore (lv' := [(7, .int s0), (0, .ref th), (2, .int x2), (3, .int x3), (4, .int x4), (5, .int x5)]) hx hb dX7_comes_59 hl (by decide) rfl (fun ls hl => ?_)
    refine lv_iload_n hx hb dX7_comes_61 rfl (lv_at hl 3 rfl) ?_
    refine lv_iload_n hx hb dX7_comes_62 rfl (lv_at hl 2 rfl) ?_
    refine lv_iconst (v := (1 : Int32)) hx hb dX7_comes_63 (by decide) ?_
    refine lv_isub hx hb dX7_comes_64 ?_
    refine lv_ishr hx hb dX7_comes_65 ?_
    refine lv_iconst (v := (1 : Int32)) hx hb dX7_comes_66 (by decide) ?_
    refine lv_icmp_ne (tgt := 74) hx hb dX7_comes_67 (by decide) (fun h8 => ?_) (fun h8 => ?_)
    · have hf := pq_brf hf h8
      refine lv_iconst (v := (0 : Int32)) hx hb dX7_comes_74 (by decide) ?_
      exact J75 x2 x3 x4 x5 s0 (0 : Int32) f_g _ _ hh ls (lv_sub hl [1, 2, 3, 4, 5, 0] rfl) hf
    · have hf := pq_brt hf h8
      refine lv_iconst (v := (1 : Int32)) hx hb dX7_comes_70 (by decide) ?_
      refine lv_goto (tgt := 75) hx hb dX7_comes_71 (by decide) ?_
      exact J75 x2 x3 x4 x5 s0 (1 : Int32) f_g _ _ hh ls (lv_sub hl [1, 2, 3, 4, 5, 0] rfl) hf
  rw [fX7_comes] at hf
  refine lv_bipush (v := (24 : Int32)) hx hb dX7_comes_0 (by decide) ?_
  refine lv_iload_n hx hb dX7_comes_2 rfl (lv_at hl 1 rfl) ?_
  refine lv_imul hx hb dX7_comes_3 ?_
  refine lv_topi (fun v1 e2 => ?_)
  have hf := pq_nmx hf v1 e2
  refine lv_istore (lv' := [(4, .int v1), (0, .ref th), (1, .int a1), (2, .int a2), (3, .int a3)]) hx hb dX7_comes_4 hl (by decide) rfl (fun ls hl => ?_)
  refine lv_aload_n hx hb dX7_comes_6 rfl (lv_at hl 1 rfl) ?_
  refine pq_get C hh i7 0 6 rfl rfl 22 (by decide) kf149 rfl rfl dX7_comes_7 ?_
  refine lv_istore (lv' := [(5, .int c_stepY), (4, .int v1), (0, .ref th), (1, .int a1), (2, .int a2), (3, .int a3)]) hx hb dX7_comes_10 hl (by decide) rfl (fun ls hl => ?_)
  refine lv_aload_n hx hb dX7_comes_12 rfl (lv_at hl 2 rfl) ?_
  refine lv_iload_n hx hb dX7_comes_13 rfl (lv_at hl 4 rfl) ?_
  refine lv_iload_n hx hb dX7_comes_14 rfl (lv_at hl 5 rfl) ?_
  obtain ⟨r3, hu4, hf⟩ := pq_clx hf
  refine pq_cvI (n := 2) (As := [.int a2, .int a3]) C hh (qX7_table l D cI cL th ad c_told c_sumZ c_sumE c_stepY c_odd c_even c_taped c_outs c_isFound f_table2 f_table3 f_table4 f_table5 a2 a3 r3 hu4) (gvX7_table hs (pq_m18 _ (List.mem_of_getElem? (i := 7) rfl))) rfl (by decide +kernel) ⟨Nat.le_of_ble_eq_true rfl, Nat.le_of_ble_eq_true rfl⟩ 0 6 rfl rfl rfl hl.1 rfl rfl (Nat.le_of_ble_eq_true rfl) dX7_comes_15 ⟨Nat.zero_le _, Nat.zero_le _⟩ [0, 2, 3, 4, 5] [1, 6, 7, 8, 9, 10, 11, 12, 13] [9, 0, 10, 11, 12, 13, 1, 2, 3, 4, 5, 6, 7, 8] rfl rfl (by decide) (by decide) (by decide) rfl (fun H locs (hh : pq_H D A s (wX7_comes cI th ad c_told c_sumZ c_sumE c_stepY c_odd c_even c_taped c_outs c_isFound f_g f_table2 f_table3 f_table4 f_table5 f_weight2 f_weight3 f_weight4 f_weight5 f_pace2 f_pace3 f_pace4 f_pace5) H locs) => ?_)
  refine lv_iload hx hb dX7_comes_18 (lv_at hl 0 rfl) ?_
  refine lv_iconst (v := (2 : Int32)) hx hb dX7_comes_20 (by decide) ?_
  refine lv_ishr hx hb dX7_comes_21 ?_
  refine lv_iadd hx hb dX7_comes_22 ?_
  refine lv_topi (fun v5 e6 => ?_)
  have hf := pq_nmx hf v5 e6
  refine lv_istore (lv' := [(6, .int v5), (5, .int c_stepY), (4, .int v1), (0, .ref th), (1, .int a1), (2, .int a2), (3, .int a3)]) hx hb dX7_comes_23 hl (by decide) rfl (fun ls hl => ?_)
  refine lv_iload hx hb dX7_comes_25 (lv_at hl 0 rfl) ?_
  refine lv_if_ge (tgt := 34) hx hb dX7_comes_27 (by decide) (fun h7 => ?_) (fun h7 => ?_)
  · have hf := pq_brt hf h7
    refine lv_sipush (v := (128 : Int32)) hx hb dX7_comes_34 (by decide) ?_
    refine lv_iload hx hb dX7_comes_37 (lv_at hl 0 rfl) ?_
    refine lv_bipush (v := (127 : Int32)) hx hb dX7_comes_39 (by decide) ?_
    refine lv_iand hx hb dX7_comes_41 ?_
    refine lv_iadd hx hb dX7_comes_42 ?_
    refine lv_sipush (v := (128 : Int32)) hx hb dX7_comes_43 (by decide) ?_
    refine lv_imul hx hb dX7_comes_46 ?_
    refine lv_bipush (v := (14 : Int32)) hx hb dX7_comes_47 (by decide) ?_
    refine lv_iload hx hb dX7_comes_49 (lv_at hl 0 rfl) ?_
    refine lv_bipush (v := (7 : Int32)) hx hb dX7_comes_51 (by decide) ?_
    refine lv_ishr hx hb dX7_comes_53 ?_
    refine lv_bipush (v := (15 : Int32)) hx hb dX7_comes_54 (by decide) ?_
    refine lv_iand hx hb dX7_comes_56 ?_
    refine lv_isub hx hb dX7_comes_57 ?_
    refine lv_ishr hx hb dX7_comes_58 ?_
    exact J59 a2 a3 v1 c_stepY ((((128 : Int32) + (v5 &&& (127 : Int32))) * (128 : Int32)) >>> (((14 : Int32) - ((v5 >>> ((7 : Int32) &&& 31)) &&& (15 : Int32))) &&& 31)) f_g _ _ hh ls (lv_sub hl [3, 5, 6, 2, 1] rfl) hf
  · have hf := pq_brf hf h7
    refine lv_iconst (v := (0 : Int32)) hx hb dX7_comes_30 (by decide) ?_
    refine lv_goto (tgt := 59) hx hb dX7_comes_31 (by decide) ?_
    exact J59 a2 a3 v1 c_stepY (0 : Int32) f_g _ _ hh ls (lv_sub hl [3, 5, 6, 2, 1] rfl) hf
