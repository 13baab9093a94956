set_option maxHeartbeats 4000000 in
set_option maxRecDepth 100000 in
theorem qX7_says726 (l : Launch) (D : va_G) (cI cL : ClassId) (th : Nat) (ad : Nat → Nat) (c_told : Int32) (c_sumZ : Int32) (c_sumE : Int32) (c_stepY : Int32) (c_odd : Int32) (c_even : Int32) (c_taped : Int32) (c_outs : Int32) (c_isFound : Int32) (f_g : Nat → Int32) (f_bounds2 : Nat → Int32) (f_bounds3 : Nat → Int32) (f_bounds4 : Nat → Int32) (f_bounds5 : Nat → Int32) (f_table2 : Nat → Int32) (f_table3 : Nat → Int32) (f_table4 : Nat → Int32) (f_table5 : Nat → Int32) (f_weight2 : Nat → Int32) (f_weight3 : Nat → Int32) (f_weight4 : Nat → Int32) (f_weight5 : Nat → Int32) (f_pace2 : Nat → Int32) (f_pace3 : Nat → Int32) (f_pace4 : Nat → Int32) (f_pace5 : Nat → Int32) (a1 : Int32) (a2 : Int32) (a3 : Int32) (res : Int32 × Int32 × Int32 × Int32 × (Nat → Int32)) (hf : fX7_says726 a1 a2 a3 f_bounds2 f_bounds3 f_bounds4 f_bounds5 f_table2 f_table3 f_table4 f_table5 f_weight2 f_weight3 f_weight4 f_weight5 f_pace2 f_pace3 f_pace4 f_pace5 c_sumZ c_sumE c_stepY f_g = some res) : pq_CI l yX7_says726 qsX7_says726 3 87 D cI cL [.ref th, .int a1, .int a2, .int a3] (wX7_says726 cI th ad c_told c_sumZ c_sumE c_stepY c_odd c_even c_taped c_outs c_isFound f_g f_bounds2 f_bounds3 f_bounds4 f_bounds5 f_table2 f_table3 f_table4 f_table5 f_weight2 f_weight3 f_weight4 f_weight5 f_pace2 f_pace3 f_pace4 f_pace5) (wX7_says726 cI th ad c_told res.2.1 res.2.2.1 res.2.2.2.1 c_odd c_even c_taped c_outs c_isFound res.2.2.2.2 f_bounds2 f_bounds3 f_bounds4 f_bounds5 f_table2 f_table3 f_table4 f_table5 f_weight2 f_weight3 f_weight4 f_weight5 f_pace2 f_pace3 f_pace4 f_pace5) res.1 := by
  refine pq_mkI (cc := cX7_says726) (maxL := 11) (RT := .int) (by decide) rfl (Nat.le_of_ble_eq_true rfl) ?_
  intro p e s m args below meth c Q A C hh hret ls hl
  have hx := C.1
  have hb := C.2.1
  have hml := C.2.2.1
  have hown : s.vm.findClass RX7 = some m.cls := C.2.2.2.1
  have hs : ∀ w ∈ wsL_law, w ∈ qsX7_says726 := fun _ h => List.mem_cons_of_mem _ h
  have htw : ∀ w ∈ wsL_law, w.before args s = true := fun w h => C.2.2.2.2.1 w (hs w h)
  have hl : lv_has ls 11 [(0, .ref th), (1, .int a1), (2, .int a2), (3, .int a3)] := hl
  have i7 : ∀ w ∈ wsX70, w ∈ qsX7_says726 := fun w h => hs w (pq_i7 w h)
  have kf146 := htw (.fieldLink RX7 146 "VoiceDeskModel" "sumE" "I") (pq_m17 _ (List.mem_of_getElem? (i := 4) rfl))
  have kf149 := htw (.fieldLink RX7 149 "VoiceDeskModel" "stepY" "I") (pq_m17 _ (List.mem_of_getElem? (i := 5) rfl))
  have J149 : ∀ (x1 : Int32) (x2 : Int32) (x10 : Int32) (c_sumZ : Int32) (c_sumE : Int32) (c_stepY : Int32) (f_g : Nat → Int32) (H : Heap) (locs : List Loc), pq_H D A s (wX7_says726 cI th ad c_told c_sumZ c_sumE c_stepY c_odd c_even c_taped c_outs c_isFound f_g f_bounds2 f_bounds3 f_bounds4 f_bounds5 f_table2 f_table3 f_table4 f_table5 f_weight2 f_weight3 f_weight4 f_weight5 f_pace2 f_pace3 f_pace4 f_pace5) H locs → ∀ ls : Array Slot, lv_has ls 11 [(0, .ref th), (1, .int x1), (2, .int x2), (10, .int x10)] → fX7_says726_b149  f_bounds2 f_bounds3 f_bounds4 f_bounds5 f_table2 f_table3 f_table4 f_table5 f_weight2 f_weight3 f_weight4 f_weight5 f_pace2 f_pace3 f_pace4 f_pace5 x1 x2 x10 c_sumZ c_sumE c_stepY f_g = some res → W p l e (pq_rm 3 87) s m args below meth c H locs 0 0 Q (F0 m 149 ls []) := by
    intro x1 x2 x10 c_sumZ c_sumE c_stepY f_g H locs hh ls hl hf
    rw [fX7_says726_b149] at hf
    refine lv_aload_n hx hb dX7_says726_149 rfl (lv_at hl 0 rfl) ?_
    refine lv_iload_n hx hb dX7_says726_150 rfl (lv_at hl 1 rfl) ?_
    refine lv_iload_n hx hb dX7_says726_151 rfl (lv_at hl 2 rfl) ?_
    refine lv_iload hx hb dX7_says726_152 (lv_at hl 3 rfl) ?_
    obtain ⟨⟨r26, f27⟩, hu28, hf⟩ := pq_clx hf
    have hf := pq_nmx hf r26 rfl
    have hf := pq_nmx hf f27 rfl
    refine pq_cvI (n := 3) (As := [.int x1, .int x2, .int x10]) C hh (qX7_comes l D cI cL th ad c_told c_sumZ c_sumE c_stepY c_odd c_even c_taped c_outs c_isFound f_g f_table2 f_table3 f_table4 f_table5 f_weight2 f_weight3 f_weight4 f_weight5 f_pace2 f_pace3 f_pace4 f_pace5 x1 x2 x10 (r26, f27) hu28) (gvX7_comes hs (pq_m18 _ (List.mem_of_getElem? (i := 3) rfl))) rfl (by decide +kernel) ⟨Nat.le_of_ble_eq_true rfl, Nat.le_of_ble_eq_true rfl⟩ 0 6 rfl rfl rfl hl.1 rfl rfl (Nat.le_of_ble_eq_true rfl) dX7_says726_154 ⟨Nat.zero_le _, Nat.zero_le _⟩ [0, 1, 6, 7, 8, 9, 10, 11, 12, 13, 14, 15, 16, 17] [2, 3, 4, 5] [4, 5, 0, 1, 2, 3, 6, 7, 8, 9, 10, 11, 12, 13, 14, 15, 16, 17] rfl rfl (by decide) (by decide) (by decide) rfl (fun H locs (hh : pq_H D A s (wX7_says726 cI th ad c_told c_sumZ c_sumE c_stepY c_odd c_even c_taped c_outs c_isFound f27 f_bounds2 f_bounds3 f_bounds4 f_bounds5 f_table2 f_table3 f_table4 f_table5 f_weight2 f_weight3 f_weight4 f_weight5 f_pace2 f_pace3 f_pace4 f_pace5) H locs) => ?_)
    refine lv_pop hx hb dX7_says726_157 rfl ?_
    refine lv_iload hx hb dX7_says726_158 (lv_at hl 3 rfl) ?_
    obtain rfl := Option.some.inj hf
    exact hret _ _ _ ls hh dX7_says726_160 rfl
  have J147 : ∀ (x1 : Int32) (x2 : Int32) (s0 : Int32) (c_sumZ : Int32) (c_sumE : Int32) (c_stepY : Int32) (f_g : Nat → Int32) (H : Heap) (locs : List Loc), pq_H D A s (wX7_says726 cI th ad c_told c_sumZ c_sumE c_stepY c_odd c_even c_taped c_outs c_isFound f_g f_bounds2 f_bounds3 f_bounds4 f_bounds5 f_table2 f_table3 f_table4 f_table5 f_weight2 f_weight3 f_weight4 f_weight5 f_pace2 f_pace3 f_pace4 f_pace5) H locs → ∀ ls : Array Slot, lv_has ls 11 [(0, .ref th), (1, .int x1), (2, .int x2)] → fX7_says726_b147  f_bounds2 f_bounds3 f_bounds4 f_bounds5 f_table2 f_table3 f_table4 f_table5 f_weight2 f_weight3 f_weight4 f_weight5 f_pace2 f_pace3 f_pace4 f_pace5 x1 x2 s0 c_sumZ c_sumE c_stepY f_g = some res → W p l e (pq_rm 3 87) s m args below meth c H locs 0 0 Q (F0 m 147 ls [.int s0]) := by
    intro x1 x2 s0 c_sumZ c_sumE c_stepY f_g H locs hh ls hl hf
    rw [fX7_says726_b147] at hf
    refine lv_istore (lv' := [(10, .int s0), (0, .ref th), (1, .int x1), (2, .int x2)]) hx hb dX7_says726_147 hl (by decide) rfl (fun ls hl => ?_)
    exact J149 x1 x2 s0 c_sumZ c_sumE c_stepY f_g _ _ hh ls (lv_sub hl [1, 2, 3, 0] rfl) hf
  have J120 : ∀ (x1 : Int32) (x2 : Int32) (x4 : Int32) (x8 : Int32) (x9 : Int32) (s0 : Int32) (c_sumZ : Int32) (c_sumE : Int32) (c_stepY : Int32) (f_g : Nat → Int32) (H : Heap) (locs : List Loc), pq_H D A s (wX7_says726 cI th ad c_told c_sumZ c_sumE c_stepY c_odd c_even c_taped c_outs c_isFound f_g f_bounds2 f_bounds3 f_bounds4 f_bounds5 f_table2 f_table3 f_table4 f_table5 f_weight2 f_weight3 f_weight4 f_weight5 f_pace2 f_pace3 f_pace4 f_pace5) H locs → ∀ ls : Array Slot, lv_has ls 11 [(0, .ref th), (1, .int x1), (2, .int x2), (4, .int x4), (8, .int x8), (9, .int x9)] → fX7_says726_b120  f_bounds2 f_bounds3 f_bounds4 f_bounds5 f_table2 f_table3 f_table4 f_table5 f_weight2 f_weight3 f_weight4 f_weight5 f_pace2 f_pace3 f_pace4 f_pace5 x1 x2 x4 x8 x9 s0 c_sumZ c_sumE c_stepY f_g = some res → W p l e (pq_rm 3 87) s m args below meth c H locs 0 0 Q (F0 m 120 ls [.int s0]) := by
    intro x1 x2 x4 x8 x9 s0 c_sumZ c_sumE c_stepY f_g H locs hh ls hl hf
    rw [fX7_says726_b120] at hf
    refine lv_istore (lv' := [(10, .int s0), (0, .ref th), (1, .int x1), (2, .int x2), (4, .int x4), (8, .int x8), (9, .int x9)]) hx hb dX7_says726_120 hl (by decide) rfl (fun ls hl => ?_)
    refine lv_iload hx hb dX7_says726_122 (lv_at hl 4 rfl) ?_
    refine lv_if_lt (tgt := 149) hx hb dX7_says726_124 (by decide) (fun h23 => ?_) (fun h23 => ?_)
    · have hf := pq_brt hf h23
      exact J149 x1 x2 s0 c_sumZ c_sumE c_stepY f_g _ _ hh ls (lv_sub hl [1, 2, 3, 0] rfl) hf
    · have hf := pq_brf hf h23
      refine lv_iload hx hb dX7_says726_127 (lv_at hl 6 rfl) ?_
      refine lv_if_ne (tgt := 149) hx hb dX7_says726_129 (by decide) (fun h24 => ?_) (fun h24 => ?_)
      · have hf := pq_brf hf h24
        exact J149 x1 x2 s0 c_sumZ c_sumE c_stepY f_g _ _ hh ls (lv_sub hl [1, 2, 3, 0] rfl) hf
      · have hf := pq_brt hf h24
        refine lv_iload_n hx hb dX7_says726_132 rfl (lv_at hl 3 rfl) ?_
        refine lv_iconst (v := (2 : Int32)) hx hb dX7_says726_133 (by decide) ?_
        refine lv_icmp_ne (tgt := 141) hx hb dX7_says726_134 (by decide) (fun h25 => ?_) (fun h25 => ?_)
        · have hf := pq_brf hf h25
          refine lv_iconst (v := (2 : Int32)) hx hb dX7_says726_141 (by decide) ?_
          refine lv_iload hx hb dX7_says726_142 (lv_at hl 5 rfl) ?_
          refine lv_imul hx hb dX7_says726_144 ?_
          refine lv_iconst (v := (1 : Int32)) hx hb dX7_says726_145 (by decide) ?_
          refine lv_iadd hx hb dX7_says726_146 ?_
          exact J147 x1 x2 (((2 : Int32) * x8) + (1 : Int32)) c_sumZ c_sumE c_stepY f_g _ _ hh ls (lv_sub hl [1, 2, 3] rfl) hf
        · have hf := pq_brt hf h25
          refine lv_iconst (v := (0 : Int32)) hx hb dX7_says726_137 (by decide) ?_
          refine lv_goto (tgt := 147) hx hb dX7_says726_138 (by decide) ?_
          exact J147 x1 x2 (0 : Int32) c_sumZ c_sumE c_stepY f_g _ _ hh ls (lv_sub hl [1, 2, 3] rfl) hf
  have J101 : ∀ (x1 : Int32) (x2 : Int32) (x4 : Int32) (x8 : Int32) (x9 : Int32) (c_sumZ : Int32) (c_sumE : Int32) (c_stepY : Int32) (f_g : Nat → Int32) (H : Heap) (locs : List Loc), pq_H D A s (wX7_says726 cI th ad c_told c_sumZ c_sumE c_stepY c_odd c_even c_taped c_outs c_isFound f_g f_bounds2 f_bounds3 f_bounds4 f_bounds5 f_table2 f_table3 f_table4 f_table5 f_weight2 f_weight3 f_weight4 f_weight5 f_pace2 f_pace3 f_pace4 f_pace5) H locs → ∀ ls : Array Slot, lv_has ls 11 [(0, .ref th), (1, .int x1), (2, .int x2), (4, .int x4), (8, .int x8), (9, .int x9)] → fX7_says726_b101  f_bounds2 f_bounds3 f_bounds4 f_bounds5 f_table2 f_table3 f_table4 f_table5 f_weight2 f_weight3 f_weight4 f_weight5 f_pace2 f_pace3 f_pace4 f_pace5 x1 x2 x4 x8 x9 c_sumZ c_sumE c_stepY f_g = some res → W p l e (pq_rm 3 87) s m args below meth c H locs 0 0 Q (F0 m 101 ls []) := by
    intro x1 x2 x4 x8 x9 c_sumZ c_sumE c_stepY f_g H locs hh ls hl hf
    rw [fX7_says726_b101] at hf
    refine lv_iload hx hb dX7_says726_101 (lv_at hl 3 rfl) ?_
    refine lv_if_ge (tgt := 118) hx hb dX7_says726_103 (by decide) (fun h22 => ?_) (fun h22 => ?_)
    · have hf := pq_brt hf h22
      refine lv_iload hx hb dX7_says726_118 (lv_at hl 5 rfl) ?_
      exact J120 x1 x2 x4 x8 x9 x9 c_sumZ c_sumE c_stepY f_g _ _ hh ls (lv_sub hl [0, 1, 2, 3, 4, 5] rfl) hf
    · have hf := pq_brf hf h22
      refine lv_iconst (v := (2 : Int32)) hx hb dX7_says726_106 (by decide) ?_
      refine lv_iload hx hb dX7_says726_107 (lv_at hl 4 rfl) ?_
      refine lv_imul hx hb dX7_says726_109 ?_
      refine lv_iconst (v := (1 : Int32)) hx hb dX7_says726_110 (by decide) ?_
      refine lv_iadd hx hb dX7_says726_111 ?_
      refine lv_iload hx hb dX7_says726_112 (lv_at hl 5 rfl) ?_
      refine lv_isub hx hb dX7_says726_114 ?_
      refine lv_goto (tgt := 120) hx hb dX7_says726_115 (by decide) ?_
      exact J120 x1 x2 x4 x8 x9 ((((2 : Int32) * x8) + (1 : Int32)) - x9) c_sumZ c_sumE c_stepY f_g _ _ hh ls (lv_sub hl [0, 1, 2, 3, 4, 5] rfl) hf
  have J73 : ∀ (fuel73 : Nat) (x1 : Int32) (x2 : Int32) (x4 : Int32) (x7 : Int32) (x8 : Int32) (x9 : Int32) (c_sumZ : Int32) (c_sumE : Int32) (c_stepY : Int32) (f_g : Nat → Int32) (H : Heap) (locs : List Loc), pq_H D A s (wX7_says726 cI th ad c_told c_sumZ c_sumE c_stepY c_odd c_even c_taped c_outs c_isFound f_g f_bounds2 f_bounds3 f_bounds4 f_bounds5 f_table2 f_table3 f_table4 f_table5 f_weight2 f_weight3 f_weight4 f_weight5 f_pace2 f_pace3 f_pace4 f_pace5) H locs → ∀ ls : Array Slot, lv_has ls 11 [(0, .ref th), (1, .int x1), (2, .int x2), (4, .int x4), (7, .int x7), (8, .int x8), (9, .int x9)] → fX7_says726_b73  f_bounds2 f_bounds3 f_bounds4 f_bounds5 f_table2 f_table3 f_table4 f_table5 f_weight2 f_weight3 f_weight4 f_weight5 f_pace2 f_pace3 f_pace4 f_pace5 fuel73 x1 x2 x4 x7 x8 x9 c_sumZ c_sumE c_stepY f_g = some res → W p l e (pq_rm 3 87) s m args below meth c H locs 0 0 Q (F0 m 73 ls []) := by
    intro fuel73
    induction fuel73 with
    | zero => intro x1 x2 x4 x7 x8 x9 c_sumZ c_sumE c_stepY f_g H locs hh ls hl hf; rw [fX7_says726_b73] at hf; cases hf
    | succ fuel73 ih73 =>
      intro x1 x2 x4 x7 x8 x9 c_sumZ c_sumE c_stepY f_g H locs hh ls hl hf
      rw [fX7_says726_b73] at hf
      refine lv_iload hx hb dX7_says726_73 (lv_at hl 6 rfl) ?_
      refine lv_iload hx hb dX7_says726_75 (lv_at hl 5 rfl) ?_
      refine lv_icmp_ge (tgt := 101) hx hb dX7_says726_77 (by decide) (fun h16 => ?_) (fun h16 => ?_)
      · have hf := pq_brt hf h16
        exact J101 x1 x2 x4 x8 x9 c_sumZ c_sumE c_stepY f_g _ _ hh ls (lv_sub hl [0, 1, 2, 3, 5, 6] rfl) hf
      · have hf := pq_brf hf h16
        refine lv_iload hx hb dX7_says726_80 (lv_at hl 4 rfl) ?_
        refine lv_aload_n hx hb dX7_says726_82 rfl (lv_at hl 0 rfl) ?_
        refine lv_iload_n hx hb dX7_says726_83 rfl (lv_at hl 2 rfl) ?_
        refine lv_iload hx hb dX7_says726_84 (lv_at hl 6 rfl) ?_
        obtain ⟨r17, hu18, hf⟩ := pq_clx hf
        refine pq_cvI (n := 2) (As := [.int x2, .int x9]) C hh (qX7_bound l D cI cL th ad c_told c_sumZ c_sumE c_stepY c_odd c_even c_taped c_outs c_isFound f_bounds2 f_bounds3 f_bounds4 f_bounds5 x2 x9 r17 hu18) (gvX7_bound hs (pq_m17 _ (List.mem_of_getElem? (i := 23) rfl))) rfl (by decide +kernel) ⟨Nat.le_of_ble_eq_true rfl, Nat.le_of_ble_eq_true rfl⟩ 0 6 rfl rfl rfl hl.1 rfl rfl (Nat.le_of_ble_eq_true rfl) dX7_says726_86 ⟨Nat.zero_le _, Nat.zero_le _⟩ [0, 2, 3, 4, 5] [1, 6, 7, 8, 9, 10, 11, 12, 13, 14, 15, 16, 17] [13, 0, 14, 15, 16, 17, 1, 2, 3, 4, 5, 6, 7, 8, 9, 10, 11, 12] rfl rfl (by decide) (by decide) (by decide) rfl (fun H locs (hh : pq_H D A s (wX7_says726 cI th ad c_told c_sumZ c_sumE c_stepY c_odd c_even c_taped c_outs c_isFound f_g f_bounds2 f_bounds3 f_bounds4 f_bounds5 f_table2 f_table3 f_table4 f_table5 f_weight2 f_weight3 f_weight4 f_weight5 f_pace2 f_pace3 f_pace4 f_pace5) H locs) => ?_)
        refine lv_icmp_lt (tgt := 101) hx hb dX7_says726_89 (by decide) (fun h19 => ?_) (fun h19 => ?_)
        · have hf := pq_brt hf h19
          exact J101 x1 x2 x4 x8 x9 c_sumZ c_sumE c_stepY f_g _ _ hh ls (lv_sub hl [0, 1, 2, 3, 5, 6] rfl) hf
        · have hf := pq_brf hf h19
          refine lv_iload hx hb dX7_says726_92 (lv_at hl 6 rfl) ?_
          refine lv_iconst (v := (1 : Int32)) hx hb dX7_says726_94 (by decide) ?_
          refine lv_iadd hx hb dX7_says726_95 ?_
          refine lv_topi (fun v20 e21 => ?_)
          have hf := pq_nmx hf v20 e21
          refine lv_istore (lv' := [(9, .int v20), (0, .ref th), (1, .int x1), (2, .int x2), (4, .int x4), (7, .int x7), (8, .int x8)]) hx hb dX7_says726_96 hl (by decide) rfl (fun ls hl => ?_)
          refine lv_goto (tgt := 73) hx hb dX7_says726_98 (by decide) ?_
          exact ih73 x1 x2 x4 x7 x8 v20 c_sumZ c_sumE c_stepY f_g _ _ hh ls (lv_sub hl [1, 2, 3, 4, 5, 6, 0] rfl) hf
  rw [fX7_says726] at hf
  refine lv_aload_n hx hb dX7_says726_0 rfl (lv_at hl 0 rfl) ?_
  refine lv_iload_n hx hb dX7_says726_1 rfl (lv_at hl 1 rfl) ?_
  obtain ⟨⟨c1, c2, c3⟩, hu4, hf⟩ := pq_clx hf
  have hf := pq_nmx hf c1 rfl
  have hf := pq_nmx hf c2 rfl
  have hf := pq_nmx hf c3 rfl
  refine pq_cvV (n := 1) (As := [.int a1]) C hh (qX7_forehand l D cI cL th ad c_told c_sumZ c_sumE c_stepY c_odd c_even c_taped c_outs c_isFound f_g a1 (c1, c2, c3) hu4) (gvX7_forehand hs (pq_m17 _ (List.mem_of_getElem? (i := 6) rfl))) rfl (by decide +kernel) ⟨Nat.le_of_ble_eq_true rfl, Nat.le_of_ble_eq_true rfl⟩ 0 6 rfl rfl rfl hl.1 rfl rfl (Nat.le_of_ble_eq_true rfl) dX7_says726_2 ⟨Nat.zero_le _, Nat.zero_le _⟩ [0, 1] [2, 3, 4, 5, 6, 7, 8, 9, 10, 11, 12, 13, 14, 15, 16, 17] [16, 17, 0, 1, 2, 3, 4, 5, 6, 7, 8, 9, 10, 11, 12, 13, 14, 15] rfl rfl (by decide) (by decide) (by decide) rfl (fun H locs (hh : pq_H D A s (wX7_says726 cI th ad c_told c1 c2 c3 c_odd c_even c_taped c_outs c_isFound f_g f_bounds2 f_bounds3 f_bounds4 f_bounds5 f_table2 f_table3 f_table4 f_table5 f_weight2 f_weight3 f_weight4 f_weight5 f_pace2 f_pace3 f_pace4 f_pace5) H locs) => ?_)
  refine lv_iload_n hx hb dX7_says726_5 rfl (lv_at hl 3 rfl) ?_
  refine lv_iconst (v := (2 : Int32)) hx hb dX7_says726_6 (by decide) ?_
  refine lv_ishr hx hb dX7_says726_7 ?_
  refine lv_aload_n hx hb dX7_says726_8 rfl (lv_at hl 0 rfl) ?_
  refine pq_get C hh i7 0 6 rfl rfl 21 (by decide) kf146 rfl rfl dX7_says726_9 ?_
  refine lv_isub hx hb dX7_says726_12 ?_
  refine lv_topi (fun v6 e7 => ?_)
  have hf := pq_nmx hf v6 e7
  refine lv_istore (lv' := [(4, .int v6), (0, .ref th), (1, .int a1), (2, .int a2), (3, .int a3)]) hx hb dX7_says726_13 hl (by decide) rfl (fun ls hl => ?_)
  refine lv_aload_n hx hb dX7_says726_15 rfl (lv_at hl 1 rfl) ?_
  refine lv_iload hx hb dX7_says726_16 (lv_at hl 0 rfl) ?_
  obtain ⟨r8, hu9, hf⟩ := pq_clx hf
  refine pq_cvI (n := 1) (As := [.int v6]) C hh (qX7_amount l D cI cL th v6 r8 hu9) (gvX7_amount hs (pq_m16 _ (List.mem_of_getElem? (i := 16) rfl))) rfl (by decide +kernel) ⟨Nat.le_of_ble_eq_true rfl, Nat.le_of_ble_eq_true rfl⟩ 0 6 rfl rfl rfl hl.1 rfl rfl (Nat.le_of_ble_eq_true rfl) dX7_says726_18 ⟨Nat.zero_le _, Nat.zero_le _⟩ [] [0, 1, 2, 3, 4, 5, 6, 7, 8, 9, 10, 11, 12, 13, 14, 15, 16, 17] [0, 1, 2, 3, 4, 5, 6, 7, 8, 9, 10, 11, 12, 13, 14, 15, 16, 17] rfl rfl (by decide) (by decide) (by decide) rfl (fun H locs (hh : pq_H D A s (wX7_says726 cI th ad c_told c1 c2 c3 c_odd c_even c_taped c_outs c_isFound f_g f_bounds2 f_bounds3 f_bounds4 f_bounds5 f_table2 f_table3 f_table4 f_table5 f_weight2 f_weight3 f_weight4 f_weight5 f_pace2 f_pace3 f_pace4 f_pace5) H locs) => ?_)
  refine lv_istore (lv' := [(5, .int r8), (4, .int v6), (0, .ref th), (1, .int a1), (2, .int a2), (3, .int a3)]) hx hb dX7_says726_21 hl (by decide) rfl (fun ls hl => ?_)
  refine lv_aload_n hx hb dX7_says726_23 rfl (lv_at hl 2 rfl) ?_
  refine lv_iload hx hb dX7_says726_24 (lv_at hl 0 rfl) ?_
  refine lv_iconst (v := (1 : Int32)) hx hb dX7_says726_26 (by decide) ?_
  refine lv_ishr hx hb dX7_says726_27 ?_
  obtain ⟨r10, hu11, hf⟩ := pq_clx hf
  refine pq_cvI (n := 1) (As := [.int (r8 >>> ((1 : Int32) &&& 31))]) C hh (qX7_size l D cI cL th (r8 >>> ((1 : Int32) &&& 31)) r10 hu11) (gvX7_size hs (pq_m17 _ (List.mem_of_getElem? (i := 15) rfl))) rfl (by decide +kernel) ⟨Nat.le_of_ble_eq_true rfl, Nat.le_of_ble_eq_true rfl⟩ 0 6 rfl rfl rfl hl.1 rfl rfl (Nat.le_of_ble_eq_true rfl) dX7_says726_28 ⟨Nat.zero_le _, Nat.zero_le _⟩ [] [0, 1, 2, 3, 4, 5, 6, 7, 8, 9, 10, 11, 12, 13, 14, 15, 16, 17] [0, 1, 2, 3, 4, 5, 6, 7, 8, 9, 10, 11, 12, 13, 14, 15, 16, 17] rfl rfl (by decide) (by decide) (by decide) rfl (fun H locs (hh : pq_H D A s (wX7_says726 cI th ad c_told c1 c2 c3 c_odd c_even c_taped c_outs c_isFound f_g f_bounds2 f_bounds3 f_bounds4 f_bounds5 f_table2 f_table3 f_table4 f_table5 f_weight2 f_weight3 f_weight4 f_weight5 f_pace2 f_pace3 f_pace4 f_pace5) H locs) => ?_)
  refine lv_istore (lv' := [(6, .int r10), (5, .int r8), (4, .int v6), (0, .ref th), (1, .int a1), (2, .int a2), (3, .int a3)]) hx hb dX7_says726_31 hl (by decide) rfl (fun ls hl => ?_)
  refine lv_sipush (v := (128 : Int32)) hx hb dX7_says726_33 (by decide) ?_
  refine lv_iload hx hb dX7_says726_36 (lv_at hl 0 rfl) ?_
  refine lv_imul hx hb dX7_says726_38 ?_
  refine lv_sipush (v := (128 : Int32)) hx hb dX7_says726_39 (by decide) ?_
  refine lv_iload hx hb dX7_says726_42 (lv_at hl 1 rfl) ?_
  refine lv_imul hx hb dX7_says726_44 ?_
  refine lv_iload hx hb dX7_says726_45 (lv_at hl 0 rfl) ?_
  refine lv_ishr hx hb dX7_says726_47 ?_
  refine lv_bipush (v := (127 : Int32)) hx hb dX7_says726_48 (by decide) ?_
  refine lv_iand hx hb dX7_says726_50 ?_
  refine lv_iadd hx hb dX7_says726_51 ?_
  refine lv_aload_n hx hb dX7_says726_52 rfl (lv_at hl 3 rfl) ?_
  refine pq_get C hh i7 0 6 rfl rfl 22 (by decide) kf149 rfl rfl dX7_says726_53 ?_
  refine lv_iconst (v := (2 : Int32)) hx hb dX7_says726_56 (by decide) ?_
  refine lv_ishr hx hb dX7_says726_57 ?_
  refine lv_isub hx hb dX7_says726_58 ?_
  refine lv_topi (fun v12 e13 => ?_)
  have hf := pq_nmx hf v12 e13
  refine lv_istore (lv' := [(7, .int v12), (6, .int r10), (5, .int r8), (4, .int v6), (0, .ref th), (1, .int a1), (2, .int a2), (3, .int a3)]) hx hb dX7_says726_59 hl (by decide) rfl (fun ls hl => ?_)
  refine lv_iconst (v := (1 : Int32)) hx hb dX7_says726_61 (by decide) ?_
  refine lv_iload_n hx hb dX7_says726_62 rfl (lv_at hl 6 rfl) ?_
  refine lv_iconst (v := (1 : Int32)) hx hb dX7_says726_63 (by decide) ?_
  refine lv_isub hx hb dX7_says726_64 ?_
  refine lv_ishl hx hb dX7_says726_65 ?_
  refine lv_iconst (v := (1 : Int32)) hx hb dX7_says726_66 (by decide) ?_
  refine lv_isub hx hb dX7_says726_67 ?_
  refine lv_topi (fun v14 e15 => ?_)
  have hf := pq_nmx hf v14 e15
  refine lv_istore (lv' := [(8, .int v14), (7, .int v12), (6, .int r10), (5, .int r8), (4, .int v6), (0, .ref th), (1, .int a1), (2, .int a2), (3, .int a3)]) hx hb dX7_says726_68 hl (by decide) rfl (fun ls hl => ?_)
  refine lv_iconst (v := (0 : Int32)) hx hb dX7_says726_70 (by decide) ?_
  refine lv_istore (lv' := [(9, .int (0 : Int32)), (8, .int v14), (7, .int v12), (6, .int r10), (5, .int r8), (4, .int v6), (0, .ref th), (1, .int a1), (2, .int a2), (3, .int a3)]) hx hb dX7_says726_71 hl (by decide) rfl (fun ls hl => ?_)
  exact J73 1100 a1 a2 v6 v12 v14 (0 : Int32) c1 c2 c3 f_g _ _ hh ls (lv_sub hl [6, 7, 8, 5, 2, 1, 0] rfl) hf
set_option maxHeartbeats 4000000 in
set_option maxRecDepth 100000 in
theorem qX7_hears726 (l : Launch) (D : va_G) (cI cL : ClassId) (th : Nat) (ad : Nat → Nat) (c_told : Int32) (c_sumZ : Int32) (c_sumE : Int32) (c_stepY : Int32) (c_odd : Int32) (c_even : Int32) (c_taped : Int32) (c_outs : Int32) (c_isFound : Int32) (f_g : Nat → Int32) (f_table2 : Nat → Int32) (f_table3 : Nat → Int32) (f_table4 : Nat → Int32) (f_table5 : Nat → Int32) (f_weight2 : Nat → Int32) (f_weight3 : Nat → Int32) (f_weight4 : Nat → Int32) (f_weight5 : Nat → Int32) (f_pace2 : Nat → Int32) (f_pace3 : Nat → Int32) (f_pace4 : Nat → Int32) (f_pace5 : Nat → Int32) (a1 : Int32) (a2 : Int32) (a3 : Int32) (res : Int32 × Int32 × Int32 × Int32 × (Nat → Int32)) (hf : fX7_hears726 a1 a2 a3 f_table2 f_table3 f_table4 f_table5 f_weight2 f_weight3 f_weight4 f_weight5 f_pace2 f_pace3 f_pace4 f_pace5 c_sumZ c_sumE c_stepY f_g = some res) : pq_CI l yX7_hears726 qsX7_hears726 3 87 D cI cL [.ref th, .int a1, .int a2, .int a3] (wX7_hears726 cI th ad c_told c_sumZ c_sumE c_stepY c_odd c_even c_taped c_outs c_isFound f_g f_table2 f_table3 f_table4 f_table5 f_weight2 f_weight3 f_weight4 f_weight5 f_pace2 f_pace3 f_pace4 f_pace5) (wX7_hears726 cI th ad c_told res.2.1 res.2.2.1 res.2.2.2.1 c_odd c_even c_taped c_outs c_isFound res.2.2.2.2 f_table2 f_table3 f_table4 f_table5 f_weight2 f_weight3 f_weight4 f_weight5 f_pace2 f_pace3 f_pace4 f_pace5) res.1 := by
  refine pq_mkI (cc := cX7_hears726) (maxL := 4) (RT := .int) (by decide) rfl (Nat.le_of_ble_eq_true rfl) ?_
  intro p e s m args below meth c Q A C hh hret ls hl
  have hx := C.1
  have hb := C.2.1
  have hml := C.2.2.1
  have hown : s.vm.findClass RX7 = some m.cls := C.2.2.2.1
  have hs : ∀ w ∈ wsL_law, w ∈ qsX7_hears726 := fun _ h => List.mem_cons_of_mem _ h
  have htw : ∀ w ∈ wsL_law, w.before args s = true := fun w h => C.2.2.2.2.1 w (hs w h)
  have hl : lv_has ls 4 [(0, .ref th), (1, .int a1), (2, .int a2), (3, .int a3)] := hl
  rw [fX7_hears726] at hf
  refine lv_aload_n hx hb dX7_hears726_0 rfl (lv_at hl 0 rfl) ?_
  refine lv_iload_n hx hb dX7_hears726_1 rfl (lv_at hl 1 rfl) ?_
  obtain ⟨⟨c1, c2, c3⟩, hu4, hf⟩ := pq_clx hf
  have hf := pq_nmx hf c1 rfl
  have hf := pq_nmx hf c2 rfl
  have hf := pq_nmx hf c3 rfl
  refine pq_cvV (n := 1) (As := [.int a1]) C hh (qX7_forehand l D cI cL th ad c_told c_sumZ c_sumE c_stepY c_odd c_even c_taped c_outs c_isFound f_g a1 (c1, c2, c3) hu4) (gvX7_forehand hs (pq_m17 _ (List.mem_of_getElem? (i := 6) rfl))) rfl (by decide +kernel) ⟨Nat.le_of_ble_eq_true rfl, Nat.le_of_ble_eq_true rfl⟩ 0 6 rfl rfl rfl hl.1 rfl rfl (Nat.le_of_ble_eq_true rfl) dX7_hears726_2 ⟨Nat.zero_le _, Nat.zero_le _⟩ [0, 1] [2, 3, 4, 5, 6, 7, 8, 9, 10, 11, 12, 13] [12, 13, 0, 1, 2, 3, 4, 5, 6, 7, 8, 9, 10, 11] rfl rfl (by decide) (by decide) (by decide) rfl (fun H locs (hh : pq_H D A s (wX7_hears726 cI th ad c_told c1 c2 c3 c_odd c_even c_taped c_outs c_isFound f_g f_table2 f_table3 f_table4 f_table5 f_weight2 f_weight3 f_weight4 f_weight5 f_pace2 f_pace3 f_pace4 f_pace5) H locs) => ?_)
  refine lv_aload_n hx hb dX7_hears726_5 rfl (lv_at hl 0 rfl) ?_
  refine lv_iload_n hx hb dX7_hears726_6 rfl (lv_at hl 1 rfl) ?_
  refine lv_iload_n hx hb dX7_hears726_7 rfl (lv_at hl 2 rfl) ?_
  refine lv_iload_n hx hb dX7_hears726_8 rfl (lv_at hl 3 rfl) ?_
  obtain ⟨⟨r6, f7⟩, hu8, hf⟩ := pq_clx hf
  have hf := pq_nmx hf r6 rfl
  have hf := pq_nmx hf f7 rfl
  refine pq_cvI (n := 3) (As := [.int a1, .int a2, .int a3]) C hh (qX7_comes l D cI cL th ad c_told c1 c2 c3 c_odd c_even c_taped c_outs c_isFound f_g f_table2 f_table3 f_table4 f_table5 f_weight2 f_weight3 f_weight4 f_weight5 f_pace2 f_pace3 f_pace4 f_pace5 a1 a2 a3 (r6, f7) hu8) (gvX7_comes hs (pq_m18 _ (List.mem_of_getElem? (i := 3) rfl))) rfl (by decide +kernel) ⟨Nat.le_of_ble_eq_true rfl, Nat.le_of_ble_eq_true rfl⟩ 0 6 rfl rfl rfl hl.1 rfl rfl (Nat.le_of_ble_eq_true rfl) dX7_hears726_9 ⟨Nat.zero_le _, Nat.zero_le _⟩ [0, 1, 2, 3, 4, 5, 6, 7, 8, 9, 10, 11, 12, 13] [] [0, 1, 2, 3, 4, 5, 6, 7, 8, 9, 10, 11, 12, 13] rfl rfl (by decide) (by decide) (by decide) rfl (fun H locs (hh : pq_H D A s (wX7_hears726 cI th ad c_told c1 c2 c3 c_odd c_even c_taped c_outs c_isFound f7 f_table2 f_table3 f_table4 f_table5 f_weight2 f_weight3 f_weight4 f_weight5 f_pace2 f_pace3 f_pace4 f_pace5) H locs) => ?_)
  obtain rfl := Option.some.inj hf
  exact hret _ _ _ ls hh dX7_hears726_12 rfl
set_option maxHeartbeats 4000000 in
set_option maxRecDepth 100000 in
theorem qX7_heardBy (l : Launch) (D : va_G) (cI cL : ClassId) (th : Nat) (ad : Nat → Nat) (c_told : Int32) (c_sumZ : Int32) (c_sumE : Int32) (c_stepY : Int32) (c_odd : Int32) (c_even : Int32) (c_taped : Int32) (c_outs : Int32) (c_isFound : Int32) (f_ups : Nat → Int32) (f_heard56 : Nat → Int32) (f_heard64 : Nat → Int32) (a1 : Int32) (a2 : Int32) (res : Int32) (hf : fX7_heardBy a1 a2 f_ups f_heard56 f_heard64 = some res) : pq_CI l yX7_heardBy qsX7_heardBy 0 0 D cI cL [.ref th, .int a1, .int a2] (wX7_heardBy cI th ad c_told c_sumZ c_sumE c_stepY c_odd c_even c_taped c_outs c_isFound f_ups f_heard56 f_heard64) (wX7_heardBy cI th ad c_told c_sumZ c_sumE c_stepY c_odd c_even c_taped c_outs c_isFound f_ups f_heard56 f_heard64) res := by
  refine pq_mkI (cc := cX7_heardBy) (maxL := 4) (RT := .int) (by decide) rfl (Nat.le_of_ble_eq_true rfl) ?_
  intro p e s m args below meth c Q A C hh hret ls hl
  have hx := C.1
  have hb := C.2.1
  have hml := C.2.2.1
  have hown : s.vm.findClass RX7 = some m.cls := C.2.2.2.1
  have hs : ∀ w ∈ wsL_law, w ∈ qsX7_heardBy := fun _ h => List.mem_cons_of_mem _ h
  have htw : ∀ w ∈ wsL_law, w.before args s = true := fun w h => C.2.2.2.2.1 w (hs w h)
  have hl : lv_has ls 4 [(0, .ref th), (1, .int a1), (2, .int a2)] := hl
  have i7 : ∀ w ∈ wsX70, w ∈ qsX7_heardBy := fun w h => hs w (pq_i7 w h)
  have kf84 := htw (.fieldLink RX7 84 "VoiceDeskModel" "ups" "[I") (pq_m4 _ (List.mem_of_getElem? (i := 22) rfl))
  have kf96 := htw (.fieldLink RX7 96 "VoiceDeskModel" "heard56" "[I") (pq_m5 _ (List.mem_of_getElem? (i := 2) rfl))
  have kf99 := htw (.fieldLink RX7 99 "VoiceDeskModel" "heard64" "[I") (pq_m5 _ (List.mem_of_getElem? (i := 3) rfl))
  rw [fX7_heardBy] at hf
  refine lv_iload_n hx hb dX7_heardBy_0 rfl (lv_at hl 1 rfl) ?_
  refine lv_bipush (v := (8 : Int32)) hx hb dX7_heardBy_1 (by decide) ?_
  refine lv_icmp_ne (tgt := 15) hx hb dX7_heardBy_3 (by decide) (fun h1 => ?_) (fun h1 => ?_)
  · have hf := pq_brf hf h1
    refine lv_iload_n hx hb dX7_heardBy_15 rfl (lv_at hl 1 rfl) ?_
    refine lv_bipush (v := (7 : Int32)) hx hb dX7_heardBy_16 (by decide) ?_
    refine lv_icmp_ne (tgt := 71) hx hb dX7_heardBy_18 (by decide) (fun h2 => ?_) (fun h2 => ?_)
    · have hf := pq_brf hf h2
      refine lv_iload_n hx hb dX7_heardBy_71 rfl (lv_at hl 2 rfl) ?_
      refine lv_bipush (v := (32 : Int32)) hx hb dX7_heardBy_72 (by decide) ?_
      refine lv_icmp_ge (tgt := 84) hx hb dX7_heardBy_74 (by decide) (fun h3 => ?_) (fun h3 => ?_)
      · have hf := pq_brt hf h3
        refine lv_iload_n hx hb dX7_heardBy_84 rfl (lv_at hl 2 rfl) ?_
        refine lv_bipush (v := (60 : Int32)) hx hb dX7_heardBy_85 (by decide) ?_
        refine lv_icmp_ge (tgt := 101) hx hb dX7_heardBy_87 (by decide) (fun h4 => ?_) (fun h4 => ?_)
        · have hf := pq_brt hf h4
          refine lv_iload_n hx hb dX7_heardBy_101 rfl (lv_at hl 2 rfl) ?_
          refine lv_bipush (v := (60 : Int32)) hx hb dX7_heardBy_102 (by decide) ?_
          refine lv_icmp_ne (tgt := 111) hx hb dX7_heardBy_104 (by decide) (fun h5 => ?_) (fun h5 => ?_)
          · have hf := pq_brf hf h5
            refine lv_iload_n hx hb dX7_heardBy_111 rfl (lv_at hl 2 rfl) ?_
            refine lv_bipush (v := (61 : Int32)) hx hb dX7_heardBy_112 (by decide) ?_
            refine lv_icmp_ne (tgt := 121) hx hb dX7_heardBy_114 (by decide) (fun h6 => ?_) (fun h6 => ?_)
            · have hf := pq_brf hf h6
              refine lv_iload_n hx hb dX7_heardBy_121 rfl (lv_at hl 2 rfl) ?_
              refine lv_bipush (v := (62 : Int32)) hx hb dX7_heardBy_122 (by decide) ?_
              refine lv_icmp_ne (tgt := 133) hx hb dX7_heardBy_124 (by decide) (fun h7 => ?_) (fun h7 => ?_)
              · have hf := pq_brf hf h7
                refine lv_sipush (v := (-136 : Int32)) hx hb dX7_heardBy_133 (by decide) ?_
                obtain rfl := Option.some.inj hf
                exact hret _ _ _ ls hh dX7_heardBy_136 rfl
              · have hf := pq_brt hf h7
                refine lv_sipush (v := (-432 : Int32)) hx hb dX7_heardBy_127 (by decide) ?_
                refine lv_goto (tgt := 136) hx hb dX7_heardBy_130 (by decide) ?_
                obtain rfl := Option.some.inj hf
                exact hret _ _ _ ls hh dX7_heardBy_136 rfl
            · have hf := pq_brt hf h6
              refine lv_sipush (v := (136 : Int32)) hx hb dX7_heardBy_117 (by decide) ?_
              obtain rfl := Option.some.inj hf
              exact hret _ _ _ ls hh dX7_heardBy_120 rfl
          · have hf := pq_brt hf h5
            refine lv_sipush (v := (432 : Int32)) hx hb dX7_heardBy_107 (by decide) ?_
            obtain rfl := Option.some.inj hf
            exact hret _ _ _ ls hh dX7_heardBy_110 rfl
        · have hf := pq_brf hf h4
          refine lv_aload_n hx hb dX7_heardBy_90 rfl (lv_at hl 0 rfl) ?_
          refine pq_get C hh i7 0 6 rfl rfl 33 (by decide) kf99 rfl rfl dX7_heardBy_91 ?_
          refine lv_iload_n hx hb dX7_heardBy_94 rfl (lv_at hl 2 rfl) ?_
          refine lv_bipush (v := (28 : Int32)) hx hb dX7_heardBy_95 (by decide) ?_
          refine lv_isub hx hb dX7_heardBy_97 ?_
          obtain ⟨h8, hf⟩ := pq_rdx hf
          refine pq_iald C hh 3 rfl h8 dX7_heardBy_98 (fun v9 e10 => ?_)
          have hf := hf v9 e10
          refine lv_ineg hx hb dX7_heardBy_99 ?_
          obtain rfl := Option.some.inj hf
          exact hret _ _ _ ls hh dX7_heardBy_100 rfl
      · have hf := pq_brf hf h3
        refine lv_aload_n hx hb dX7_heardBy_77 rfl (lv_at hl 0 rfl) ?_
        refine pq_get C hh i7 0 6 rfl rfl 33 (by decide) kf99 rfl rfl dX7_heardBy_78 ?_
        refine lv_iload_n hx hb dX7_heardBy_81 rfl (lv_at hl 2 rfl) ?_
        obtain ⟨h11, hf⟩ := pq_rdx hf
        refine pq_iald C hh 3 rfl h11 dX7_heardBy_82 (fun v12 e13 => ?_)
        have hf := hf v12 e13
        obtain rfl := Option.some.inj hf
        exact hret _ _ _ ls hh dX7_heardBy_83 rfl
    · have hf := pq_brt hf h2
      refine lv_iload_n hx hb dX7_heardBy_21 rfl (lv_at hl 2 rfl) ?_
      refine lv_iconst (v := (1 : Int32)) hx hb dX7_heardBy_22 (by decide) ?_
      refine lv_ishr hx hb dX7_heardBy_23 ?_
      refine lv_topi (fun v14 e15 => ?_)
      have hf := pq_nmx hf v14 e15
      refine lv_istore_n (lv' := [(3, .int v14), (0, .ref th), (1, .int a1), (2, .int a2)]) hx hb dX7_heardBy_24 rfl hl (by decide) rfl (fun ls hl => ?_)
      refine lv_iload_n hx hb dX7_heardBy_25 rfl (lv_at hl 0 rfl) ?_
      refine lv_bipush (v := (16 : Int32)) hx hb dX7_heardBy_26 (by decide) ?_
      refine lv_icmp_ge (tgt := 38) hx hb dX7_heardBy_28 (by decide) (fun h16 => ?_) (fun h16 => ?_)
      · have hf := pq_brt hf h16
        refine lv_iload_n hx hb dX7_heardBy_38 rfl (lv_at hl 0 rfl) ?_
        refine lv_bipush (v := (30 : Int32)) hx hb dX7_heardBy_39 (by decide) ?_
        refine lv_icmp_ne (tgt := 48) hx hb dX7_heardBy_41 (by decide) (fun h17 => ?_) (fun h17 => ?_)
        · have hf := pq_brf hf h17
          refine lv_iload_n hx hb dX7_heardBy_48 rfl (lv_at hl 0 rfl) ?_
          refine lv_bipush (v := (31 : Int32)) hx hb dX7_heardBy_49 (by decide) ?_
          refine lv_icmp_ne (tgt := 60) hx hb dX7_heardBy_51 (by decide) (fun h18 => ?_) (fun h18 => ?_)
          · have hf := pq_brf hf h18
            refine lv_aload_n hx hb dX7_heardBy_60 rfl (lv_at hl 1 rfl) ?_
            refine pq_get C hh i7 0 6 rfl rfl 32 (by decide) kf96 rfl rfl dX7_heardBy_61 ?_
            refine lv_iload_n hx hb dX7_heardBy_64 rfl (lv_at hl 0 rfl) ?_
            refine lv_bipush (v := (14 : Int32)) hx hb dX7_heardBy_65 (by decide) ?_
            refine lv_isub hx hb dX7_heardBy_67 ?_
            obtain ⟨h19, hf⟩ := pq_rdx hf
            refine pq_iald C hh 2 rfl h19 dX7_heardBy_68 (fun v20 e21 => ?_)
            have hf := hf v20 e21
            refine lv_ineg hx hb dX7_heardBy_69 ?_
            obtain rfl := Option.some.inj hf
            exact hret _ _ _ ls hh dX7_heardBy_70 rfl
          · have hf := pq_brt hf h18
            refine lv_sipush (v := (-280 : Int32)) hx hb dX7_heardBy_54 (by decide) ?_
            refine lv_goto (tgt := 70) hx hb dX7_heardBy_57 (by decide) ?_
            obtain rfl := Option.some.inj hf
            exact hret _ _ _ ls hh dX7_heardBy_70 rfl
        · have hf := pq_brt hf h17
          refine lv_sipush (v := (280 : Int32)) hx hb dX7_heardBy_44 (by decide) ?_
          obtain rfl := Option.some.inj hf
          exact hret _ _ _ ls hh dX7_heardBy_47 rfl
      · have hf := pq_brf hf h16
        refine lv_aload_n hx hb dX7_heardBy_31 rfl (lv_at hl 1 rfl) ?_
        refine pq_get C hh i7 0 6 rfl rfl 32 (by decide) kf96 rfl rfl dX7_heardBy_32 ?_
        refine lv_iload_n hx hb dX7_heardBy_35 rfl (lv_at hl 0 rfl) ?_
        obtain ⟨h22, hf⟩ := pq_rdx hf
        refine pq_iald C hh 2 rfl h22 dX7_heardBy_36 (fun v23 e24 => ?_)
        have hf := hf v23 e24
        obtain rfl := Option.some.inj hf
        exact hret _ _ _ ls hh dX7_heardBy_37 rfl
  · have hf := pq_brt hf h1
    refine lv_aload_n hx hb dX7_heardBy_6 rfl (lv_at hl 0 rfl) ?_
    refine pq_get C hh i7 0 6 rfl rfl 28 (by decide) kf84 rfl rfl dX7_heardBy_7 ?_
    refine lv_iload_n hx hb dX7_heardBy_10 rfl (lv_at hl 2 rfl) ?_
    refine lv_iconst (v := (2 : Int32)) hx hb dX7_heardBy_11 (by decide) ?_
    refine lv_ishr hx hb dX7_heardBy_12 ?_
    obtain ⟨h25, hf⟩ := pq_rdx hf
    refine pq_iald C hh 1 rfl h25 dX7_heardBy_13 (fun v26 e27 => ?_)
    have hf := hf v26 e27
    obtain rfl := Option.some.inj hf
    exact hret _ _ _ ls hh dX7_heardBy_14 rfl
set_option maxHeartbeats 4000000 in
set_option maxRecDepth 100000 in
theorem qX7_sieves (l : Launch) (D : va_G) (cI cL : ClassId) (th : Nat) (ad : Nat → Nat) (c_told : Int32) (c_sumZ : Int32) (c_sumE : Int32) (c_stepY : Int32) (c_odd : Int32) (c_even : Int32) (c_taped : Int32) (c_outs : Int32) (c_isFound : Int32) (f_sieve : Nat → Int32) (f_coefficients : Nat → Int32) (a1 : Int32) (a2 : Int32) (a3 : Int32) (res : Int32 × Int32 × (Nat → Int32)) (hf : fX7_sieves a1 a2 a3 f_coefficients c_odd c_even f_sieve = some res) : pq_CV l yX7_sieves qsX7_sieves 0 0 D cI cL [.ref th, .int a1, .int a2, .int a3] (wX7_sieves cI th ad c_told c_sumZ c_sumE c_stepY c_odd c_even c_taped c_outs c_isFound f_sieve f_coefficients) (wX7_sieves cI th ad c_told c_sumZ c_sumE c_stepY res.1 res.2.1 c_taped c_outs c_isFound res.2.2 f_coefficients) := by
  refine pq_mkV (cc := cX7_sieves) (maxL := 6) (by decide) rfl (Nat.le_of_ble_eq_true rfl) ?_
  intro p e s m args below meth c Q A C hh hret ls hl
  have hx := C.1
  have hb := C.2.1
  have hml := C.2.2.1
  have hown : s.vm.findClass RX7 = some m.cls := C.2.2.2.1
  have hs : ∀ w ∈ wsL_law, w ∈ qsX7_sieves := fun _ h => List.mem_cons_of_mem _ h
  have htw : ∀ w ∈ wsL_law, w.before args s = true := fun w h => C.2.2.2.2.1 w (hs w h)
  have hl : lv_has ls 6 [(0, .ref th), (1, .int a1), (2, .int a2), (3, .int a3)] := hl
  have i7 : ∀ w ∈ wsX70, w ∈ qsX7_sieves := fun w h => hs w (pq_i7 w h)
  have kf185 := htw (.fieldLink RX7 185 "VoiceDeskModel" "odd" "I") (pq_m20 _ (List.mem_of_getElem? (i := 4) rfl))
  have kf188 := htw (.fieldLink RX7 188 "VoiceDeskModel" "even" "I") (pq_m20 _ (List.mem_of_getElem? (i := 3) rfl))
  have kf72 := htw (.fieldLink RX7 72 "VoiceDeskModel" "sieve" "[I") (pq_m4 _ (List.mem_of_getElem? (i := 18) rfl))
  have kf75 := htw (.fieldLink RX7 75 "VoiceDeskModel" "coefficients" "[I") (pq_m4 _ (List.mem_of_getElem? (i := 19) rfl))
  have J79 : ∀ (fuel79 : Nat) (x4 : Int32) (x5 : Int32) (c_odd : Int32) (c_even : Int32) (f_sieve : Nat → Int32) (H : Heap) (locs : List Loc), pq_H D A s (wX7_sieves cI th ad c_told c_sumZ c_sumE c_stepY c_odd c_even c_taped c_outs c_isFound f_sieve f_coefficients) H locs → ∀ ls : Array Slot, lv_has ls 6 [(0, .ref th), (4, .int x4), (5, .int x5)] → fX7_sieves_b79  f_coefficients fuel79 x4 x5 c_odd c_even f_sieve = some res → W p l e (pq_rm 0 0) s m args below meth c H locs 0 0 Q (F0 m 79 ls []) := by
    intro fuel79
    induction fuel79 with
    | zero => intro x4 x5 c_odd c_even f_sieve H locs hh ls hl hf; rw [fX7_sieves_b79] at hf; cases hf
    | succ fuel79 ih79 =>
      intro x4 x5 c_odd c_even f_sieve H locs hh ls hl hf
      rw [fX7_sieves_b79] at hf
      refine lv_iload hx hb dX7_sieves_79 (lv_at hl 2 rfl) ?_
      refine lv_bipush (v := (12 : Int32)) hx hb dX7_sieves_81 (by decide) ?_
      refine lv_icmp_ge (tgt := 155) hx hb dX7_sieves_83 (by decide) (fun h18 => ?_) (fun h18 => ?_)
      · have hf := pq_brt hf h18
        obtain rfl := Option.some.inj hf
        exact hret _ _ _ ls hh dX7_sieves_155
      · have hf := pq_brf hf h18
        refine lv_aload_n hx hb dX7_sieves_86 rfl (lv_at hl 0 rfl) ?_
        refine lv_aload_n hx hb dX7_sieves_87 rfl (lv_at hl 0 rfl) ?_
        refine pq_get C hh i7 0 6 rfl rfl 34 (by decide) kf185 rfl rfl dX7_sieves_88 ?_
        refine lv_aload_n hx hb dX7_sieves_91 rfl (lv_at hl 0 rfl) ?_
        refine pq_get C hh i7 0 6 rfl rfl 24 (by decide) kf72 rfl rfl dX7_sieves_92 ?_
        refine lv_iload hx hb dX7_sieves_95 (lv_at hl 1 rfl) ?_
        refine lv_iconst (v := (2 : Int32)) hx hb dX7_sieves_97 (by decide) ?_
        refine lv_iload hx hb dX7_sieves_98 (lv_at hl 2 rfl) ?_
        refine lv_imul hx hb dX7_sieves_100 ?_
        refine lv_iadd hx hb dX7_sieves_101 ?_
        obtain ⟨h19, hf⟩ := pq_rdx hf
        refine pq_iald C hh 1 rfl h19 dX7_sieves_102 (fun v20 e21 => ?_)
        have hf := hf v20 e21
        refine lv_aload_n hx hb dX7_sieves_103 rfl (lv_at hl 0 rfl) ?_
        refine pq_get C hh i7 0 6 rfl rfl 25 (by decide) kf75 rfl rfl dX7_sieves_104 ?_
        refine lv_iload hx hb dX7_sieves_107 (lv_at hl 2 rfl) ?_
        obtain ⟨h22, hf⟩ := pq_rdx hf
        refine pq_iald C hh 2 rfl h22 dX7_sieves_109 (fun v23 e24 => ?_)
        have hf := hf v23 e24
        refine lv_imul hx hb dX7_sieves_110 ?_
        refine lv_iadd hx hb dX7_sieves_111 ?_
        refine lv_topi (fun v25 e26 => ?_)
        have hf := pq_nmx hf v25 e26
        refine pq_put (ty := .int) (v := .int v25) C hh i7 tyX7 tyX7_ok nmX7 0 6 rfl rfl 34 (by decide) kf185 rfl rfl (by decide +kernel) rfl rfl (Nat.le_of_ble_eq_true rfl) dX7_sieves_112 (fun H locs (hh : pq_H D A s (wX7_sieves cI th ad c_told c_sumZ c_sumE c_stepY v25 c_even c_taped c_outs c_isFound f_sieve f_coefficients) H locs) => ?_)
        refine lv_aload_n hx hb dX7_sieves_115 rfl (lv_at hl 0 rfl) ?_
        refine lv_aload_n hx hb dX7_sieves_116 rfl (lv_at hl 0 rfl) ?_
        refine pq_get C hh i7 0 6 rfl rfl 35 (by decide) kf188 rfl rfl dX7_sieves_117 ?_
        refine lv_aload_n hx hb dX7_sieves_120 rfl (lv_at hl 0 rfl) ?_
        refine pq_get C hh i7 0 6 rfl rfl 24 (by decide) kf72 rfl rfl dX7_sieves_121 ?_
        refine lv_iload hx hb dX7_sieves_124 (lv_at hl 1 rfl) ?_
        refine lv_iconst (v := (2 : Int32)) hx hb dX7_sieves_126 (by decide) ?_
        refine lv_iload hx hb dX7_sieves_127 (lv_at hl 2 rfl) ?_
        refine lv_imul hx hb dX7_sieves_129 ?_
        refine lv_iadd hx hb dX7_sieves_130 ?_
        refine lv_iconst (v := (1 : Int32)) hx hb dX7_sieves_131 (by decide) ?_
        refine lv_iadd hx hb dX7_sieves_132 ?_
        obtain ⟨h27, hf⟩ := pq_rdx hf
        refine pq_iald C hh 1 rfl h27 dX7_sieves_133 (fun v28 e29 => ?_)
        have hf := hf v28 e29
        refine lv_aload_n hx hb dX7_sieves_134 rfl (lv_at hl 0 rfl) ?_
        refine pq_get C hh i7 0 6 rfl rfl 25 (by decide) kf75 rfl rfl dX7_sieves_135 ?_
        refine lv_bipush (v := (11 : Int32)) hx hb dX7_sieves_138 (by decide) ?_
        refine lv_iload hx hb dX7_sieves_140 (lv_at hl 2 rfl) ?_
        refine lv_isub hx hb dX7_sieves_142 ?_
        obtain ⟨h30, hf⟩ := pq_rdx hf
        refine pq_iald C hh 2 rfl h30 dX7_sieves_143 (fun v31 e32 => ?_)
        have hf := hf v31 e32
        refine lv_imul hx hb dX7_sieves_144 ?_
        refine lv_iadd hx hb dX7_sieves_145 ?_
        refine lv_topi (fun v33 e34 => ?_)
        have hf := pq_nmx hf v33 e34
        refine pq_put (ty := .int) (v := .int v33) C hh i7 tyX7 tyX7_ok nmX7 0 6 rfl rfl 35 (by decide) kf188 rfl rfl (by decide +kernel) rfl rfl (Nat.le_of_ble_eq_true rfl) dX7_sieves_146 (fun H locs (hh : pq_H D A s (wX7_sieves cI th ad c_told c_sumZ c_sumE c_stepY v25 v33 c_taped c_outs c_isFound f_sieve f_coefficients) H locs) => ?_)
        obtain ⟨v35, e36⟩ : ∃ y : Int32, y = x5 + (1 : Int32) := ⟨_, rfl⟩
        refine lv_iinc (v := v35) (lv' := [(5, .int v35), (0, .ref th), (4, .int x4)]) hx hb dX7_sieves_149 hl (k := 2) rfl (by rw [e36]; rfl) (by decide) rfl (fun ls hl => ?_)
        have hf := pq_nmx hf v35 e36
        refine lv_goto (tgt := 79) hx hb dX7_sieves_152 (by decide) ?_
        exact ih79 x4 v35 v25 v33 f_sieve _ _ hh ls (lv_sub hl [1, 2, 0] rfl) hf
  have J9 : ∀ (fuel9 : Nat) (x2 : Int32) (x3 : Int32) (x4 : Int32) (x5 : Int32) (c_odd : Int32) (c_even : Int32) (f_sieve : Nat → Int32) (H : Heap) (locs : List Loc), pq_H D A s (wX7_sieves cI th ad c_told c_sumZ c_sumE c_stepY c_odd c_even c_taped c_outs c_isFound f_sieve f_coefficients) H locs → ∀ ls : Array Slot, lv_has ls 6 [(0, .ref th), (2, .int x2), (3, .int x3), (4, .int x4), (5, .int x5)] → fX7_sieves_b9  f_coefficients fuel9 x2 x3 x4 x5 c_odd c_even f_sieve = some res → W p l e (pq_rm 0 0) s m args below meth c H locs 0 0 Q (F0 m 9 ls []) := by
    intro fuel9
    induction fuel9 with
    | zero => intro x2 x3 x4 x5 c_odd c_even f_sieve H locs hh ls hl hf; rw [fX7_sieves_b9] at hf; cases hf
    | succ fuel9 ih9 =>
      intro x2 x3 x4 x5 c_odd c_even f_sieve H locs hh ls hl hf
      rw [fX7_sieves_b9] at hf
      refine lv_iload hx hb dX7_sieves_9 (lv_at hl 4 rfl) ?_
      refine lv_bipush (v := (22 : Int32)) hx hb dX7_sieves_11 (by decide) ?_
      refine lv_icmp_ge (tgt := 44) hx hb dX7_sieves_13 (by decide) (fun h3 => ?_) (fun h3 => ?_)
      · have hf := pq_brt hf h3
        refine lv_aload_n hx hb dX7_sieves_44 rfl (lv_at hl 0 rfl) ?_
        refine pq_get C hh i7 0 6 rfl rfl 24 (by decide) kf72 rfl rfl dX7_sieves_45 ?_
        refine lv_iload hx hb dX7_sieves_48 (lv_at hl 3 rfl) ?_
        refine lv_bipush (v := (22 : Int32)) hx hb dX7_sieves_50 (by decide) ?_
        refine lv_iadd hx hb dX7_sieves_52 ?_
        refine lv_iload_n hx hb dX7_sieves_53 rfl (lv_at hl 1 rfl) ?_
        obtain ⟨h4, hf⟩ := pq_wrx hf
        refine pq_iast C hh 1 rfl h4 dX7_sieves_54 (fun H locs f5 e6 (hh : pq_H D A s (wX7_sieves cI th ad c_told c_sumZ c_sumE c_stepY c_odd c_even c_taped c_outs c_isFound f5 f_coefficients) H locs) => ?_)
        have hf := hf f5 e6
        refine lv_aload_n hx hb dX7_sieves_55 rfl (lv_at hl 0 rfl) ?_
        refine pq_get C hh i7 0 6 rfl rfl 24 (by decide) kf72 rfl rfl dX7_sieves_56 ?_
        refine lv_iload hx hb dX7_sieves_59 (lv_at hl 3 rfl) ?_
        refine lv_bipush (v := (23 : Int32)) hx hb dX7_sieves_61 (by decide) ?_
        refine lv_iadd hx hb dX7_sieves_63 ?_
        refine lv_iload_n hx hb dX7_sieves_64 rfl (lv_at hl 2 rfl) ?_
        obtain ⟨h7, hf⟩ := pq_wrx hf
        refine pq_iast C hh 1 rfl h7 dX7_sieves_65 (fun H locs f8 e9 (hh : pq_H D A s (wX7_sieves cI th ad c_told c_sumZ c_sumE c_stepY c_odd c_even c_taped c_outs c_isFound f8 f_coefficients) H locs) => ?_)
        have hf := hf f8 e9
        refine lv_aload_n hx hb dX7_sieves_66 rfl (lv_at hl 0 rfl) ?_
        refine lv_iconst (v := (0 : Int32)) hx hb dX7_sieves_67 (by decide) ?_
        refine pq_put (ty := .int) (v := .int (0 : Int32)) C hh i7 tyX7 tyX7_ok nmX7 0 6 rfl rfl 34 (by decide) kf185 rfl rfl (by decide +kernel) rfl rfl (Nat.le_of_ble_eq_true rfl) dX7_sieves_68 (fun H locs (hh : pq_H D A s (wX7_sieves cI th ad c_told c_sumZ c_sumE c_stepY (0 : Int32) c_even c_taped c_outs c_isFound f8 f_coefficients) H locs) => ?_)
        refine lv_aload_n hx hb dX7_sieves_71 rfl (lv_at hl 0 rfl) ?_
        refine lv_iconst (v := (0 : Int32)) hx hb dX7_sieves_72 (by decide) ?_
        refine pq_put (ty := .int) (v := .int (0 : Int32)) C hh i7 tyX7 tyX7_ok nmX7 0 6 rfl rfl 35 (by decide) kf188 rfl rfl (by decide +kernel) rfl rfl (Nat.le_of_ble_eq_true rfl) dX7_sieves_73 (fun H locs (hh : pq_H D A s (wX7_sieves cI th ad c_told c_sumZ c_sumE c_stepY (0 : Int32) (0 : Int32) c_taped c_outs c_isFound f8 f_coefficients) H locs) => ?_)
        refine lv_iconst (v := (0 : Int32)) hx hb dX7_sieves_76 (by decide) ?_
        refine lv_istore (lv' := [(5, .int (0 : Int32)), (0, .ref th), (2, .int x2), (3, .int x3), (4, .int x4)]) hx hb dX7_sieves_77 hl (by decide) rfl (fun ls hl => ?_)
        exact J79 1100 x4 (0 : Int32) (0 : Int32) (0 : Int32) f8 _ _ hh ls (lv_sub hl [1, 4, 0] rfl) hf
      · have hf := pq_brf hf h3
        refine lv_aload_n hx hb dX7_sieves_16 rfl (lv_at hl 0 rfl) ?_
        refine pq_get C hh i7 0 6 rfl rfl 24 (by decide) kf72 rfl rfl dX7_sieves_17 ?_
        refine lv_iload hx hb dX7_sieves_20 (lv_at hl 3 rfl) ?_
        refine lv_iload hx hb dX7_sieves_22 (lv_at hl 4 rfl) ?_
        refine lv_iadd hx hb dX7_sieves_24 ?_
        refine lv_aload_n hx hb dX7_sieves_25 rfl (lv_at hl 0 rfl) ?_
        refine pq_get C hh i7 0 6 rfl rfl 24 (by decide) kf72 rfl rfl dX7_sieves_26 ?_
        refine lv_iload hx hb dX7_sieves_29 (lv_at hl 3 rfl) ?_
        refine lv_iload hx hb dX7_sieves_31 (lv_at hl 4 rfl) ?_
        refine lv_iadd hx hb dX7_sieves_33 ?_
        refine lv_iconst (v := (2 : Int32)) hx hb dX7_sieves_34 (by decide) ?_
        refine lv_iadd hx hb dX7_sieves_35 ?_
        obtain ⟨h10, hf⟩ := pq_rdx hf
        refine pq_iald C hh 1 rfl h10 dX7_sieves_36 (fun v11 e12 => ?_)
        have hf := hf v11 e12
        obtain ⟨h13, hf⟩ := pq_wrx hf
        refine pq_iast C hh 1 rfl h13 dX7_sieves_37 (fun H locs f14 e15 (hh : pq_H D A s (wX7_sieves cI th ad c_told c_sumZ c_sumE c_stepY c_odd c_even c_taped c_outs c_isFound f14 f_coefficients) H locs) => ?_)
        have hf := hf f14 e15
        obtain ⟨v16, e17⟩ : ∃ y : Int32, y = x5 + (1 : Int32) := ⟨_, rfl⟩
        refine lv_iinc (v := v16) (lv' := [(5, .int v16), (0, .ref th), (2, .int x2), (3, .int x3), (4, .int x4)]) hx hb dX7_sieves_38 hl (k := 4) rfl (by rw [e17]; rfl) (by decide) rfl (fun ls hl => ?_)
        have hf := pq_nmx hf v16 e17
        refine lv_goto (tgt := 9) hx hb dX7_sieves_41 (by decide) ?_
        exact ih9 x2 x3 x4 v16 c_odd c_even f14 _ _ hh ls (lv_sub hl [1, 2, 3, 4, 0] rfl) hf
  rw [fX7_sieves] at hf
  refine lv_bipush (v := (24 : Int32)) hx hb dX7_sieves_0 (by decide) ?_
  refine lv_iload_n hx hb dX7_sieves_2 rfl (lv_at hl 1 rfl) ?_
  refine lv_imul hx hb dX7_sieves_3 ?_
  refine lv_topi (fun v1 e2 => ?_)
  have hf := pq_nmx hf v1 e2
  refine lv_istore (lv' := [(4, .int v1), (0, .ref th), (1, .int a1), (2, .int a2), (3, .int a3)]) hx hb dX7_sieves_4 hl (by decide) rfl (fun ls hl => ?_)
  refine lv_iconst (v := (0 : Int32)) hx hb dX7_sieves_6 (by decide) ?_
  refine lv_istore (lv' := [(5, .int (0 : Int32)), (4, .int v1), (0, .ref th), (1, .int a1), (2, .int a2), (3, .int a3)]) hx hb dX7_sieves_7 hl (by decide) rfl (fun ls hl => ?_)
  exact J9 1100 a2 a3 v1 (0 : Int32) c_odd c_even f_sieve _ _ hh ls (lv_sub hl [2, 4, 5, 1, 0] rfl) hf
set_option maxHeartbeats 4000000 in
set_option maxRecDepth 100000 in
theorem qX7_root (l : Launch) (D : va_G) (cI cL : ClassId) (th : Nat) (ad : Nat → Nat) (c_told : Int32) (c_sumZ : Int32) (c_sumE : Int32) (c_stepY : Int32) (c_odd : Int32) (c_even : Int32) (c_taped : Int32) (c_outs : Int32) (c_isFound : Int32) (f_roots : Nat → Int32) (a1 : Int32) (a2 : Int32) (res : Int32) (hf : fX7_root a1 a2 f_roots = some res) : pq_CI l yX7_root qsX7_root 0 0 D cI cL [.ref th, .int a1, .int a2] (wX7_root cI th ad c_told c_sumZ c_sumE c_stepY c_odd c_even c_taped c_outs c_isFound f_roots) (wX7_root cI th ad c_told c_sumZ c_sumE c_stepY c_odd c_even c_taped c_outs c_isFound f_roots) res := by
  refine pq_mkI (cc := cX7_root) (maxL := 5) (RT := .int) (by decide) rfl (Nat.le_of_ble_eq_true rfl) ?_
  intro p e s m args below meth c Q A C hh hret ls hl
  have hx := C.1
  have hb := C.2.1
  have hml := C.2.2.1
  have hown : s.vm.findClass RX7 = some m.cls := C.2.2.2.1
  have hs : ∀ w ∈ wsL_law, w ∈ qsX7_root := fun _ h => List.mem_cons_of_mem _ h
  have htw : ∀ w ∈ wsL_law, w.before args s = true := fun w h => C.2.2.2.2.1 w (hs w h)
  have hl : lv_has ls 5 [(0, .ref th), (1, .int a1), (2, .int a2)] := hl
  have i7 : ∀ w ∈ wsX70, w ∈ qsX7_root := fun w h => hs w (pq_i7 w h)
  have kf81 := htw (.fieldLink RX7 81 "VoiceDeskModel" "roots" "[I") (pq_m4 _ (List.mem_of_getElem? (i := 21) rfl))
  rw [fX7_root] at hf
  refine lv_aload_n hx hb dX7_root_0 rfl (lv_at hl 0 rfl) ?_
  refine pq_get C hh i7 0 6 rfl rfl 27 (by decide) kf81 rfl rfl dX7_root_1 ?_
  refine lv_iload_n hx hb dX7_root_4 rfl (lv_at hl 1 rfl) ?_
  refine lv_bipush (v := (6 : Int32)) hx hb dX7_root_5 (by decide) ?_
  refine lv_ishr hx hb dX7_root_7 ?_
  refine lv_bipush (v := (31 : Int32)) hx hb dX7_root_8 (by decide) ?_
  refine lv_iand hx hb dX7_root_10 ?_
  obtain ⟨h1, hf⟩ := pq_rdx hf
  refine pq_iald C hh 1 rfl h1 dX7_root_11 (fun v2 e3 => ?_)
  have hf := hf v2 e3
  refine lv_istore_n (lv' := [(3, .int v2), (0, .ref th), (1, .int a1), (2, .int a2)]) hx hb dX7_root_12 rfl hl (by decide) rfl (fun ls hl => ?_)
  refine lv_iload_n hx hb dX7_root_13 rfl (lv_at hl 3 rfl) ?_
  refine lv_iload_n hx hb dX7_root_14 rfl (lv_at hl 2 rfl) ?_
  refine lv_bipush (v := (11 : Int32)) hx hb dX7_root_15 (by decide) ?_
  refine lv_ishr hx hb dX7_root_17 ?_
  refine lv_isub hx hb dX7_root_18 ?_
  refine lv_topi (fun v4 e5 => ?_)
  have hf := pq_nmx hf v4 e5
  refine lv_istore (lv' := [(4, .int v4), (3, .int v2), (0, .ref th), (1, .int a1), (2, .int a2)]) hx hb dX7_root_19 hl (by decide) rfl (fun ls hl => ?_)
  refine lv_iconst (v := (4 : Int32)) hx hb dX7_root_21 (by decide) ?_
  refine lv_iload hx hb dX7_root_22 (lv_at hl 0 rfl) ?_
  refine lv_if_ge (tgt := 35) hx hb dX7_root_24 (by decide) (fun h6 => ?_) (fun h6 => ?_)
  · have hf := pq_brt hf h6
    refine lv_iload_n hx hb dX7_root_35 rfl (lv_at hl 1 rfl) ?_
    refine lv_iload hx hb dX7_root_36 (lv_at hl 0 rfl) ?_
    refine lv_ishr hx hb dX7_root_38 ?_
    refine lv_imul hx hb dX7_root_39 ?_
    obtain rfl := Option.some.inj hf
    exact hret _ _ _ ls hh dX7_root_40 rfl
  · have hf := pq_brf hf h6
    refine lv_iload_n hx hb dX7_root_27 rfl (lv_at hl 1 rfl) ?_
    refine lv_iload hx hb dX7_root_28 (lv_at hl 0 rfl) ?_
    refine lv_ineg hx hb dX7_root_30 ?_
    refine lv_ishl hx hb dX7_root_31 ?_
    refine lv_goto (tgt := 39) hx hb dX7_root_32 (by decide) ?_
    refine lv_imul hx hb dX7_root_39 ?_
    obtain rfl := Option.some.inj hf
    exact hret _ _ _ ls hh dX7_root_40 rfl
