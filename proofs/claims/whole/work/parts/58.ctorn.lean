def md_M0 : md_S := (fun _ => 0, fun j => if j = 0 then aiX7_init_6_3 else fun _ => 0)
set_option maxHeartbeats 8000000 in
set_option maxRecDepth 100000 in
theorem qX7_init (l : Launch) (D : va_G) (cI cL : ClassId) (th : Nat) : pq_CC l yX7_init qsX7_init 1 12 34 5061 D cI cL th [(th, .inr (6, (.int (0 : Int32) :: .null :: .null :: .null :: .null :: .null :: .null :: .null :: .null :: .null :: .null :: .null :: .null :: .null :: .null :: .null :: .null :: .null :: .null :: .null :: .int (0 : Int32) :: .int (0 : Int32) :: .int (0 : Int32) :: .null :: .null :: .null :: .null :: .null :: .null :: .null :: .null :: .null :: .null :: .null :: .int (0 : Int32) :: .int (0 : Int32) :: .null :: .int (0 : Int32) :: .null :: .int (0 : Int32) :: .int (0 : Int32) :: .null :: .null :: [])))] (fun ad => wM cI th ad md_M0) := by
  refine pq_mkC (cc := cX7_init) (maxL := 1) (by decide) rfl (Nat.le_of_ble_eq_true rfl) ?_
  intro p e s m args below meth c Q A C hh hin hret ls hl
  have hx := C.1
  have hb := C.2.1
  have hml := C.2.2.1
  have hown : s.vm.findClass RX7 = some m.cls := C.2.2.2.1
  have hs : ∀ w ∈ wsL_law, w ∈ qsX7_init := fun _ h => List.mem_cons_of_mem _ h
  have htw : ∀ w ∈ wsL_law, w.before args s = true := fun w h => C.2.2.2.2.1 w (hs w h)
  have ko := htw (.methodLink RX7 1 objectInit) (pq_m3 _ (List.mem_of_getElem? (i := 19) rfl))
  have koc := htw (.code objectInit ⟨#[0xb1]⟩ 1 none) (pq_m1 _ (List.mem_of_getElem? (i := 11) rfl))
  have koi := htw (.instanceMethod objectInit) (pq_m1 _ (List.mem_of_getElem? (i := 10) rfl))
  have hl : lv_has ls 1 [(0, .ref th)] := hl
  refine lv_aload_n hx hb dX7_init_0 rfl (lv_at hl 0 rfl) ?_
  refine W.objInit hx hb hown ko koi koc rfl (by rw [hml]; exact hl.1) rfl dX7_init_1 (Nat.le_of_ble_eq_true rfl) (Nat.le_of_ble_eq_true rfl) ?_
  refine W.eq (g2 := F0 m 4 ls []) rfl ?_
  refine mdX7_4 C hin (by simp) hl hh (fun q1 H locs hh => ?_)
  refine mdX7_31 C hin (by simp) hl hh (fun q2 H locs hh => ?_)
  refine mdX7_38 C hin (by simp) hl hh (fun q3 H locs hh => ?_)
  refine mdX7_47 C hin (by simp) hl hh (fun q4 H locs hh => ?_)
  refine mdX7_60 C hin (by simp) hl hh (fun q5 H locs hh => ?_)
  refine mdX7_84 C hin (by simp) hl hh (fun q6 H locs hh => ?_)
  refine mdX7_133 C hin (by simp) hl hh (fun q7 H locs hh => ?_)
  refine mdX7_237 C hin (by simp) hl hh (fun q8 H locs hh => ?_)
  refine mdX7_255 C hin (by simp) hl hh (fun q9 H locs hh => ?_)
  refine mdX7_286 C hin (by simp) hl hh (fun q10 H locs hh => ?_)
  refine mdX7_342 C hin (by simp) hl hh (fun q11 H locs hh => ?_)
  refine mdX7_453 C hin (by simp) hl hh (fun q12 H locs hh => ?_)
  refine mdX7_472 C hin (by simp) hl hh (fun q13 H locs hh => ?_)
  refine mdX7_502 C hin (by simp) hl hh (fun q14 H locs hh => ?_)
  refine mdX7_559 C hin (by simp) hl hh (fun q15 H locs hh => ?_)
  refine mdX7_673 C hin (by simp) hl hh (fun q16 H locs hh => ?_)
  refine mdX7_690 C hin (by simp) hl hh (fun q17 H locs hh => ?_)
  refine mdX7_719 C hin (by simp) hl hh (fun q18 H locs hh => ?_)
  refine mdX7_771 C hin (by simp) hl hh (fun q19 H locs hh => ?_)
  refine mdX7_875 C hin (by simp) hl hh (fun q23 H locs hh => ?_)
  refine mdX7_884 C hin (by simp) hl hh (fun q24 H locs hh => ?_)
  refine mdX7_893 C hin (by simp) hl hh (fun q25 H locs hh => ?_)
  refine mdX7_972 C hin (by simp) hl hh (fun q26 H locs hh => ?_)
  refine mdX7_1174 C hin (by simp) hl hh (fun q27 H locs hh => ?_)
  refine mdX7_1400 C hin (by simp) hl hh (fun q28 H locs hh => ?_)
  refine mdX7_1510 C hin (by simp) hl hh (fun q29 H locs hh => ?_)
  refine mdX7_1541 C hin (by simp) hl hh (fun q30 H locs hh => ?_)
  refine mdX7_1649 C hin (by simp) hl hh (fun q31 H locs hh => ?_)
  refine mdX7_1680 C hin (by simp) hl hh (fun q32 H locs hh => ?_)
  refine mdX7_1794 C hin (by simp) hl hh (fun q33 H locs hh => ?_)
  refine mdX7_2020 C hin (by simp) hl hh (fun q36 H locs hh => ?_)
  refine mdX7_2029 C hin (by simp) hl hh (fun q38 H locs hh => ?_)
  refine mdX7_2038 C hin (by simp) hl hh (fun q41 H locs hh => ?_)
  refine mdX7_2047 C hin (by simp) hl hh (fun q42 H locs hh => ?_)
  exact hret _ _ _ ls (fun k => ((0 :: q1 :: q2 :: q3 :: q4 :: q5 :: q6 :: q7 :: q8 :: q9 :: q10 :: q11 :: q12 :: q13 :: q14 :: q15 :: q16 :: q17 :: q18 :: q19 :: 0 :: 0 :: 0 :: q23 :: q24 :: q25 :: q26 :: q27 :: q28 :: q29 :: q30 :: q31 :: q32 :: q33 :: 0 :: 0 :: q36 :: 0 :: q38 :: 0 :: 0 :: q41 :: q42 :: []) : List Nat).getD k 0) hh dX7_init_2056
