section PQA
variable {p : Program} {l : Launch} {e : Env} {R : Room} {s : State} {m : MethodId} {args : Array Value} {below : List Frame} {meth : Method} {c : Code} {H : Heap} {locs : List Loc} {cells slots : Nat} {Q : State → Prop}
variable {cc : ByteArray} {pc : Nat} {ls : Array Slot} {rest st0 : List Value} {D : va_G} {A : Nat → Prop} {a nL : Nat} {Wd wc : va_W} {Ts : List Cond} {own : String} {cI cL : ClassId}
variable {y : MethodName} {ws ws' : List Cond} {fr lo n index maxL mc ms : Nat} {K : String} {bytes : ByteArray} {b : Addr} {Wn : (Nat → Nat) → va_W}
theorem pq_callCL {a0 : Array Value} (C : pq_Cx p c m cc nL s args Ts own D cI cL A) (hh : pq_H D A s (wc ++ Wd) H locs)
    (hr : va_Run p l e R s m args below meth c H locs cells slots mc ms (F0 m pc ls st0) rest (va_Qv (fun (_ : Unit) => True) (fun _ t => ∃ as : Nat → Nat, pq_Post D (va_A wc H.size) (Wn as) () t) (va_A wc H.size) a0) (va_A wc H.size))
    (kk : ∀ (H1 : Heap) (locs1 : List Loc) (as : Nat → Nat), pq_H D A s (Wd ++ Wn as) H1 locs1 → W p l e R s m args below meth c H1 locs1 (cells + mc) (slots + ms) Q (F0 m (pc + 3) ls rest)) : W p l e R s m args below meth c H locs cells slots Q (F0 m pc ls st0) := by
  have hC := pq_rangeL wc Wd
  have hFc := va_free hh.2.1 hh.2.2 C.2.2.2.2.2.2.2 (List.range wc.length) hC
  refine va_callv hr hh.2.2 (fun q _ h => hFc q h) hFc (fun u t H1 locs1 ht hvm hw hB hz1 hk1 hS => ?_)
  obtain ⟨as, hP1, hD1⟩ := hB
  rw [ht] at hP1
  obtain ⟨hP, hD⟩ := va_join (wr := Wd) (w1 := Wn as) hh.1 hh.2.1 _ _ hC (pq_rangeR wc Wd) (pq_ndS _ _) pq_disS hk1 hFc hP1 hD1
  exact kk H1 locs1 as ⟨hP, hD, hS⟩
theorem pq_cnCL {host : String} (C : pq_Cx p c m cc nL s args Ts own D cI cL A) (hh : pq_H D A s (Wd ++ wc) H locs) (hM : pq_CC l y ws fr lo mc ms D cI cL b wc Wn) (hT : GoodIn Ts ws) (hw : ws = Cond.code y bytes maxL none :: ws') (hlk : (own, index, y, host) ∈ pq_nestM) (hy : y.name = "<init>") (hinst : (Cond.instanceMethod y).before args s = true) (hini : (Cond.initialized y.cls).before args s = true) (hd : y.cls ≠ "java/lang/invoke/MethodHandle" ∧ y.cls ≠ "java/lang/invoke/VarHandle" ∧ (parseMethodDescriptor y.desc).map (fun d => d.parameters.length) = some 0) (hRm : fr + 1 ≤ R.frames ∧ 8 + (maxL + 11) + lo ≤ R.locals)
    (hsz : ls.size = nL) (hst : st0 = .ref b :: rest) (hWr : (rest.map fun v => v.category).sum ≤ 8) (hdg : decode cc pc = .ok (.invokespecial index, 3)) (hcs : cells + mc ≤ R.cells ∧ slots + ms ≤ R.slots)
    (kk : ∀ (H1 : Heap) (locs1 : List Loc) (as : Nat → Nat), pq_H D A s (Wd ++ Wn as) H1 locs1 → W p l e R s m args below meth c H1 locs1 (cells + mc) (slots + ms) Q (F0 m (pc + 3) ls rest)) : W p l e R s m args below meth c H locs cells slots Q (F0 m pc ls st0) := by
  have hh := pq_Hp List.perm_append_comm hh
  exact pq_callCL C hh (va_runIN (host := host) (As := []) (rest := rest) ⟨C.1, C.2.1, C.2.2.1, C.2.2.2.1, C.2.2.2.2.1⟩ (hM H.size) ⟨va_cnB 0 C.2.2.2.2.1 hT hw rfl rfl (C.2.2.2.2.2.2.1.1 _ hlk) hini hd hRm, hy, hinst⟩ ⟨pq_blind, pq_pre C hh (List.range wc.length) (pq_rangeL wc Wd) (pq_ndR _ List.nodup_range)⟩ rfl rfl hsz hst (lv_room hWr) hdg hcs) kk
theorem pq_ciCL (C : pq_Cx p c m cc nL s args Ts own D cI cL A) (hh : pq_H D A s (Wd ++ wc) H locs) (hM : pq_CC l y ws fr lo mc ms D cI cL b wc Wn) (hT : GoodIn Ts ws) (hw : ws = Cond.code y bytes maxL none :: ws') (hlk : (Cond.methodLink own index y).before args s = true) (hy : y.name = "<init>") (hinst : (Cond.instanceMethod y).before args s = true) (hini : (Cond.initialized y.cls).before args s = true) (hd : y.cls ≠ "java/lang/invoke/MethodHandle" ∧ y.cls ≠ "java/lang/invoke/VarHandle" ∧ (parseMethodDescriptor y.desc).map (fun d => d.parameters.length) = some 0) (hRm : fr + 1 ≤ R.frames ∧ 8 + (maxL + 11) + lo ≤ R.locals)
    (hsz : ls.size = nL) (hst : st0 = .ref b :: rest) (hWr : (rest.map fun v => v.category).sum ≤ 8) (hdg : decode cc pc = .ok (.invokespecial index, 3)) (hcs : cells + mc ≤ R.cells ∧ slots + ms ≤ R.slots)
    (kk : ∀ (H1 : Heap) (locs1 : List Loc) (as : Nat → Nat), pq_H D A s (Wd ++ Wn as) H1 locs1 → W p l e R s m args below meth c H1 locs1 (cells + mc) (slots + ms) Q (F0 m (pc + 3) ls rest)) : W p l e R s m args below meth c H locs cells slots Q (F0 m pc ls st0) := by
  have hh := pq_Hp List.perm_append_comm hh
  exact pq_callCL C hh (va_runI (As := []) (rest := rest) ⟨C.1, C.2.1, C.2.2.1, C.2.2.2.1, C.2.2.2.2.1⟩ (hM H.size) (cwI 0 C.2.2.2.2.1 hT hw rfl rfl hini hlk hinst hy hd hRm) ⟨pq_blind, pq_pre C hh (List.range wc.length) (pq_rangeL wc Wd) (pq_ndR _ List.nodup_range)⟩ rfl rfl hsz hst (lv_room hWr) hdg hcs) kk
theorem pq_aastM (C : pq_Cx p c m cc nL s args Ts own D cI cL A) (hh : pq_H D A s Wd H locs) (q0 : Nat) {v : Nat} {vs : List Value} {f : Nat → Option Nat} (ha : Wd[q0]? = some (a, .inl (cL, 4, .inr (.inr (.inr (.inr f)))))) (hv : (v, .inr (3, vs)) ∈ Wd) {i : Int32} (hin : vp_in i 4) (hdg : decode cc pc = .ok (.aastore, 1))
    (kk : ∀ (H1 : Heap) (locs1 : List Loc), pq_H D A s (Wd.set q0 (a, .inl (cL, 4, .inr (.inr (.inr (.inr (va_up f i.toNatClampNeg (some v)))))))) H1 locs1 → W p l e R s m args below meth c H1 locs1 cells slots Q (F0 m (pc + 1) ls rest)) : W p l e R s m args below meth c H locs cells slots Q (F0 m pc ls (.ref v :: .int i :: .ref a :: rest)) := by
  obtain ⟨qk, hk⟩ := List.getElem?_of_mem hv
  exact pq_aast C hh q0 qk ha hk hin hdg kk
end PQA
abbrev nX0_init (cI cL : ClassId) (th : Nat) (as : Nat → Nat) : va_W := [(th, .inr (0, [.ref (as 0), .int (2 : Int32), .int (0 : Int32), .int (0 : Int32), .int (0 : Int32)])), ((as 0), .inl (cI, 24, .inl (fun _ => 0)))]
set_option maxHeartbeats 8000000 in
set_option maxRecDepth 100000 in
theorem qX0_init (l : Launch) (D : va_G) (cI cL : ClassId) (th : Nat) : pq_CC l yX0_init qsX0_init 1 12 1 24 D cI cL th [(th, .inr (0, [.null, .int (0 : Int32), .int (0 : Int32), .int (0 : Int32), .int (0 : Int32)]))] (nX0_init cI cL th) := by
  refine pq_mkC (cc := cX0_init) (maxL := 1) (by decide) rfl (Nat.le_of_ble_eq_true rfl) ?_
  intro p e s m args below meth c Q A C hh hin hret ls hl
  have hx := C.1
  have hb := C.2.1
  have hml := C.2.2.1
  have hown : s.vm.findClass RX0 = some m.cls := C.2.2.2.1
  have hs : ∀ w ∈ wsL_law, w ∈ qsX0_init := fun _ h => List.mem_cons_of_mem _ h
  have htw : ∀ w ∈ wsL_law, w.before args s = true := fun w h => C.2.2.2.2.1 w (hs w h)
  have hl : lv_has ls 1 [(0, .ref th)] := hl
  have i0 : ∀ w ∈ wsX00, w ∈ qsX0_init := fun w h => hs w (pq_i0 w h)
  have ka := htw (.arrayClass .int) (pq_m2 _ (List.mem_of_getElem? (i := 15) rfl))
  have kf11 := htw (.fieldLink RX0 11 "VoiceDesk$Adpcm" "numbers" "[I") (pq_m2 _ (List.mem_of_getElem? (i := 16) rfl))
  have kf15 := htw (.fieldLink RX0 15 "VoiceDesk$Adpcm" "bits" "I") (pq_m2 _ (List.mem_of_getElem? (i := 17) rfl))
  have kf19 := htw (.fieldLink RX0 19 "VoiceDesk$Adpcm" "se" "I") (pq_m2 _ (List.mem_of_getElem? (i := 18) rfl))
  have kf22 := htw (.fieldLink RX0 22 "VoiceDesk$Adpcm" "sz" "I") (pq_m2 _ (List.mem_of_getElem? (i := 19) rfl))
  have kf25 := htw (.fieldLink RX0 25 "VoiceDesk$Adpcm" "step" "I") (pq_m2 _ (List.mem_of_getElem? (i := 20) rfl))
  have ko := htw (.methodLink RX0 3 objectInit) (pq_m2 _ (List.mem_of_getElem? (i := 14) rfl))
  have koc := htw (.code objectInit ⟨#[0xb1]⟩ 1 none) (pq_m1 _ (List.mem_of_getElem? (i := 11) rfl))
  have koi := htw (.instanceMethod objectInit) (pq_m1 _ (List.mem_of_getElem? (i := 10) rfl))
  refine lv_aload_n hx hb dX0_init_0 rfl (lv_at hl 0 rfl) ?_
  refine W.objInit hx hb hown ko koi koc rfl (by rw [hml]; exact hl.1) rfl dX0_init_1 (Nat.le_of_ble_eq_true rfl) (Nat.le_of_ble_eq_true rfl) ?_
  refine W.eq (g2 := F0 m 4 ls []) rfl ?_
  refine lv_aload_n hx hb dX0_init_4 rfl (lv_at hl 0 rfl) ?_
  refine lv_bipush (v := (24 : Int32)) hx hb dX0_init_5 (by decide) ?_
  refine pq_newa (N := 24) C hh ka (by decide) (by decide) (Nat.le_of_ble_eq_true rfl) (Nat.le_of_ble_eq_true rfl) (Nat.le_of_ble_eq_true rfl) dX0_init_7 (fun q1 H (hh : pq_H D A s [(th, .inr (0, [.null, .int (0 : Int32), .int (0 : Int32), .int (0 : Int32), .int (0 : Int32)])), (q1, .inl (cI, 24, .inl (fun _ => 0)))] H _) => ?_)
  refine W.widen (k := 1) (n := 24) (Nat.le_of_ble_eq_true rfl) (Nat.le_of_ble_eq_true rfl) ?_
  refine pq_putF (ty := (.array .int)) (v := .ref q1) C hh i0 tyX0 tyX0_ok nmX0 0 0 rfl rfl 0 (by decide) kf11 rfl rfl hin rfl (by decide +kernel) rfl rfl (Nat.le_of_ble_eq_true rfl) dX0_init_9 (fun H locs (hh : pq_H D A s [(th, .inr (0, [.ref q1, .int (0 : Int32), .int (0 : Int32), .int (0 : Int32), .int (0 : Int32)])), (q1, .inl (cI, 24, .inl (fun _ => 0)))] H locs) => ?_)
  refine lv_aload_n hx hb dX0_init_12 rfl (lv_at hl 0 rfl) ?_
  refine lv_iconst (v := (2 : Int32)) hx hb dX0_init_13 (by decide) ?_
  refine pq_put (ty := .int) (v := .int (2 : Int32)) C hh i0 tyX0 tyX0_ok nmX0 0 0 rfl rfl 1 (by decide) kf15 rfl rfl (by decide +kernel) rfl rfl (Nat.le_of_ble_eq_true rfl) dX0_init_14 (fun H locs (hh : pq_H D A s [(th, .inr (0, [.ref q1, .int (2 : Int32), .int (0 : Int32), .int (0 : Int32), .int (0 : Int32)])), (q1, .inl (cI, 24, .inl (fun _ => 0)))] H locs) => ?_)
  refine lv_aload_n hx hb dX0_init_17 rfl (lv_at hl 0 rfl) ?_
  refine lv_iconst (v := (0 : Int32)) hx hb dX0_init_18 (by decide) ?_
  refine pq_put (ty := .int) (v := .int (0 : Int32)) C hh i0 tyX0 tyX0_ok nmX0 0 0 rfl rfl 2 (by decide) kf19 rfl rfl (by decide +kernel) rfl rfl (Nat.le_of_ble_eq_true rfl) dX0_init_19 (fun H locs (hh : pq_H D A s [(th, .inr (0, [.ref q1, .int (2 : Int32), .int (0 : Int32), .int (0 : Int32), .int (0 : Int32)])), (q1, .inl (cI, 24, .inl (fun _ => 0)))] H locs) => ?_)
  refine lv_aload_n hx hb dX0_init_22 rfl (lv_at hl 0 rfl) ?_
  refine lv_iconst (v := (0 : Int32)) hx hb dX0_init_23 (by decide) ?_
  refine pq_put (ty := .int) (v := .int (0 : Int32)) C hh i0 tyX0 tyX0_ok nmX0 0 0 rfl rfl 3 (by decide) kf22 rfl rfl (by decide +kernel) rfl rfl (Nat.le_of_ble_eq_true rfl) dX0_init_24 (fun H locs (hh : pq_H D A s [(th, .inr (0, [.ref q1, .int (2 : Int32), .int (0 : Int32), .int (0 : Int32), .int (0 : Int32)])), (q1, .inl (cI, 24, .inl (fun _ => 0)))] H locs) => ?_)
  refine lv_aload_n hx hb dX0_init_27 rfl (lv_at hl 0 rfl) ?_
  refine lv_iconst (v := (0 : Int32)) hx hb dX0_init_28 (by decide) ?_
  refine pq_put (ty := .int) (v := .int (0 : Int32)) C hh i0 tyX0 tyX0_ok nmX0 0 0 rfl rfl 4 (by decide) kf25 rfl rfl (by decide +kernel) rfl rfl (Nat.le_of_ble_eq_true rfl) dX0_init_29 (fun H locs (hh : pq_H D A s [(th, .inr (0, [.ref q1, .int (2 : Int32), .int (0 : Int32), .int (0 : Int32), .int (0 : Int32)])), (q1, .inl (cI, 24, .inl (fun _ => 0)))] H locs) => ?_)
  exact hret _ _ _ ls (fun k => ([q1] : List Nat).getD k 0) hh dX0_init_32
abbrev nX1_init (cI cL : ClassId) (th : Nat) (as : Nat → Nat) : va_W := [(th, .inr (1, [.ref (as 0)])), ((as 0), .inl (cI, 23, .inl (fun _ => 0)))]
set_option maxHeartbeats 8000000 in
set_option maxRecDepth 100000 in
theorem qX1_init (l : Launch) (D : va_G) (cI cL : ClassId) (th : Nat) : pq_CC l yX1_init qsX1_init 1 12 1 23 D cI cL th [(th, .inr (1, [.null]))] (nX1_init cI cL th) := by
  refine pq_mkC (cc := cX1_init) (maxL := 1) (by decide) rfl (Nat.le_of_ble_eq_true rfl) ?_
  intro p e s m args below meth c Q A C hh hin hret ls hl
  have hx := C.1
  have hb := C.2.1
  have hml := C.2.2.1
  have hown : s.vm.findClass RX1 = some m.cls := C.2.2.2.1
  have hs : ∀ w ∈ wsL_law, w ∈ qsX1_init := fun _ h => List.mem_cons_of_mem _ h
  have htw : ∀ w ∈ wsL_law, w.before args s = true := fun w h => C.2.2.2.2.1 w (hs w h)
  have hl : lv_has ls 1 [(0, .ref th)] := hl
  have i1 : ∀ w ∈ wsX10, w ∈ qsX1_init := fun w h => hs w (pq_i1 w h)
  have ka := htw (.arrayClass .int) (pq_m2 _ (List.mem_of_getElem? (i := 15) rfl))
  have kf11 := htw (.fieldLink RX1 11 "VoiceDesk$Band" "numbers" "[I") (pq_m3 _ (List.mem_of_getElem? (i := 10) rfl))
  have ko := htw (.methodLink RX1 3 objectInit) (pq_m3 _ (List.mem_of_getElem? (i := 9) rfl))
  have koc := htw (.code objectInit ⟨#[0xb1]⟩ 1 none) (pq_m1 _ (List.mem_of_getElem? (i := 11) rfl))
  have koi := htw (.instanceMethod objectInit) (pq_m1 _ (List.mem_of_getElem? (i := 10) rfl))
  refine lv_aload_n hx hb dX1_init_0 rfl (lv_at hl 0 rfl) ?_
  refine W.objInit hx hb hown ko koi koc rfl (by rw [hml]; exact hl.1) rfl dX1_init_1 (Nat.le_of_ble_eq_true rfl) (Nat.le_of_ble_eq_true rfl) ?_
  refine W.eq (g2 := F0 m 4 ls []) rfl ?_
  refine lv_aload_n hx hb dX1_init_4 rfl (lv_at hl 0 rfl) ?_
  refine lv_bipush (v := (23 : Int32)) hx hb dX1_init_5 (by decide) ?_
  refine pq_newa (N := 23) C hh ka (by decide) (by decide) (Nat.le_of_ble_eq_true rfl) (Nat.le_of_ble_eq_true rfl) (Nat.le_of_ble_eq_true rfl) dX1_init_7 (fun q1 H (hh : pq_H D A s [(th, .inr (1, [.null])), (q1, .inl (cI, 23, .inl (fun _ => 0)))] H _) => ?_)
  refine W.widen (k := 1) (n := 23) (Nat.le_of_ble_eq_true rfl) (Nat.le_of_ble_eq_true rfl) ?_
  refine pq_putF (ty := (.array .int)) (v := .ref q1) C hh i1 tyX1 tyX1_ok nmX1 0 1 rfl rfl 0 (by decide) kf11 rfl rfl hin rfl (by decide +kernel) rfl rfl (Nat.le_of_ble_eq_true rfl) dX1_init_9 (fun H locs (hh : pq_H D A s [(th, .inr (1, [.ref q1])), (q1, .inl (cI, 23, .inl (fun _ => 0)))] H locs) => ?_)
  exact hret _ _ _ ls (fun k => ([q1] : List Nat).getD k 0) hh dX1_init_12
abbrev nX2_init (cI cL : ClassId) (th : Nat) (as : Nat → Nat) : va_W := [(th, .inr (2, [.ref (as 0), .int (0 : Int32)])), ((as 0), .inl (cI, 1000, .inl (fun _ => 0)))]
set_option maxHeartbeats 8000000 in
set_option maxRecDepth 100000 in
theorem qX2_init (l : Launch) (D : va_G) (cI cL : ClassId) (th : Nat) : pq_CC l yX2_init qsX2_init 1 12 1 1000 D cI cL th [(th, .inr (2, [.null, .int (0 : Int32)]))] (nX2_init cI cL th) := by
  refine pq_mkC (cc := cX2_init) (maxL := 1) (by decide) rfl (Nat.le_of_ble_eq_true rfl) ?_
  intro p e s m args below meth c Q A C hh hin hret ls hl
  have hx := C.1
  have hb := C.2.1
  have hml := C.2.2.1
  have hown : s.vm.findClass RX2 = some m.cls := C.2.2.2.1
  have hs : ∀ w ∈ wsL_law, w ∈ qsX2_init := fun _ h => List.mem_cons_of_mem _ h
  have htw : ∀ w ∈ wsL_law, w.before args s = true := fun w h => C.2.2.2.2.1 w (hs w h)
  have hl : lv_has ls 1 [(0, .ref th)] := hl
  have i2 : ∀ w ∈ wsX20, w ∈ qsX2_init := fun w h => hs w (pq_i2 w h)
  have ka := htw (.arrayClass .int) (pq_m2 _ (List.mem_of_getElem? (i := 15) rfl))
  have kf11 := htw (.fieldLink RX2 11 "VoiceDesk$Bytes" "row" "[I") (pq_m3 _ (List.mem_of_getElem? (i := 14) rfl))
  have kf15 := htw (.fieldLink RX2 15 "VoiceDesk$Bytes" "length" "I") (pq_m3 _ (List.mem_of_getElem? (i := 15) rfl))
  have ko := htw (.methodLink RX2 3 objectInit) (pq_m3 _ (List.mem_of_getElem? (i := 13) rfl))
  have koc := htw (.code objectInit ⟨#[0xb1]⟩ 1 none) (pq_m1 _ (List.mem_of_getElem? (i := 11) rfl))
  have koi := htw (.instanceMethod objectInit) (pq_m1 _ (List.mem_of_getElem? (i := 10) rfl))
  refine lv_aload_n hx hb dX2_init_0 rfl (lv_at hl 0 rfl) ?_
  refine W.objInit hx hb hown ko koi koc rfl (by rw [hml]; exact hl.1) rfl dX2_init_1 (Nat.le_of_ble_eq_true rfl) (Nat.le_of_ble_eq_true rfl) ?_
  refine W.eq (g2 := F0 m 4 ls []) rfl ?_
  refine lv_aload_n hx hb dX2_init_4 rfl (lv_at hl 0 rfl) ?_
  refine lv_sipush (v := (1000 : Int32)) hx hb dX2_init_5 (by decide) ?_
  refine pq_newa (N := 1000) C hh ka (by decide) (by decide) (Nat.le_of_ble_eq_true rfl) (Nat.le_of_ble_eq_true rfl) (Nat.le_of_ble_eq_true rfl) dX2_init_8 (fun q1 H (hh : pq_H D A s [(th, .inr (2, [.null, .int (0 : Int32)])), (q1, .inl (cI, 1000, .inl (fun _ => 0)))] H _) => ?_)
  refine W.widen (k := 1) (n := 1000) (Nat.le_of_ble_eq_true rfl) (Nat.le_of_ble_eq_true rfl) ?_
  refine pq_putF (ty := (.array .int)) (v := .ref q1) C hh i2 tyX2 tyX2_ok nmX2 0 2 rfl rfl 0 (by decide) kf11 rfl rfl hin rfl (by decide +kernel) rfl rfl (Nat.le_of_ble_eq_true rfl) dX2_init_10 (fun H locs (hh : pq_H D A s [(th, .inr (2, [.ref q1, .int (0 : Int32)])), (q1, .inl (cI, 1000, .inl (fun _ => 0)))] H locs) => ?_)
  refine lv_aload_n hx hb dX2_init_13 rfl (lv_at hl 0 rfl) ?_
  refine lv_iconst (v := (0 : Int32)) hx hb dX2_init_14 (by decide) ?_
  refine pq_put (ty := .int) (v := .int (0 : Int32)) C hh i2 tyX2 tyX2_ok nmX2 0 2 rfl rfl 1 (by decide) kf15 rfl rfl (by decide +kernel) rfl rfl (Nat.le_of_ble_eq_true rfl) dX2_init_15 (fun H locs (hh : pq_H D A s [(th, .inr (2, [.ref q1, .int (0 : Int32)])), (q1, .inl (cI, 1000, .inl (fun _ => 0)))] H locs) => ?_)
  exact hret _ _ _ ls (fun k => ([q1] : List Nat).getD k 0) hh dX2_init_18
abbrev nX5_init (cI cL : ClassId) (th : Nat) (as : Nat → Nat) : va_W := [(th, .inr (4, [.ref (as 0), .ref (as 2), .ref (as 4), .int (0 : Int32)])), ((as 0), .inr (1, [.ref (as 1)])), ((as 1), .inl (cI, 23, .inl (fun _ => 0))), ((as 2), .inr (1, [.ref (as 3)])), ((as 3), .inl (cI, 23, .inl (fun _ => 0))), ((as 4), .inl (cI, 24, .inl (fun _ => 0)))]
set_option maxHeartbeats 8000000 in
set_option maxRecDepth 100000 in
theorem qX5_init (l : Launch) (D : va_G) (cI cL : ClassId) (th : Nat) : pq_CC l yX5_init qsX5_init 2 32 5 72 D cI cL th [(th, .inr (4, [.null, .null, .null, .int (0 : Int32)]))] (nX5_init cI cL th) := by
  refine pq_mkC (cc := cX5_init) (maxL := 1) (by decide) rfl (Nat.le_of_ble_eq_true rfl) ?_
  intro p e s m args below meth c Q A C hh hin hret ls hl
  have hx := C.1
  have hb := C.2.1
  have hml := C.2.2.1
  have hown : s.vm.findClass RX5 = some m.cls := C.2.2.2.1
  have hs : ∀ w ∈ wsL_law, w ∈ qsX5_init := fun _ h => List.mem_cons_of_mem _ h
  have htw : ∀ w ∈ wsL_law, w.before args s = true := fun w h => C.2.2.2.2.1 w (hs w h)
  have hl : lv_has ls 1 [(0, .ref th)] := hl
  have i1 : ∀ w ∈ wsX10, w ∈ qsX5_init := fun w h => hs w (pq_i1 w h)
  have i5 : ∀ w ∈ wsX50, w ∈ qsX5_init := fun w h => hs w (pq_i5 w h)
  have ka := htw (.arrayClass .int) (pq_m2 _ (List.mem_of_getElem? (i := 15) rfl))
  have kcl9 := htw (.classLink RX5 9 RX1) (pq_m3 _ (List.mem_of_getElem? (i := 0) rfl))
  have kf12 := htw (.fieldLink RX5 12 "VoiceDesk$Wideband" "low" "LVoiceDesk$Band;") (pq_m3 _ (List.mem_of_getElem? (i := 3) rfl))
  have kf18 := htw (.fieldLink RX5 18 "VoiceDesk$Wideband" "high" "LVoiceDesk$Band;") (pq_m3 _ (List.mem_of_getElem? (i := 4) rfl))
  have kf21 := htw (.fieldLink RX5 21 "VoiceDesk$Wideband" "x" "[I") (pq_m3 _ (List.mem_of_getElem? (i := 5) rfl))
  have kf25 := htw (.fieldLink RX5 25 "VoiceDesk$Wideband" "secondHeard" "I") (pq_m3 _ (List.mem_of_getElem? (i := 6) rfl))
  have kinX1_init := htw (.instanceMethod yX1_init) (pq_m3 _ (List.mem_of_getElem? (i := 7) rfl))
  have kiniRX1 := htw (.initialized RX1) (pq_m3 _ (List.mem_of_getElem? (i := 2) rfl))
  have kinstRX1 := htw (.instantiable RX1 1) (pq_m3 _ (List.mem_of_getElem? (i := 1) rfl))
  have ko := htw (.methodLink RX5 3 objectInit) (pq_m2 _ (List.mem_of_getElem? (i := 23) rfl))
  have koc := htw (.code objectInit ⟨#[0xb1]⟩ 1 none) (pq_m1 _ (List.mem_of_getElem? (i := 11) rfl))
  have koi := htw (.instanceMethod objectInit) (pq_m1 _ (List.mem_of_getElem? (i := 10) rfl))
  refine lv_aload_n hx hb dX5_init_0 rfl (lv_at hl 0 rfl) ?_
  refine W.objInit hx hb hown ko koi koc rfl (by rw [hml]; exact hl.1) rfl dX5_init_1 (Nat.le_of_ble_eq_true rfl) (Nat.le_of_ble_eq_true rfl) ?_
  refine W.eq (g2 := F0 m 4 ls []) rfl ?_
  refine lv_aload_n hx hb dX5_init_4 rfl (lv_at hl 0 rfl) ?_
  refine pq_new (ci := 1) (fs := [.null]) C hh i1 tyX1 tyX1_ok kcl9 kinstRX1 kiniRX1 rfl (fun j hj => by rcases (show j = 0 by omega) with rfl <;> rfl) (Nat.le_of_ble_eq_true rfl) (Nat.le_of_ble_eq_true rfl) dX5_init_5 (fun q1 H (hh : pq_H D A s [(th, .inr (4, [.null, .null, .null, .int (0 : Int32)])), (q1, .inr (1, [.null]))] H _) => ?_)
  refine W.widen (k := 1) (n := 1) (Nat.le_of_ble_eq_true rfl) (Nat.le_of_ble_eq_true rfl) ?_
  refine lv_dup hx hb dX5_init_8 rfl ?_
  refine pq_cnC C hh (qX1_init l D cI cL q1) (gnX1_init hs) rfl (List.mem_of_getElem? (i := 3) rfl) rfl kinX1_init kiniRX1 (by decide +kernel) ⟨Nat.le_of_ble_eq_true rfl, Nat.le_of_ble_eq_true rfl⟩ hl.1 rfl (Nat.le_of_ble_eq_true rfl) dX5_init_9 ⟨Nat.le_of_ble_eq_true rfl, Nat.le_of_ble_eq_true rfl⟩ [1] [0] [0, 1, 2] rfl rfl (by decide) (by decide) (by decide) (fun _ => rfl) (fun H locs as2 (hh : pq_H D A s [(th, .inr (4, [.null, .null, .null, .int (0 : Int32)])), (q1, .inr (1, [.ref (as2 0)])), ((as2 0), .inl (cI, 23, .inl (fun _ => 0)))] H locs) => ?_)
  refine W.widen (k := 2) (n := 24) (Nat.le_of_ble_eq_true rfl) (Nat.le_of_ble_eq_true rfl) ?_
  refine pq_putF (ty := (.object "VoiceDesk$Band")) (v := .ref q1) C hh i5 tyX5 tyX5_ok nmX5 0 4 rfl rfl 0 (by decide) kf12 rfl rfl hin rfl (by decide +kernel) rfl rfl (Nat.le_of_ble_eq_true rfl) dX5_init_12 (fun H locs (hh : pq_H D A s [(th, .inr (4, [.ref q1, .null, .null, .int (0 : Int32)])), (q1, .inr (1, [.ref (as2 0)])), ((as2 0), .inl (cI, 23, .inl (fun _ => 0)))] H locs) => ?_)
  refine lv_aload_n hx hb dX5_init_15 rfl (lv_at hl 0 rfl) ?_
  refine pq_new (ci := 1) (fs := [.null]) C hh i1 tyX1 tyX1_ok kcl9 kinstRX1 kiniRX1 rfl (fun j hj => by rcases (show j = 0 by omega) with rfl <;> rfl) (Nat.le_of_ble_eq_true rfl) (Nat.le_of_ble_eq_true rfl) dX5_init_16 (fun q3 H (hh : pq_H D A s [(th, .inr (4, [.ref q1, .null, .null, .int (0 : Int32)])), (q1, .inr (1, [.ref (as2 0)])), ((as2 0), .inl (cI, 23, .inl (fun _ => 0))), (q3, .inr (1, [.null]))] H _) => ?_)
  refine W.widen (k := 3) (n := 25) (Nat.le_of_ble_eq_true rfl) (Nat.le_of_ble_eq_true rfl) ?_
  refine lv_dup hx hb dX5_init_19 rfl ?_
  refine pq_cnC C hh (qX1_init l D cI cL q3) (gnX1_init hs) rfl (List.mem_of_getElem? (i := 3) rfl) rfl kinX1_init kiniRX1 (by decide +kernel) ⟨Nat.le_of_ble_eq_true rfl, Nat.le_of_ble_eq_true rfl⟩ hl.1 rfl (Nat.le_of_ble_eq_true rfl) dX5_init_20 ⟨Nat.le_of_ble_eq_true rfl, Nat.le_of_ble_eq_true rfl⟩ [3] [0, 1, 2] [0, 1, 2, 3, 4] rfl rfl (by decide) (by decide) (by decide) (fun _ => rfl) (fun H locs as4 (hh : pq_H D A s [(th, .inr (4, [.ref q1, .null, .null, .int (0 : Int32)])), (q1, .inr (1, [.ref (as2 0)])), ((as2 0), .inl (cI, 23, .inl (fun _ => 0))), (q3, .inr (1, [.ref (as4 0)])), ((as4 0), .inl (cI, 23, .inl (fun _ => 0)))] H locs) => ?_)
  refine W.widen (k := 4) (n := 48) (Nat.le_of_ble_eq_true rfl) (Nat.le_of_ble_eq_true rfl) ?_
  refine pq_putF (ty := (.object "VoiceDesk$Band")) (v := .ref q3) C hh i5 tyX5 tyX5_ok nmX5 0 4 rfl rfl 1 (by decide) kf18 rfl rfl hin rfl (by decide +kernel) rfl rfl (Nat.le_of_ble_eq_true rfl) dX5_init_23 (fun H locs (hh : pq_H D A s [(th, .inr (4, [.ref q1, .ref q3, .null, .int (0 : Int32)])), (q1, .inr (1, [.ref (as2 0)])), ((as2 0), .inl (cI, 23, .inl (fun _ => 0))), (q3, .inr (1, [.ref (as4 0)])), ((as4 0), .inl (cI, 23, .inl (fun _ => 0)))] H locs) => ?_)
  refine lv_aload_n hx hb dX5_init_26 rfl (lv_at hl 0 rfl) ?_
  refine lv_bipush (v := (24 : Int32)) hx hb dX5_init_27 (by decide) ?_
  refine pq_newa (N := 24) C hh ka (by decide) (by decide) (Nat.le_of_ble_eq_true rfl) (Nat.le_of_ble_eq_true rfl) (Nat.le_of_ble_eq_true rfl) dX5_init_29 (fun q5 H (hh : pq_H D A s [(th, .inr (4, [.ref q1, .ref q3, .null, .int (0 : Int32)])), (q1, .inr (1, [.ref (as2 0)])), ((as2 0), .inl (cI, 23, .inl (fun _ => 0))), (q3, .inr (1, [.ref (as4 0)])), ((as4 0), .inl (cI, 23, .inl (fun _ => 0))), (q5, .inl (cI, 24, .inl (fun _ => 0)))] H _) => ?_)
  refine W.widen (k := 5) (n := 72) (Nat.le_of_ble_eq_true rfl) (Nat.le_of_ble_eq_true rfl) ?_
  refine pq_putF (ty := (.array .int)) (v := .ref q5) C hh i5 tyX5 tyX5_ok nmX5 0 4 rfl rfl 2 (by decide) kf21 rfl rfl hin rfl (by decide +kernel) rfl rfl (Nat.le_of_ble_eq_true rfl) dX5_init_31 (fun H locs (hh : pq_H D A s [(th, .inr (4, [.ref q1, .ref q3, .ref q5, .int (0 : Int32)])), (q1, .inr (1, [.ref (as2 0)])), ((as2 0), .inl (cI, 23, .inl (fun _ => 0))), (q3, .inr (1, [.ref (as4 0)])), ((as4 0), .inl (cI, 23, .inl (fun _ => 0))), (q5, .inl (cI, 24, .inl (fun _ => 0)))] H locs) => ?_)
  refine lv_aload_n hx hb dX5_init_34 rfl (lv_at hl 0 rfl) ?_
  refine lv_iconst (v := (0 : Int32)) hx hb dX5_init_35 (by decide) ?_
  refine pq_put (ty := .int) (v := .int (0 : Int32)) C hh i5 tyX5 tyX5_ok nmX5 0 4 rfl rfl 3 (by decide) kf25 rfl rfl (by decide +kernel) rfl rfl (Nat.le_of_ble_eq_true rfl) dX5_init_36 (fun H locs (hh : pq_H D A s [(th, .inr (4, [.ref q1, .ref q3, .ref q5, .int (0 : Int32)])), (q1, .inr (1, [.ref (as2 0)])), ((as2 0), .inl (cI, 23, .inl (fun _ => 0))), (q3, .inr (1, [.ref (as4 0)])), ((as4 0), .inl (cI, 23, .inl (fun _ => 0))), (q5, .inl (cI, 24, .inl (fun _ => 0)))] H locs) => ?_)
  exact hret _ _ _ ls (fun k => ([q1, (as2 0), q3, (as4 0), q5] : List Nat).getD k 0) hh dX5_init_39
abbrev nX4_init (cI cL : ClassId) (th : Nat) (as : Nat → Nat) : va_W := [(th, .inr (3, [.ref (as 0), .ref (as 2), .ref (as 4), .ref (as 10), .int (-100000 : Int32)])), ((as 0), .inr (0, [.ref (as 1), .int (2 : Int32), .int (0 : Int32), .int (0 : Int32), .int (0 : Int32)])), ((as 1), .inl (cI, 24, .inl (fun _ => 0))), ((as 2), .inr (0, [.ref (as 3), .int (2 : Int32), .int (0 : Int32), .int (0 : Int32), .int (0 : Int32)])), ((as 3), .inl (cI, 24, .inl (fun _ => 0))), ((as 4), .inr (4, [.ref (as 5), .ref (as 7), .ref (as 9), .int (0 : Int32)])), ((as 5), .inr (1, [.ref (as 6)])), ((as 6), .inl (cI, 23, .inl (fun _ => 0))), ((as 7), .inr (1, [.ref (as 8)])), ((as 8), .inl (cI, 23, .inl (fun _ => 0))), ((as 9), .inl (cI, 24, .inl (fun _ => 0))), ((as 10), .inr (4, [.ref (as 11), .ref (as 13), .ref (as 15), .int (0 : Int32)])), ((as 11), .inr (1, [.ref (as 12)])), ((as 12), .inl (cI, 23, .inl (fun _ => 0))), ((as 13), .inr (1, [.ref (as 14)])), ((as 14), .inl (cI, 23, .inl (fun _ => 0))), ((as 15), .inl (cI, 24, .inl (fun _ => 0)))]
set_option maxHeartbeats 8000000 in
set_option maxRecDepth 100000 in
theorem qX4_init (l : Launch) (D : va_G) (cI cL : ClassId) (th : Nat) : pq_CC l yX4_init qsX4_init 3 52 16 210 D cI cL th [(th, .inr (3, [.null, .null, .null, .null, .int (0 : Int32)]))] (nX4_init cI cL th) := by
  refine pq_mkC (cc := cX4_init) (maxL := 1) (by decide) rfl (Nat.le_of_ble_eq_true rfl) ?_
  intro p e s m args below meth c Q A C hh hin hret ls hl
  have hx := C.1
  have hb := C.2.1
  have hml := C.2.2.1
  have hown : s.vm.findClass RX4 = some m.cls := C.2.2.2.1
  have hs : ∀ w ∈ wsL_law, w ∈ qsX4_init := fun _ h => List.mem_cons_of_mem _ h
  have htw : ∀ w ∈ wsL_law, w.before args s = true := fun w h => C.2.2.2.2.1 w (hs w h)
  have hl : lv_has ls 1 [(0, .ref th)] := hl
  have i0 : ∀ w ∈ wsX00, w ∈ qsX4_init := fun w h => hs w (pq_i0 w h)
  have i4 : ∀ w ∈ wsX40, w ∈ qsX4_init := fun w h => hs w (pq_i4 w h)
  have i5 : ∀ w ∈ wsX50, w ∈ qsX4_init := fun w h => hs w (pq_i5 w h)
  have kc31 := htw (.constant RX4 31 (-100000)) (pq_m2 _ (List.mem_of_getElem? (i := 10) rfl))
  have kcl21 := htw (.classLink RX4 21 RX5) (pq_m2 _ (List.mem_of_getElem? (i := 5) rfl))
  have kcl9 := htw (.classLink RX4 9 RX0) (pq_m2 _ (List.mem_of_getElem? (i := 0) rfl))
  have kf12 := htw (.fieldLink RX4 12 "VoiceDesk$Line" "adpcmSpeaker" "LVoiceDesk$Adpcm;") (pq_m2 _ (List.mem_of_getElem? (i := 3) rfl))
  have kf18 := htw (.fieldLink RX4 18 "VoiceDesk$Line" "adpcmHearer" "LVoiceDesk$Adpcm;") (pq_m2 _ (List.mem_of_getElem? (i := 4) rfl))
  have kf24 := htw (.fieldLink RX4 24 "VoiceDesk$Line" "wideSpeaker" "LVoiceDesk$Wideband;") (pq_m2 _ (List.mem_of_getElem? (i := 8) rfl))
  have kf28 := htw (.fieldLink RX4 28 "VoiceDesk$Line" "wideHearer" "LVoiceDesk$Wideband;") (pq_m2 _ (List.mem_of_getElem? (i := 9) rfl))
  have kf32 := htw (.fieldLink RX4 32 "VoiceDesk$Line" "kind" "I") (pq_m2 _ (List.mem_of_getElem? (i := 11) rfl))
  have kinX0_init := htw (.instanceMethod yX0_init) (pq_m2 _ (List.mem_of_getElem? (i := 12) rfl))
  have kinX5_init := htw (.instanceMethod yX5_init) (pq_m2 _ (List.mem_of_getElem? (i := 21) rfl))
  have kiniRX0 := htw (.initialized RX0) (pq_m2 _ (List.mem_of_getElem? (i := 2) rfl))
  have kiniRX5 := htw (.initialized RX5) (pq_m2 _ (List.mem_of_getElem? (i := 7) rfl))
  have kinstRX0 := htw (.instantiable RX0 5) (pq_m2 _ (List.mem_of_getElem? (i := 1) rfl))
  have kinstRX5 := htw (.instantiable RX5 4) (pq_m2 _ (List.mem_of_getElem? (i := 6) rfl))
  have ko := htw (.methodLink RX4 3 objectInit) (pq_m1 _ (List.mem_of_getElem? (i := 23) rfl))
  have koc := htw (.code objectInit ⟨#[0xb1]⟩ 1 none) (pq_m1 _ (List.mem_of_getElem? (i := 11) rfl))
  have koi := htw (.instanceMethod objectInit) (pq_m1 _ (List.mem_of_getElem? (i := 10) rfl))
  refine lv_aload_n hx hb dX4_init_0 rfl (lv_at hl 0 rfl) ?_
  refine W.objInit hx hb hown ko koi koc rfl (by rw [hml]; exact hl.1) rfl dX4_init_1 (Nat.le_of_ble_eq_true rfl) (Nat.le_of_ble_eq_true rfl) ?_
  refine W.eq (g2 := F0 m 4 ls []) rfl ?_
  refine lv_aload_n hx hb dX4_init_4 rfl (lv_at hl 0 rfl) ?_
  refine pq_new (ci := 0) (fs := [.null, .int (0 : Int32), .int (0 : Int32), .int (0 : Int32), .int (0 : Int32)]) C hh i0 tyX0 tyX0_ok kcl9 kinstRX0 kiniRX0 rfl (fun j hj => by rcases (show j = 0 ∨ j = 1 ∨ j = 2 ∨ j = 3 ∨ j = 4 by omega) with rfl | rfl | rfl | rfl | rfl <;> rfl) (Nat.le_of_ble_eq_true rfl) (Nat.le_of_ble_eq_true rfl) dX4_init_5 (fun q1 H (hh : pq_H D A s [(th, .inr (3, [.null, .null, .null, .null, .int (0 : Int32)])), (q1, .inr (0, [.null, .int (0 : Int32), .int (0 : Int32), .int (0 : Int32), .int (0 : Int32)]))] H _) => ?_)
  refine W.widen (k := 1) (n := 5) (Nat.le_of_ble_eq_true rfl) (Nat.le_of_ble_eq_true rfl) ?_
  refine lv_dup hx hb dX4_init_8 rfl ?_
  refine pq_cnC C hh (qX0_init l D cI cL q1) (gnX0_init hs) rfl (List.mem_of_getElem? (i := 1) rfl) rfl kinX0_init kiniRX0 (by decide +kernel) ⟨Nat.le_of_ble_eq_true rfl, Nat.le_of_ble_eq_true rfl⟩ hl.1 rfl (Nat.le_of_ble_eq_true rfl) dX4_init_9 ⟨Nat.le_of_ble_eq_true rfl, Nat.le_of_ble_eq_true rfl⟩ [1] [0] [0, 1, 2] rfl rfl (by decide) (by decide) (by decide) (fun _ => rfl) (fun H locs as2 (hh : pq_H D A s [(th, .inr (3, [.null, .null, .null, .null, .int (0 : Int32)])), (q1, .inr (0, [.ref (as2 0), .int (2 : Int32), .int (0 : Int32), .int (0 : Int32), .int (0 : Int32)])), ((as2 0), .inl (cI, 24, .inl (fun _ => 0)))] H locs) => ?_)
  refine W.widen (k := 2) (n := 29) (Nat.le_of_ble_eq_true rfl) (Nat.le_of_ble_eq_true rfl) ?_
  refine pq_putF (ty := (.object "VoiceDesk$Adpcm")) (v := .ref q1) C hh i4 tyX4 tyX4_ok nmX4 0 3 rfl rfl 0 (by decide) kf12 rfl rfl hin rfl (by decide +kernel) rfl rfl (Nat.le_of_ble_eq_true rfl) dX4_init_12 (fun H locs (hh : pq_H D A s [(th, .inr (3, [.ref q1, .null, .null, .null, .int (0 : Int32)])), (q1, .inr (0, [.ref (as2 0), .int (2 : Int32), .int (0 : Int32), .int (0 : Int32), .int (0 : Int32)])), ((as2 0), .inl (cI, 24, .inl (fun _ => 0)))] H locs) => ?_)
  refine lv_aload_n hx hb dX4_init_15 rfl (lv_at hl 0 rfl) ?_
  refine pq_new (ci := 0) (fs := [.null, .int (0 : Int32), .int (0 : Int32), .int (0 : Int32), .int (0 : Int32)]) C hh i0 tyX0 tyX0_ok kcl9 kinstRX0 kiniRX0 rfl (fun j hj => by rcases (show j = 0 ∨ j = 1 ∨ j = 2 ∨ j = 3 ∨ j = 4 by omega) with rfl | rfl | rfl | rfl | rfl <;> rfl) (Nat.le_of_ble_eq_true rfl) (Nat.le_of_ble_eq_true rfl) dX4_init_16 (fun q3 H (hh : pq_H D A s [(th, .inr (3, [.ref q1, .null, .null, .null, .int (0 : Int32)])), (q1, .inr (0, [.ref (as2 0), .int (2 : Int32), .int (0 : Int32), .int (0 : Int32), .int (0 : Int32)])), ((as2 0), .inl (cI, 24, .inl (fun _ => 0))), (q3, .inr (0, [.null, .int (0 : Int32), .int (0 : Int32), .int (0 : Int32), .int (0 : Int32)]))] H _) => ?_)
  refine W.widen (k := 3) (n := 34) (Nat.le_of_ble_eq_true rfl) (Nat.le_of_ble_eq_true rfl) ?_
  refine lv_dup hx hb dX4_init_19 rfl ?_
  refine pq_cnC C hh (qX0_init l D cI cL q3) (gnX0_init hs) rfl (List.mem_of_getElem? (i := 1) rfl) rfl kinX0_init kiniRX0 (by decide +kernel) ⟨Nat.le_of_ble_eq_true rfl, Nat.le_of_ble_eq_true rfl⟩ hl.1 rfl (Nat.le_of_ble_eq_true rfl) dX4_init_20 ⟨Nat.le_of_ble_eq_true rfl, Nat.le_of_ble_eq_true rfl⟩ [3] [0, 1, 2] [0, 1, 2, 3, 4] rfl rfl (by decide) (by decide) (by decide) (fun _ => rfl) (fun H locs as4 (hh : pq_H D A s [(th, .inr (3, [.ref q1, .null, .null, .null, .int (0 : Int32)])), (q1, .inr (0, [.ref (as2 0), .int (2 : Int32), .int (0 : Int32), .int (0 : Int32), .int (0 : Int32)])), ((as2 0), .inl (cI, 24, .inl (fun _ => 0))), (q3, .inr (0, [.ref (as4 0), .int (2 : Int32), .int (0 : Int32), .int (0 : Int32), .int (0 : Int32)])), ((as4 0), .inl (cI, 24, .inl (fun _ => 0)))] H locs) => ?_)
  refine W.widen (k := 4) (n := 58) (Nat.le_of_ble_eq_true rfl) (Nat.le_of_ble_eq_true rfl) ?_
  refine pq_putF (ty := (.object "VoiceDesk$Adpcm")) (v := .ref q3) C hh i4 tyX4 tyX4_ok nmX4 0 3 rfl rfl 1 (by decide) kf18 rfl rfl hin rfl (by decide +kernel) rfl rfl (Nat.le_of_ble_eq_true rfl) dX4_init_23 (fun H locs (hh : pq_H D A s [(th, .inr (3, [.ref q1, .ref q3, .null, .null, .int (0 : Int32)])), (q1, .inr (0, [.ref (as2 0), .int (2 : Int32), .int (0 : Int32), .int (0 : Int32), .int (0 : Int32)])), ((as2 0), .inl (cI, 24, .inl (fun _ => 0))), (q3, .inr (0, [.ref (as4 0), .int (2 : Int32), .int (0 : Int32), .int (0 : Int32), .int (0 : Int32)])), ((as4 0), .inl (cI, 24, .inl (fun _ => 0)))] H locs) => ?_)
  refine lv_aload_n hx hb dX4_init_26 rfl (lv_at hl 0 rfl) ?_
  refine pq_new (ci := 4) (fs := [.null, .null, .null, .int (0 : Int32)]) C hh i5 tyX5 tyX5_ok kcl21 kinstRX5 kiniRX5 rfl (fun j hj => by rcases (show j = 0 ∨ j = 1 ∨ j = 2 ∨ j = 3 by omega) with rfl | rfl | rfl | rfl <;> rfl) (Nat.le_of_ble_eq_true rfl) (Nat.le_of_ble_eq_true rfl) dX4_init_27 (fun q5 H (hh : pq_H D A s [(th, .inr (3, [.ref q1, .ref q3, .null, .null, .int (0 : Int32)])), (q1, .inr (0, [.ref (as2 0), .int (2 : Int32), .int (0 : Int32), .int (0 : Int32), .int (0 : Int32)])), ((as2 0), .inl (cI, 24, .inl (fun _ => 0))), (q3, .inr (0, [.ref (as4 0), .int (2 : Int32), .int (0 : Int32), .int (0 : Int32), .int (0 : Int32)])), ((as4 0), .inl (cI, 24, .inl (fun _ => 0))), (q5, .inr (4, [.null, .null, .null, .int (0 : Int32)]))] H _) => ?_)
  refine W.widen (k := 5) (n := 62) (Nat.le_of_ble_eq_true rfl) (Nat.le_of_ble_eq_true rfl) ?_
  refine lv_dup hx hb dX4_init_30 rfl ?_
  refine pq_cnC C hh (qX5_init l D cI cL q5) (gnX5_init hs) rfl (List.mem_of_getElem? (i := 2) rfl) rfl kinX5_init kiniRX5 (by decide +kernel) ⟨Nat.le_of_ble_eq_true rfl, Nat.le_of_ble_eq_true rfl⟩ hl.1 rfl (Nat.le_of_ble_eq_true rfl) dX4_init_31 ⟨Nat.le_of_ble_eq_true rfl, Nat.le_of_ble_eq_true rfl⟩ [5] [0, 1, 2, 3, 4] [0, 1, 2, 3, 4, 5, 6, 7, 8, 9, 10] rfl rfl (by decide) (by decide) (by decide) (fun _ => rfl) (fun H locs as6 (hh : pq_H D A s [(th, .inr (3, [.ref q1, .ref q3, .null, .null, .int (0 : Int32)])), (q1, .inr (0, [.ref (as2 0), .int (2 : Int32), .int (0 : Int32), .int (0 : Int32), .int (0 : Int32)])), ((as2 0), .inl (cI, 24, .inl (fun _ => 0))), (q3, .inr (0, [.ref (as4 0), .int (2 : Int32), .int (0 : Int32), .int (0 : Int32), .int (0 : Int32)])), ((as4 0), .inl (cI, 24, .inl (fun _ => 0))), (q5, .inr (4, [.ref (as6 0), .ref (as6 2), .ref (as6 4), .int (0 : Int32)])), ((as6 0), .inr (1, [.ref (as6 1)])), ((as6 1), .inl (cI, 23, .inl (fun _ => 0))), ((as6 2), .inr (1, [.ref (as6 3)])), ((as6 3), .inl (cI, 23, .inl (fun _ => 0))), ((as6 4), .inl (cI, 24, .inl (fun _ => 0)))] H locs) => ?_)
  refine W.widen (k := 10) (n := 134) (Nat.le_of_ble_eq_true rfl) (Nat.le_of_ble_eq_true rfl) ?_
  refine pq_putF (ty := (.object "VoiceDesk$Wideband")) (v := .ref q5) C hh i4 tyX4 tyX4_ok nmX4 0 3 rfl rfl 2 (by decide) kf24 rfl rfl hin rfl (by decide +kernel) rfl rfl (Nat.le_of_ble_eq_true rfl) dX4_init_34 (fun H locs (hh : pq_H D A s [(th, .inr (3, [.ref q1, .ref q3, .ref q5, .null, .int (0 : Int32)])), (q1, .inr (0, [.ref (as2 0), .int (2 : Int32), .int (0 : Int32), .int (0 : Int32), .int (0 : Int32)])), ((as2 0), .inl (cI, 24, .inl (fun _ => 0))), (q3, .inr (0, [.ref (as4 0), .int (2 : Int32), .int (0 : Int32), .int (0 : Int32), .int (0 : Int32)])), ((as4 0), .inl (cI, 24, .inl (fun _ => 0))), (q5, .inr (4, [.ref (as6 0), .ref (as6 2), .ref (as6 4), .int (0 : Int32)])), ((as6 0), .inr (1, [.ref (as6 1)])), ((as6 1), .inl (cI, 23, .inl (fun _ => 0))), ((as6 2), .inr (1, [.ref (as6 3)])), ((as6 3), .inl (cI, 23, .inl (fun _ => 0))), ((as6 4), .inl (cI, 24, .inl (fun _ => 0)))] H locs) => ?_)
  refine lv_aload_n hx hb dX4_init_37 rfl (lv_at hl 0 rfl) ?_
  refine pq_new (ci := 4) (fs := [.null, .null, .null, .int (0 : Int32)]) C hh i5 tyX5 tyX5_ok kcl21 kinstRX5 kiniRX5 rfl (fun j hj => by rcases (show j = 0 ∨ j = 1 ∨ j = 2 ∨ j = 3 by omega) with rfl | rfl | rfl | rfl <;> rfl) (Nat.le_of_ble_eq_true rfl) (Nat.le_of_ble_eq_true rfl) dX4_init_38 (fun q7 H (hh : pq_H D A s [(th, .inr (3, [.ref q1, .ref q3, .ref q5, .null, .int (0 : Int32)])), (q1, .inr (0, [.ref (as2 0), .int (2 : Int32), .int (0 : Int32), .int (0 : Int32), .int (0 : Int32)])), ((as2 0), .inl (cI, 24, .inl (fun _ => 0))), (q3, .inr (0, [.ref (as4 0), .int (2 : Int32), .int (0 : Int32), .int (0 : Int32), .int (0 : Int32)])), ((as4 0), .inl (cI, 24, .inl (fun _ => 0))), (q5, .inr (4, [.ref (as6 0), .ref (as6 2), .ref (as6 4), .int (0 : Int32)])), ((as6 0), .inr (1, [.ref (as6 1)])), ((as6 1), .inl (cI, 23, .inl (fun _ => 0))), ((as6 2), .inr (1, [.ref (as6 3)])), ((as6 3), .inl (cI, 23, .inl (fun _ => 0))), ((as6 4), .inl (cI, 24, .inl (fun _ => 0))), (q7, .inr (4, [.null, .null, .null, .int (0 : Int32)]))] H _) => ?_)
  refine W.widen (k := 11) (n := 138) (Nat.le_of_ble_eq_true rfl) (Nat.le_of_ble_eq_true rfl) ?_
  refine lv_dup hx hb dX4_init_41 rfl ?_
  refine pq_cnC C hh (qX5_init l D cI cL q7) (gnX5_init hs) rfl (List.mem_of_getElem? (i := 2) rfl) rfl kinX5_init kiniRX5 (by decide +kernel) ⟨Nat.le_of_ble_eq_true rfl, Nat.le_of_ble_eq_true rfl⟩ hl.1 rfl (Nat.le_of_ble_eq_true rfl) dX4_init_42 ⟨Nat.le_of_ble_eq_true rfl, Nat.le_of_ble_eq_true rfl⟩ [11] [0, 1, 2, 3, 4, 5, 6, 7, 8, 9, 10] [0, 1, 2, 3, 4, 5, 6, 7, 8, 9, 10, 11, 12, 13, 14, 15, 16] rfl rfl (by decide) (by decide) (by decide) (fun _ => rfl) (fun H locs as8 (hh : pq_H D A s [(th, .inr (3, [.ref q1, .ref q3, .ref q5, .null, .int (0 : Int32)])), (q1, .inr (0, [.ref (as2 0), .int (2 : Int32), .int (0 : Int32), .int (0 : Int32), .int (0 : Int32)])), ((as2 0), .inl (cI, 24, .inl (fun _ => 0))), (q3, .inr (0, [.ref (as4 0), .int (2 : Int32), .int (0 : Int32), .int (0 : Int32), .int (0 : Int32)])), ((as4 0), .inl (cI, 24, .inl (fun _ => 0))), (q5, .inr (4, [.ref (as6 0), .ref (as6 2), .ref (as6 4), .int (0 : Int32)])), ((as6 0), .inr (1, [.ref (as6 1)])), ((as6 1), .inl (cI, 23, .inl (fun _ => 0))), ((as6 2), .inr (1, [.ref (as6 3)])), ((as6 3), .inl (cI, 23, .inl (fun _ => 0))), ((as6 4), .inl (cI, 24, .inl (fun _ => 0))), (q7, .inr (4, [.ref (as8 0), .ref (as8 2), .ref (as8 4), .int (0 : Int32)])), ((as8 0), .inr (1, [.ref (as8 1)])), ((as8 1), .inl (cI, 23, .inl (fun _ => 0))), ((as8 2), .inr (1, [.ref (as8 3)])), ((as8 3), .inl (cI, 23, .inl (fun _ => 0))), ((as8 4), .inl (cI, 24, .inl (fun _ => 0)))] H locs) => ?_)
  refine W.widen (k := 16) (n := 210) (Nat.le_of_ble_eq_true rfl) (Nat.le_of_ble_eq_true rfl) ?_
  refine pq_putF (ty := (.object "VoiceDesk$Wideband")) (v := .ref q7) C hh i4 tyX4 tyX4_ok nmX4 0 3 rfl rfl 3 (by decide) kf28 rfl rfl hin rfl (by decide +kernel) rfl rfl (Nat.le_of_ble_eq_true rfl) dX4_init_45 (fun H locs (hh : pq_H D A s [(th, .inr (3, [.ref q1, .ref q3, .ref q5, .ref q7, .int (0 : Int32)])), (q1, .inr (0, [.ref (as2 0), .int (2 : Int32), .int (0 : Int32), .int (0 : Int32), .int (0 : Int32)])), ((as2 0), .inl (cI, 24, .inl (fun _ => 0))), (q3, .inr (0, [.ref (as4 0), .int (2 : Int32), .int (0 : Int32), .int (0 : Int32), .int (0 : Int32)])), ((as4 0), .inl (cI, 24, .inl (fun _ => 0))), (q5, .inr (4, [.ref (as6 0), .ref (as6 2), .ref (as6 4), .int (0 : Int32)])), ((as6 0), .inr (1, [.ref (as6 1)])), ((as6 1), .inl (cI, 23, .inl (fun _ => 0))), ((as6 2), .inr (1, [.ref (as6 3)])), ((as6 3), .inl (cI, 23, .inl (fun _ => 0))), ((as6 4), .inl (cI, 24, .inl (fun _ => 0))), (q7, .inr (4, [.ref (as8 0), .ref (as8 2), .ref (as8 4), .int (0 : Int32)])), ((as8 0), .inr (1, [.ref (as8 1)])), ((as8 1), .inl (cI, 23, .inl (fun _ => 0))), ((as8 2), .inr (1, [.ref (as8 3)])), ((as8 3), .inl (cI, 23, .inl (fun _ => 0))), ((as8 4), .inl (cI, 24, .inl (fun _ => 0)))] H locs) => ?_)
  refine lv_aload_n hx hb dX4_init_48 rfl (lv_at hl 0 rfl) ?_
  refine lv_ldc (v := (-100000 : Int32)) hx hb hown kc31 dX4_init_49 ?_
  refine pq_put (ty := .int) (v := .int (-100000 : Int32)) C hh i4 tyX4 tyX4_ok nmX4 0 3 rfl rfl 4 (by decide) kf32 rfl rfl (by decide +kernel) rfl rfl (Nat.le_of_ble_eq_true rfl) dX4_init_51 (fun H locs (hh : pq_H D A s [(th, .inr (3, [.ref q1, .ref q3, .ref q5, .ref q7, .int (-100000 : Int32)])), (q1, .inr (0, [.ref (as2 0), .int (2 : Int32), .int (0 : Int32), .int (0 : Int32), .int (0 : Int32)])), ((as2 0), .inl (cI, 24, .inl (fun _ => 0))), (q3, .inr (0, [.ref (as4 0), .int (2 : Int32), .int (0 : Int32), .int (0 : Int32), .int (0 : Int32)])), ((as4 0), .inl (cI, 24, .inl (fun _ => 0))), (q5, .inr (4, [.ref (as6 0), .ref (as6 2), .ref (as6 4), .int (0 : Int32)])), ((as6 0), .inr (1, [.ref (as6 1)])), ((as6 1), .inl (cI, 23, .inl (fun _ => 0))), ((as6 2), .inr (1, [.ref (as6 3)])), ((as6 3), .inl (cI, 23, .inl (fun _ => 0))), ((as6 4), .inl (cI, 24, .inl (fun _ => 0))), (q7, .inr (4, [.ref (as8 0), .ref (as8 2), .ref (as8 4), .int (0 : Int32)])), ((as8 0), .inr (1, [.ref (as8 1)])), ((as8 1), .inl (cI, 23, .inl (fun _ => 0))), ((as8 2), .inr (1, [.ref (as8 3)])), ((as8 3), .inl (cI, 23, .inl (fun _ => 0))), ((as8 4), .inl (cI, 24, .inl (fun _ => 0)))] H locs) => ?_)
  exact hret _ _ _ ls (fun k => ([q1, (as2 0), q3, (as4 0), q5, (as6 0), (as6 1), (as6 2), (as6 3), (as6 4), q7, (as8 0), (as8 1), (as8 2), (as8 3), (as8 4)] : List Nat).getD k 0) hh dX4_init_54
