def dk_L0 : dk_Ln := (fun j => ([-100000, 2, 0, 0, 0, 2, 0, 0, 0, 0, 0] : List Int32).getD j 0, fun _ _ => 0)
def dk_S0 : dk_S := (fun _ => dk_L0, ((fun _ => 0), 0), ((fun _ => 0), 0))
def dk_as (q1 : Nat) (b : Nat → Nat) (a : Nat → Nat → Nat) (t : Nat → Nat) : Nat → Nat := fun j => if j = 0 then q1 else if j < 69 then (if (j - 1) % 17 = 0 then b ((j - 1) / 17) else a ((j - 1) / 17) ((j - 1) % 17 - 1)) else t (j - 69)
abbrev dk_c0 (th : Nat) (fs : List Value) : Nat × va_E := (th, .inr (5, fs))
abbrev dk_c1 (cL : ClassId) (q1 : Nat) (f : Nat → Option Nat) : Nat × va_E := (q1, .inl (cL, 4, .inr (.inr (.inr (.inr f)))))
section X6L
variable {p : Program} {l : Launch} {e : Env} {s : State} {m : MethodId} {args : Array Value} {below : List Frame} {meth : Method} {c : Code} {H : Heap} {locs : List Loc} {Q : State → Prop} {ls : Array Slot} {D : va_G} {A : Nat → Prop} {cI cL : ClassId} {th q1 : Nat} {f : Nat → Option Nat} {Wl : va_W}
set_option maxHeartbeats 4000000 in
set_option maxRecDepth 100000 in
/-- one line is made -/
theorem dk_line (C : pq_Cx p c m cX6_init 2 s args qsX6_init RX6 D cI cL A) {k : Nat} (hk : k < 4) (hh : pq_H D A s (dk_c0 th [.ref q1, .null, .null] :: dk_c1 cL q1 f :: Wl) H locs) (hl : lv_has ls 2 [(1, .int (nI k)), (0, .ref th)])
    (kk : ∀ (H : Heap) (locs : List Loc) (ls : Array Slot) (q : Nat) (as : Nat → Nat), pq_H D A s (dk_c0 th [.ref q1, .null, .null] :: dk_c1 cL q1 (va_up f k (some q)) :: (Wl ++ nX4_init cI cL q as)) H locs → lv_has ls 2 [(1, .int (nI (k + 1))), (0, .ref th)] → W p l e { frames := 4, cells := 73, slots := 2868, locals := 72 } s m args below meth c H locs (1 + 17 * (k + 1)) (4 + 215 * (k + 1)) Q (F0 m 14 ls [])) : W p l e { frames := 4, cells := 73, slots := 2868, locals := 72 } s m args below meth c H locs (1 + 17 * k) (4 + 215 * k) Q (F0 m 14 ls []) := by
  have hx := C.1
  have hb := C.2.1
  have hml := C.2.2.1
  have hown : s.vm.findClass RX6 = some m.cls := C.2.2.2.1
  have hs : ∀ w ∈ wsL_law, w ∈ qsX6_init := fun _ h => List.mem_cons_of_mem _ h
  have htw : ∀ w ∈ wsL_law, w.before args s = true := fun w h => C.2.2.2.2.1 w (hs w h)
  have i2 : ∀ w ∈ wsX20, w ∈ qsX6_init := fun w h => hs w (pq_i2 w h)
  have i4 : ∀ w ∈ wsX40, w ∈ qsX6_init := fun w h => hs w (pq_i4 w h)
  have i6 : ∀ w ∈ wsX60, w ∈ qsX6_init := fun w h => hs w (pq_i6 w h)
  have kcl16 := htw (.classLink RX6 16 RX2) (pq_m1 _ (List.mem_of_getElem? (i := 16) rfl))
  have kcl9 := htw (.classLink RX6 9 RX4) (pq_m1 _ (List.mem_of_getElem? (i := 12) rfl))
  have kf11 := htw (.fieldLink RX6 11 "VoiceDesk" "lines" "[LVoiceDesk$Line;") (pq_m1 _ (List.mem_of_getElem? (i := 13) rfl))
  have kf19 := htw (.fieldLink RX6 19 "VoiceDesk" "tape" "LVoiceDesk$Bytes;") (pq_m1 _ (List.mem_of_getElem? (i := 19) rfl))
  have kf23 := htw (.fieldLink RX6 23 "VoiceDesk" "result" "LVoiceDesk$Bytes;") (pq_m1 _ (List.mem_of_getElem? (i := 20) rfl))
  have kinX2_init := htw (.instanceMethod yX2_init) (pq_m3 _ (List.mem_of_getElem? (i := 11) rfl))
  have kinX4_init := htw (.instanceMethod yX4_init) (pq_m1 _ (List.mem_of_getElem? (i := 21) rfl))
  have kiniRX2 := htw (.initialized RX2) (pq_m1 _ (List.mem_of_getElem? (i := 18) rfl))
  have kiniRX4 := htw (.initialized RX4) (pq_m1 _ (List.mem_of_getElem? (i := 15) rfl))
  have kinstRX2 := htw (.instantiable RX2 2) (pq_m1 _ (List.mem_of_getElem? (i := 17) rfl))
  have kinstRX4 := htw (.instantiable RX4 5) (pq_m1 _ (List.mem_of_getElem? (i := 14) rfl))
  have ko := htw (.methodLink RX6 1 objectInit) (pq_m1 _ (List.mem_of_getElem? (i := 9) rfl))
  have koc := htw (.code objectInit ⟨#[0xb1]⟩ 1 none) (pq_m1 _ (List.mem_of_getElem? (i := 11) rfl))
  have koi := htw (.instanceMethod objectInit) (pq_m1 _ (List.mem_of_getElem? (i := 10) rfl))
  refine lv_iload_n hx hb dX6_init_14 rfl (lv_at hl 0 rfl) ?_
  refine lv_iconst (v := (4 : Int32)) hx hb dX6_init_15 (by decide) ?_
  refine lv_icmp_ge (tgt := 38) hx hb dX6_init_16 (by decide) (fun h => absurd h (by rcases (show k = 0 ∨ k = 1 ∨ k = 2 ∨ k = 3 by omega) with rfl | rfl | rfl | rfl <;> decide)) (fun _ => ?_)
  refine lv_aload_n hx hb dX6_init_19 rfl (lv_at hl 1 rfl) ?_
  refine pq_get C hh i6 0 5 rfl rfl 0 (by decide) kf11 rfl rfl dX6_init_20 ?_
  refine lv_iload_n hx hb dX6_init_23 rfl (lv_at hl 0 rfl) ?_
  refine pq_new (ci := 3) (fs := [.null, .null, .null, .null, .int (0 : Int32)]) C hh i4 tyX4 tyX4_ok kcl9 kinstRX4 kiniRX4 rfl (fun j hj => by rcases (show j = 0 ∨ j = 1 ∨ j = 2 ∨ j = 3 ∨ j = 4 by omega) with rfl | rfl | rfl | rfl | rfl <;> rfl) (show 1 + 17 * k + 1 ≤ 73 by omega) (show 4 + 215 * k + 5 ≤ 2868 by omega) dX6_init_24 (fun q H hh => ?_)
  refine lv_dup hx hb dX6_init_27 rfl ?_
  refine pq_cnCL C hh (qX4_init l D cI cL q) (gnX4_init hs) rfl (List.mem_of_getElem? (i := 0) rfl) rfl kinX4_init kiniRX4 (by decide +kernel) ⟨Nat.le_of_ble_eq_true rfl, Nat.le_of_ble_eq_true rfl⟩ hl.1 rfl (Nat.le_of_ble_eq_true rfl) dX6_init_28 ⟨show 1 + 17 * k + 1 + 16 ≤ 73 by omega, show 4 + 215 * k + 5 + 210 ≤ 2868 by omega⟩ (fun H locs as hh => ?_)
  refine pq_aastM C hh 1 rfl (List.mem_cons_of_mem _ (List.mem_cons_of_mem _ (List.mem_append_right _ List.mem_cons_self))) (vp_in_nI hk (by decide)) dX6_init_31 (fun H locs hh => ?_)
  rw [nI_clamp (n := k) (by omega)] at hh
  refine lv_iinc (v := nI (k + 1)) (lv' := [(1, .int (nI (k + 1))), (0, .ref th)]) hx hb dX6_init_32 hl (k := 0) rfl (by show nI k + nI 1 = _; rw [nI_add]) (by decide) rfl (fun ls hl => ?_)
  refine lv_goto (tgt := 14) hx hb dX6_init_35 (by decide) ?_
  refine W.widen (k := 1 + 17 * (k + 1)) (n := 4 + 215 * (k + 1)) (by omega) (by omega) ?_
  exact kk H locs ls q as hh hl
set_option maxHeartbeats 4000000 in
set_option maxRecDepth 100000 in
/-- the two rows of bytes are made -/
theorem dk_bytes (C : pq_Cx p c m cX6_init 2 s args qsX6_init RX6 D cI cL A) (hin : meth.name = "<init>") (hh : pq_H D A s (dk_c0 th [.ref q1, .null, .null] :: dk_c1 cL q1 f :: Wl) H locs) (hl : lv_has ls 2 [(1, .int (nI 4)), (0, .ref th)])
    (kk : ∀ (H : Heap) (locs : List Loc) (ls : Array Slot) (t1 t2 : Nat) (a1 a2 : Nat → Nat), pq_H D A s (dk_c0 th [.ref q1, .ref t1, .ref t2] :: dk_c1 cL q1 f :: ((Wl ++ nX2_init cI cL t1 a1) ++ nX2_init cI cL t2 a2)) H locs → W p l e { frames := 4, cells := 73, slots := 2868, locals := 72 } s m args below meth c H locs 73 2868 Q (F0 m 60 ls [])) : W p l e { frames := 4, cells := 73, slots := 2868, locals := 72 } s m args below meth c H locs 69 864 Q (F0 m 14 ls []) := by
  have hx := C.1
  have hb := C.2.1
  have hml := C.2.2.1
  have hown : s.vm.findClass RX6 = some m.cls := C.2.2.2.1
  have hs : ∀ w ∈ wsL_law, w ∈ qsX6_init := fun _ h => List.mem_cons_of_mem _ h
  have htw : ∀ w ∈ wsL_law, w.before args s = true := fun w h => C.2.2.2.2.1 w (hs w h)
  have i2 : ∀ w ∈ wsX20, w ∈ qsX6_init := fun w h => hs w (pq_i2 w h)
  have i4 : ∀ w ∈ wsX40, w ∈ qsX6_init := fun w h => hs w (pq_i4 w h)
  have i6 : ∀ w ∈ wsX60, w ∈ qsX6_init := fun w h => hs w (pq_i6 w h)
  have kcl16 := htw (.classLink RX6 16 RX2) (pq_m1 _ (List.mem_of_getElem? (i := 16) rfl))
  have kcl9 := htw (.classLink RX6 9 RX4) (pq_m1 _ (List.mem_of_getElem? (i := 12) rfl))
  have kf11 := htw (.fieldLink RX6 11 "VoiceDesk" "lines" "[LVoiceDesk$Line;") (pq_m1 _ (List.mem_of_getElem? (i := 13) rfl))
  have kf19 := htw (.fieldLink RX6 19 "VoiceDesk" "tape" "LVoiceDesk$Bytes;") (pq_m1 _ (List.mem_of_getElem? (i := 19) rfl))
  have kf23 := htw (.fieldLink RX6 23 "VoiceDesk" "result" "LVoiceDesk$Bytes;") (pq_m1 _ (List.mem_of_getElem? (i := 20) rfl))
  have kinX2_init := htw (.instanceMethod yX2_init) (pq_m3 _ (List.mem_of_getElem? (i := 11) rfl))
  have kinX4_init := htw (.instanceMethod yX4_init) (pq_m1 _ (List.mem_of_getElem? (i := 21) rfl))
  have kiniRX2 := htw (.initialized RX2) (pq_m1 _ (List.mem_of_getElem? (i := 18) rfl))
  have kiniRX4 := htw (.initialized RX4) (pq_m1 _ (List.mem_of_getElem? (i := 15) rfl))
  have kinstRX2 := htw (.instantiable RX2 2) (pq_m1 _ (List.mem_of_getElem? (i := 17) rfl))
  have kinstRX4 := htw (.instantiable RX4 5) (pq_m1 _ (List.mem_of_getElem? (i := 14) rfl))
  have ko := htw (.methodLink RX6 1 objectInit) (pq_m1 _ (List.mem_of_getElem? (i := 9) rfl))
  have koc := htw (.code objectInit ⟨#[0xb1]⟩ 1 none) (pq_m1 _ (List.mem_of_getElem? (i := 11) rfl))
  have koi := htw (.instanceMethod objectInit) (pq_m1 _ (List.mem_of_getElem? (i := 10) rfl))
  refine lv_iload_n hx hb dX6_init_14 rfl (lv_at hl 0 rfl) ?_
  refine lv_iconst (v := (4 : Int32)) hx hb dX6_init_15 (by decide) ?_
  refine lv_icmp_ge (tgt := 38) hx hb dX6_init_16 (by decide) (fun _ => ?_) (fun h => absurd (by decide) h)
  refine lv_aload_n hx hb dX6_init_38 rfl (lv_at hl 1 rfl) ?_
  refine pq_new (ci := 2) (fs := [.null, .int (0 : Int32)]) C hh i2 tyX2 tyX2_ok kcl16 kinstRX2 kiniRX2 rfl (fun j hj => by rcases (show j = 0 ∨ j = 1 by omega) with rfl | rfl <;> rfl) (Nat.le_of_ble_eq_true rfl) (Nat.le_of_ble_eq_true rfl) dX6_init_39 (fun t1 H hh => ?_)
  refine lv_dup hx hb dX6_init_42 rfl ?_
  refine pq_cnCL C hh (qX2_init l D cI cL t1) (gnX2_init hs) rfl (List.mem_of_getElem? (i := 4) rfl) rfl kinX2_init kiniRX2 (by decide +kernel) ⟨Nat.le_of_ble_eq_true rfl, Nat.le_of_ble_eq_true rfl⟩ hl.1 rfl (Nat.le_of_ble_eq_true rfl) dX6_init_43 ⟨Nat.le_of_ble_eq_true rfl, Nat.le_of_ble_eq_true rfl⟩ (fun H locs a1 hh => ?_)
  refine pq_putF (ty := (.object "VoiceDesk$Bytes")) (v := .ref t1) C hh i6 tyX6 tyX6_ok nmX6 0 5 rfl rfl 1 (by decide) kf19 rfl rfl hin rfl (by decide +kernel) rfl rfl (Nat.le_of_ble_eq_true rfl) dX6_init_46 (fun H locs (hh : pq_H D A s (dk_c0 th [.ref q1, .ref t1, .null] :: dk_c1 cL q1 f :: (Wl ++ nX2_init cI cL t1 a1)) H locs) => ?_)
  refine lv_aload_n hx hb dX6_init_49 rfl (lv_at hl 1 rfl) ?_
  refine pq_new (ci := 2) (fs := [.null, .int (0 : Int32)]) C hh i2 tyX2 tyX2_ok kcl16 kinstRX2 kiniRX2 rfl (fun j hj => by rcases (show j = 0 ∨ j = 1 by omega) with rfl | rfl <;> rfl) (Nat.le_of_ble_eq_true rfl) (Nat.le_of_ble_eq_true rfl) dX6_init_50 (fun t2 H hh => ?_)
  refine lv_dup hx hb dX6_init_53 rfl ?_
  refine pq_cnCL C hh (qX2_init l D cI cL t2) (gnX2_init hs) rfl (List.mem_of_getElem? (i := 4) rfl) rfl kinX2_init kiniRX2 (by decide +kernel) ⟨Nat.le_of_ble_eq_true rfl, Nat.le_of_ble_eq_true rfl⟩ hl.1 rfl (Nat.le_of_ble_eq_true rfl) dX6_init_54 ⟨Nat.le_of_ble_eq_true rfl, Nat.le_of_ble_eq_true rfl⟩ (fun H locs a2 hh => ?_)
  refine pq_putF (ty := (.object "VoiceDesk$Bytes")) (v := .ref t2) C hh i6 tyX6 tyX6_ok nmX6 0 5 rfl rfl 2 (by decide) kf23 rfl rfl hin rfl (by decide +kernel) rfl rfl (Nat.le_of_ble_eq_true rfl) dX6_init_57 (fun H locs (hh : pq_H D A s (dk_c0 th [.ref q1, .ref t1, .ref t2] :: dk_c1 cL q1 f :: ((Wl ++ nX2_init cI cL t1 a1) ++ nX2_init cI cL t2 a2)) H locs) => ?_)
  refine W.widen (k := 73) (n := 2868) (Nat.le_of_ble_eq_true rfl) (Nat.le_of_ble_eq_true rfl) ?_
  exact kk H locs ls t1 t2 a1 a2 hh
end X6L
theorem dk_pm {α : Type} (c0 c1 : α) (a b c d s t : List α) : List.Perm (c0 :: c1 :: (((((([] ++ a) ++ b) ++ c) ++ d) ++ s) ++ t)) (c0 :: c1 :: ((s ++ t) ++ (a ++ (b ++ (c ++ d))))) := by
  refine List.Perm.cons _ (List.Perm.cons _ ?_)
  have h : (((((([] ++ a) ++ b) ++ c) ++ d) ++ s) ++ t : List α) = (a ++ (b ++ (c ++ d))) ++ (s ++ t) := by simp [List.append_assoc]
  rw [h]
  exact List.perm_append_comm
theorem dk_cell {D : va_G} {A : Nat → Prop} {s : State} {c0 : Nat × va_E} {cL : ClassId} {q1 : Nat} {f f' : Nat → Option Nat} {Wl : va_W} {H : Heap} {locs : List Loc} (he : ∀ j, j < 4 → f j = f' j) (hh : pq_H D A s (c0 :: dk_c1 cL q1 f :: Wl) H locs) : pq_H D A s (c0 :: dk_c1 cL q1 f' :: Wl) H locs := by
  refine ⟨?_, ?_, hh.2.2⟩
  · intro k q hk
    match k with
    | 0 => exact hh.1 0 q hk
    | 1 =>
      have h1 := hh.1 1 _ rfl
      obtain rfl := Option.some.inj hk
      show H[q1]? = some (arrV cL 4 (fun j => va_rf (f' j)))
      have h2 : H[q1]? = some (arrV cL 4 (fun j => va_rf (f j))) := h1
      rw [h2]
      have : (arrV cL 4 (fun j => va_rf (f j))) = arrV cL 4 (fun j => va_rf (f' j)) := by
        unfold arrV
        congr 2
        funext j
        show va_rf (f j.val) = va_rf (f' j.val)
        rw [he j.val j.isLt]
      rw [this]
    | k + 2 => exact hh.1 (k + 2) q hk
  · have h1 := pq_D_iff.mp hh.2.1
    refine pq_D_iff.mpr ⟨h1.1, fun q hq => ?_⟩
    rcases List.mem_cons.mp hq with rfl | hq
    · exact h1.2 _ List.mem_cons_self
    · rcases List.mem_cons.mp hq with rfl | hq
      · exact h1.2 (dk_c1 cL q1 f) (List.mem_cons_of_mem _ List.mem_cons_self)
      · exact h1.2 q (List.mem_cons_of_mem _ (List.mem_cons_of_mem _ hq))
set_option maxHeartbeats 8000000 in
set_option maxRecDepth 100000 in
theorem qX6_init (l : Launch) (D : va_G) (cI cL : ClassId) (th : Nat) : pq_CC l yX6_init qsX6_init 4 72 73 2868 D cI cL th [(th, .inr (5, [.null, .null, .null]))] (fun as => wD cI cL th as dk_S0) := by
  refine pq_mkC (cc := cX6_init) (maxL := 2) (by decide) rfl (Nat.le_of_ble_eq_true rfl) ?_
  intro p e s m args below meth c Q A C hh hin hret ls hl
  have hx := C.1
  have hb := C.2.1
  have hml := C.2.2.1
  have hown : s.vm.findClass RX6 = some m.cls := C.2.2.2.1
  have hs : ∀ w ∈ wsL_law, w ∈ qsX6_init := fun _ h => List.mem_cons_of_mem _ h
  have htw : ∀ w ∈ wsL_law, w.before args s = true := fun w h => C.2.2.2.2.1 w (hs w h)
  have i2 : ∀ w ∈ wsX20, w ∈ qsX6_init := fun w h => hs w (pq_i2 w h)
  have i4 : ∀ w ∈ wsX40, w ∈ qsX6_init := fun w h => hs w (pq_i4 w h)
  have i6 : ∀ w ∈ wsX60, w ∈ qsX6_init := fun w h => hs w (pq_i6 w h)
  have kcl16 := htw (.classLink RX6 16 RX2) (pq_m1 _ (List.mem_of_getElem? (i := 16) rfl))
  have kcl9 := htw (.classLink RX6 9 RX4) (pq_m1 _ (List.mem_of_getElem? (i := 12) rfl))
  have kf11 := htw (.fieldLink RX6 11 "VoiceDesk" "lines" "[LVoiceDesk$Line;") (pq_m1 _ (List.mem_of_getElem? (i := 13) rfl))
  have kf19 := htw (.fieldLink RX6 19 "VoiceDesk" "tape" "LVoiceDesk$Bytes;") (pq_m1 _ (List.mem_of_getElem? (i := 19) rfl))
  have kf23 := htw (.fieldLink RX6 23 "VoiceDesk" "result" "LVoiceDesk$Bytes;") (pq_m1 _ (List.mem_of_getElem? (i := 20) rfl))
  have kinX2_init := htw (.instanceMethod yX2_init) (pq_m3 _ (List.mem_of_getElem? (i := 11) rfl))
  have kinX4_init := htw (.instanceMethod yX4_init) (pq_m1 _ (List.mem_of_getElem? (i := 21) rfl))
  have kiniRX2 := htw (.initialized RX2) (pq_m1 _ (List.mem_of_getElem? (i := 18) rfl))
  have kiniRX4 := htw (.initialized RX4) (pq_m1 _ (List.mem_of_getElem? (i := 15) rfl))
  have kinstRX2 := htw (.instantiable RX2 2) (pq_m1 _ (List.mem_of_getElem? (i := 17) rfl))
  have kinstRX4 := htw (.instantiable RX4 5) (pq_m1 _ (List.mem_of_getElem? (i := 14) rfl))
  have ko := htw (.methodLink RX6 1 objectInit) (pq_m1 _ (List.mem_of_getElem? (i := 9) rfl))
  have koc := htw (.code objectInit ⟨#[0xb1]⟩ 1 none) (pq_m1 _ (List.mem_of_getElem? (i := 11) rfl))
  have koi := htw (.instanceMethod objectInit) (pq_m1 _ (List.mem_of_getElem? (i := 10) rfl))
  have hl : lv_has ls 2 [(0, .ref th)] := hl
  refine lv_aload_n hx hb dX6_init_0 rfl (lv_at hl 0 rfl) ?_
  refine W.objInit hx hb hown ko koi koc rfl (by rw [hml]; exact hl.1) rfl dX6_init_1 (Nat.le_of_ble_eq_true rfl) (Nat.le_of_ble_eq_true rfl) ?_
  refine W.eq (g2 := F0 m 4 ls []) rfl ?_
  refine lv_aload_n hx hb dX6_init_4 rfl (lv_at hl 0 rfl) ?_
  refine lv_iconst (v := (4 : Int32)) hx hb dX6_init_5 (by decide) ?_
  refine pq_newq (N := 4) C hh kcl9 (by decide) (by decide) (Nat.le_of_ble_eq_true rfl) (Nat.le_of_ble_eq_true rfl) (Nat.le_of_ble_eq_true rfl) dX6_init_6 (fun q1 H hh => ?_)
  refine W.widen (k := 1) (n := 4) (Nat.le_of_ble_eq_true rfl) (Nat.le_of_ble_eq_true rfl) ?_
  refine pq_putF (ty := (.array (.object "VoiceDesk$Line"))) (v := .ref q1) C hh i6 tyX6 tyX6_ok nmX6 0 5 rfl rfl 0 (by decide) kf11 rfl rfl hin rfl (by decide +kernel) rfl rfl (Nat.le_of_ble_eq_true rfl) dX6_init_9 (fun H locs (hh : pq_H D A s (dk_c0 th [.ref q1, .null, .null] :: dk_c1 cL q1 (fun _ => none) :: []) H locs) => ?_)
  refine lv_iconst (v := (0 : Int32)) hx hb dX6_init_12 (by decide) ?_
  refine lv_istore_n (lv' := [(1, .int (nI 0)), (0, .ref th)]) hx hb dX6_init_13 rfl hl (by decide) rfl (fun ls hl => ?_)
  refine dk_line (k := 0) C (by omega) hh hl (fun H locs ls b0 s0 hh hl => ?_)
  refine dk_line (k := 1) C (by omega) hh hl (fun H locs ls b1 s1 hh hl => ?_)
  refine dk_line (k := 2) C (by omega) hh hl (fun H locs ls b2 s2 hh hl => ?_)
  refine dk_line (k := 3) C (by omega) hh hl (fun H locs ls b3 s3 hh hl => ?_)
  refine dk_bytes C hin hh hl (fun H locs ls t1 t2 a1 a2 hh => ?_)
  have hh := pq_Hp (dk_pm ..) (dk_cell (f' := fun j => some (dk_as q1 (fun k => ([b0, b1, b2, b3] : List Nat).getD k 0) (fun k => ([s0, s1, s2, s3] : List (Nat → Nat)).getD k s0) (fun k => ([t1, a1 0, t2, a2 0] : List Nat).getD k 0) (1 + 17 * j))) (by
    intro j hj
    rcases (show j = 0 ∨ j = 1 ∨ j = 2 ∨ j = 3 by omega) with rfl | rfl | rfl | rfl <;> rfl) hh)
  exact hret _ _ _ ls (dk_as q1 (fun k => ([b0, b1, b2, b3] : List Nat).getD k 0) (fun k => ([s0, s1, s2, s3] : List (Nat → Nat)).getD k s0) (fun k => ([t1, a1 0, t2, a2 0] : List Nat).getD k 0)) hh dX6_init_60
