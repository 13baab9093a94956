def tabW (K n : String) (N : Nat) (f : Nat → Int32) : List Cond := Cond.isRef (.static K n "[I") :: Cond.arrayOf (.static K n "[I") .int :: Cond.eq (.length (.static K n "[I")) (.int (Int32.ofNat N)) :: (List.range N).map (fun j => Cond.eq (.elem (.static K n "[I") (.int (Int32.ofNat j))) (.int (f j)))
set_option maxRecDepth 100000 in
set_option maxHeartbeats 4000000 in
theorem nw_eq : ((flatC (Jvm.Cond.and given_1 narrow_1)).drop 4).take 364 = pq_tabs.flatMap (fun q => tabW q.1 q.2.1 q.2.2.1 q.2.2.2) := by decide +kernel
theorem nw_tab {b : Nat} {s : State} (hgv : (Jvm.Cond.and given_1 narrow_1).before #[Value.ref b] s = true) : ∀ q ∈ pq_tabs, ∀ w ∈ tabW q.1 q.2.1 q.2.2.1 q.2.2.2, w.before #[Value.ref b] s = true := by
  intro q hq w hw
  have h : w ∈ pq_tabs.flatMap (fun q => tabW q.1 q.2.1 q.2.2.1 q.2.2.2) := List.mem_flatMap.mpr ⟨q, hq, hw⟩
  rw [← nw_eq] at h
  exact flat_of_before _ hgv w (List.mem_of_mem_drop (List.mem_of_mem_take h))
set_option maxRecDepth 100000 in
theorem nw_st : ∀ q ∈ pq_tabs, Cond.laysStatic q.1 q.2.1 "[I" ∈ lw_tbl ∧ Cond.initialized q.1 ∈ lw_tbl := by decide +kernel
theorem nw_sz : ∀ q ∈ pq_tabs, q.2.2.1 < 2 ^ 31 := by decide
set_option maxRecDepth 100000 in
theorem nw_nM : ∀ w ∈ pq_nestM, Cond.methodLinkNest w.1 w.2.1 w.2.2.1 w.2.2.2 ∈ lw_tbl := by decide +kernel
set_option maxRecDepth 100000 in
theorem nw_nF : ∀ w ∈ pq_nestF, Cond.fieldLinkNest w.1 w.2.1 w.2.2.1 w.2.2.2.1 w.2.2.2.2.1 w.2.2.2.2.2 ∈ lw_tbl := by decide +kernel
set_option maxRecDepth 100000 in
theorem nw_ao : Cond.arrayOver (.object RX4) ∈ lw_tbl := by decide +kernel
theorem nw_G {b : Nat} {s : State} (hts : ∀ w ∈ lw_tbl, w.before #[Value.ref b] s = true) (hgv : (Jvm.Cond.and given_1 narrow_1).before #[Value.ref b] s = true) : pq_G (fun q : Nat => s.heap.size ≤ q) s s.heap := by
  have hA : ∀ a : Nat, a < s.heap.size → ¬ (fun q : Nat => s.heap.size ≤ q) a := fun a h => Nat.not_le.mpr h
  refine ⟨fun w hw => va_Nw.of rfl (hts _ (nw_nM w hw)), fun w hw => va_Nw.of rfl (hts _ (nw_nF w hw)), fun q hq => ?_, va_AO.of (hts _ nw_ao)⟩
  have h := nw_tab hgv q hq
  obtain ⟨K, n, N, f⟩ := q
  have h1 : (Cond.arrayOf (.static K n "[I") .int).before #[Value.ref b] s = true := h _ (List.mem_cons_of_mem _ List.mem_cons_self)
  have h2 : (Cond.eq (.length (.static K n "[I")) (.int (Int32.ofNat N))).before #[Value.ref b] s = true := h _ (List.mem_cons_of_mem _ (List.mem_cons_of_mem _ List.mem_cons_self))
  have h3 : ∀ j, j < N → (Cond.eq (.elem (.static K n "[I") (.int (Int32.ofNat j))) (.int (f j))).before #[Value.ref b] s = true := fun j hj => h _ (List.mem_cons_of_mem _ (List.mem_cons_of_mem _ (List.mem_cons_of_mem _ (List.mem_map.mpr ⟨j, List.mem_range.mpr hj, rfl⟩))))
  obtain ⟨t, g1, g2⟩ := va_Tof (f := fun j => .int (f j)) (nw_sz _ hq) h1 (va_eqt h2) (fun j hj => va_eqt (h3 j hj)) hA
  exact ⟨t, va_Zof (hts _ (nw_st _ hq).1) (hts _ (nw_st _ hq).2) g1 hA, g2⟩
set_option maxHeartbeats 4000000 in
set_option maxRecDepth 100000 in
/-- the tables' words give each class's number and slots -/
theorem nw_K {b : Nat} {s : State} (hts : ∀ w ∈ lw_tbl, w.before #[Value.ref b] s = true) : ∃ (D : va_G) (cI cL : ClassId), va_K D vwCl (pq_tys cI cL) s := by
  have hwL : ∀ w ∈ wsL_law, w.before #[Value.ref b] s = true := fun w h => hts w (pq_inL w h).1
  obtain ⟨d0, i0, K0⟩ := u_known (n := 5) hwL pq_i0 (hwL (.instantiable RX0 5) (pq_m2 _ (List.mem_of_getElem? (i := 1) rfl)))
  obtain ⟨d1, i1, K1⟩ := u_known (n := 1) hwL pq_i1 (hwL (.instantiable RX1 1) (pq_m3 _ (List.mem_of_getElem? (i := 1) rfl)))
  obtain ⟨d2, i2, K2⟩ := u_known (n := 2) hwL pq_i2 (hwL (.instantiable RX2 2) (pq_m1 _ (List.mem_of_getElem? (i := 17) rfl)))
  obtain ⟨d4, i4, K4⟩ := u_known (n := 5) hwL pq_i4 (hwL (.instantiable RX4 5) (pq_m1 _ (List.mem_of_getElem? (i := 14) rfl)))
  obtain ⟨d5, i5, K5⟩ := u_known (n := 4) hwL pq_i5 (hwL (.instantiable RX5 4) (pq_m2 _ (List.mem_of_getElem? (i := 6) rfl)))
  obtain ⟨d6, i6, K6⟩ := u_known (n := 3) hwL pq_i6 (hwL (.instantiable RX6 3) (pq_m1 _ (List.mem_of_getElem? (i := 1) rfl)))
  obtain ⟨d7, i7, K7⟩ := u_known (n := 43) hwL pq_i7 (hwL (.instantiable RX7 43) (pq_m1 _ (List.mem_of_getElem? (i := 4) rfl)))
  obtain ⟨cI, kI, compI, a1, a2, a3⟩ := Cond.arrayClass_spec (hwL (.arrayClass .int) (pq_m2 _ (List.mem_of_getElem? (i := 15) rfl)))
  obtain ⟨comp, cL, kL, b1, b2, b3, b4, b5⟩ := Cond.arrayOver_spec (hts _ nw_ao)
  refine ⟨(fun c => ([d0, d1, d2, d4, d5, d6, d7] : List ClassId).getD c d0, fun c => ([i0, i1, i2, i4, i5, i6, i7] : List (Nat → Nat)).getD c i0), cI, cL, fun c q hq => ?_, fun k q hq => ?_⟩
  · match c with
    | 0 => obtain rfl := Option.some.inj hq; exact K0
    | 1 => obtain rfl := Option.some.inj hq; exact K1
    | 2 => obtain rfl := Option.some.inj hq; exact K2
    | 3 => obtain rfl := Option.some.inj hq; exact K4
    | 4 => obtain rfl := Option.some.inj hq; exact K5
    | 5 => obtain rfl := Option.some.inj hq; exact K6
    | 6 => obtain rfl := Option.some.inj hq; exact K7
    | c + 7 => exact absurd hq (by simp)
  · match k with
    | 0 => obtain rfl := Option.some.inj hq; exact ⟨fun n z => ⟨(fun k h => by cases h), kI, a2, compI, a3⟩, a1⟩
    | 1 => obtain rfl := Option.some.inj hq; exact ⟨fun n z => ⟨(fun k h => by cases h), kL, b3, comp, b4⟩, kL, comp, b3, b4, b1, b5⟩
    | k + 2 => exact absurd hq (by simp)
set_option maxHeartbeats 8000000 in
set_option maxRecDepth 100000 in
/-- from the entry: both objects are made, then the loop -/
theorem whole_from {Rel : dk_S → md_S → Prop} (hst : st_all Rel) (hR0 : Rel dk_S0 md_M0) {p : Program} {e : Env} {s : State} {m : MethodId} {below : List Frame} {meth : Method} {c : Code} (l : Launch) {b L : Nat} {xs : Nat → Int32} (hL : L ≤ 3072) (C0 : lw_At p s m meth c b L xs) : W p l e room_1 s m #[Value.ref b] below meth c s.heap [] 0 0 (lw_Z below #[Value.ref b] s) (entryFrame m ([Value.ref b] : List Value).toArray 4) := by
  have C00 := C0
  obtain ⟨hx, hb0, hr, hml, hown, hts, hX, hbl, hlocks, hgv⟩ := C00
  have hwL : ∀ w ∈ wsL_law, w.before #[Value.ref b] s = true := fun w h => hts w (pq_inL w h).1
  have hs : ∀ w ∈ wsL_law, w ∈ wsL_law := fun _ h => h
  obtain ⟨D, cI, cL, hK⟩ := nw_K hts
  have C : pq_Cx p c m cL_law 4 s #[Value.ref b] wsL_law RL D cI cL (fun q : Nat => s.heap.size ≤ q) := ⟨hx, hb0, hml, hown, hwL, hK, nw_G hts hgv, fun _ h => h⟩
  have hb := C.2.1
  have hh : pq_H D (fun q : Nat => s.heap.size ≤ q) s [] s.heap [] := ⟨fun k q h => absurd h (by simp), ⟨fun i j p q h => absurd h (by simp), fun k q h => absurd h (by simp)⟩, va_S.rf⟩
  have hl := lv_entry [Value.ref b] (n := 4) (Nat.le_of_ble_eq_true rfl)
  rw [lg_entry_eq]
  generalize (lg_sl [Value.ref b] ++ List.replicate (4 - (lg_sl [Value.ref b]).length) Slot.unset).toArray = ls at hl ⊢
  have hl : lv_has ls 4 [(0, .ref b)] := hl
  refine pq_new (ci := 5) (fs := [.null, .null, .null]) C hh pq_i6 tyX6 tyX6_ok (hwL (.classLink RL 7 RX6) (pq_m1 _ (List.mem_of_getElem? (i := 0) rfl))) (hwL (.instantiable RX6 3) (pq_m1 _ (List.mem_of_getElem? (i := 1) rfl))) (hwL (.initialized RX6) (pq_m1 _ (List.mem_of_getElem? (i := 2) rfl))) rfl (fun j hj => by rcases (show j = 0 ∨ j = 1 ∨ j = 2 by omega) with rfl | rfl | rfl <;> rfl) (Nat.le_of_ble_eq_true rfl) (Nat.le_of_ble_eq_true rfl) dL_law_0 (fun x H hh => ?_)
  refine lv_dup hx hb dL_law_3 rfl ?_
  refine pq_ciCL (Wd := []) C hh (qX6_init l D cI cL x) (gnX6_init hs) rfl (hwL (.methodLink RL 9 yX6_init) (pq_m1 _ (List.mem_of_getElem? (i := 6) rfl))) rfl (hwL (.instanceMethod yX6_init) (pq_m1 _ (List.mem_of_getElem? (i := 7) rfl))) (hwL (.initialized RX6) (pq_m1 _ (List.mem_of_getElem? (i := 2) rfl))) (by decide +kernel) ⟨Nat.le_of_ble_eq_true rfl, Nat.le_of_ble_eq_true rfl⟩ hl.1 rfl (Nat.le_of_ble_eq_true rfl) dL_law_4 ⟨Nat.le_of_ble_eq_true rfl, Nat.le_of_ble_eq_true rfl⟩ (fun H locs as (hh : pq_H D (fun q : Nat => s.heap.size ≤ q) s (wD cI cL x as dk_S0) H locs) => ?_)
  refine W.widen (k := 74) (n := 2871) (Nat.le_of_ble_eq_true rfl) (Nat.le_of_ble_eq_true rfl) ?_
  refine lv_astore_n (lv' := [(1, .ref x), (0, .ref b)]) hx hb dL_law_7 rfl hl (by decide) rfl (fun ls hl => ?_)
  generalize hWe : wD cI cL x as dk_S0 = Wx at hh
  refine pq_new (ci := 6) (fs := (.int (0 : Int32) :: .null :: .null :: .null :: .null :: .null :: .null :: .null :: .null :: .null :: .null :: .null :: .null :: .null :: .null :: .null :: .null :: .null :: .null :: .null :: .int (0 : Int32) :: .int (0 : Int32) :: .int (0 : Int32) :: .null :: .null :: .null :: .null :: .null :: .null :: .null :: .null :: .null :: .null :: .null :: .int (0 : Int32) :: .int (0 : Int32) :: .null :: .int (0 : Int32) :: .null :: .int (0 : Int32) :: .int (0 : Int32) :: .null :: .null :: [])) C hh pq_i7 tyX7 tyX7_ok (hwL (.classLink RL 10 RX7) (pq_m1 _ (List.mem_of_getElem? (i := 3) rfl))) (hwL (.instantiable RX7 43) (pq_m1 _ (List.mem_of_getElem? (i := 4) rfl))) (hwL (.initialized RX7) (pq_m1 _ (List.mem_of_getElem? (i := 5) rfl))) rfl (fun j hj => by rcases (show j = 0 ∨ j = 1 ∨ j = 2 ∨ j = 3 ∨ j = 4 ∨ j = 5 ∨ j = 6 ∨ j = 7 ∨ j = 8 ∨ j = 9 ∨ j = 10 ∨ j = 11 ∨ j = 12 ∨ j = 13 ∨ j = 14 ∨ j = 15 ∨ j = 16 ∨ j = 17 ∨ j = 18 ∨ j = 19 ∨ j = 20 ∨ j = 21 ∨ j = 22 ∨ j = 23 ∨ j = 24 ∨ j = 25 ∨ j = 26 ∨ j = 27 ∨ j = 28 ∨ j = 29 ∨ j = 30 ∨ j = 31 ∨ j = 32 ∨ j = 33 ∨ j = 34 ∨ j = 35 ∨ j = 36 ∨ j = 37 ∨ j = 38 ∨ j = 39 ∨ j = 40 ∨ j = 41 ∨ j = 42 by omega) with rfl | rfl | rfl | rfl | rfl | rfl | rfl | rfl | rfl | rfl | rfl | rfl | rfl | rfl | rfl | rfl | rfl | rfl | rfl | rfl | rfl | rfl | rfl | rfl | rfl | rfl | rfl | rfl | rfl | rfl | rfl | rfl | rfl | rfl | rfl | rfl | rfl | rfl | rfl | rfl | rfl | rfl | rfl <;> rfl) (Nat.le_of_ble_eq_true rfl) (Nat.le_of_ble_eq_true rfl) dL_law_8 (fun y H hh => ?_)
  refine lv_dup hx hb dL_law_11 rfl ?_
  refine pq_ciCL (Wd := Wx) C hh (qX7_init l D cI cL y) (gnX7_init hs) rfl (hwL (.methodLink RL 12 yX7_init) (pq_m3 _ (List.mem_of_getElem? (i := 16) rfl))) rfl (hwL (.instanceMethod yX7_init) (pq_m3 _ (List.mem_of_getElem? (i := 17) rfl))) (hwL (.initialized RX7) (pq_m1 _ (List.mem_of_getElem? (i := 5) rfl))) (by decide +kernel) ⟨Nat.le_of_ble_eq_true rfl, Nat.le_of_ble_eq_true rfl⟩ hl.1 rfl (Nat.le_of_ble_eq_true rfl) dL_law_12 ⟨Nat.le_of_ble_eq_true rfl, Nat.le_of_ble_eq_true rfl⟩ (fun H locs ad hh => ?_)
  subst hWe
  refine W.widen (k := 600000) (n := 7302249) (Nat.le_of_ble_eq_true rfl) (Nat.le_of_ble_eq_true rfl) ?_
  refine lv_astore_n (lv' := [(2, .ref y), (1, .ref x), (0, .ref b)]) hx hb dL_law_15 rfl hl (by decide) rfl (fun ls hl => ?_)
  refine lv_iconst (v := (0 : Int32)) hx hb dL_law_16 (by decide) ?_
  refine lv_istore_n (lv' := [(3, .int (nI (6 * 0))), (2, .ref y), (1, .ref x), (0, .ref b)]) hx hb dL_law_17 rfl hl (by decide) rfl (fun ls hl => ?_)
  exact law_loop hst hL C0 C x y as ad (L / 6 + 1) 0 (by omega) (by omega) dk_S0 md_M0 hR0 H locs hh ls (lv_sub hl [3, 2, 1, 0] rfl)
