set_option maxHeartbeats 4000000 in
set_option maxRecDepth 100000 in
theorem fiX7_init_6 {p : Program} {l : Launch} {e : Env} {R : Room} {s : State} {m : MethodId} {args : Array Value} {below : List Frame} {meth : Method} {c : Code} {H : Heap} {locs : List Loc} {cells slots : Nat} {Q : State → Prop} {ls : Array Slot} {rest : List Value} {D : va_G} {A : Nat → Prop} {a : Nat} {Wd : va_W} {cI cL : ClassId} (C : pq_Cx p c m cX7_init 1 s args qsX7_init RX7 D cI cL A) (hh : pq_H D A s (Wd ++ [(a, .inl (cI, 4, .inl (fun _ => 0)))]) H locs)
    (kk : ∀ (H1 : Heap) (locs1 : List Loc), pq_H D A s (Wd ++ [(a, .inl (cI, 4, .inl aiX7_init_6_3))]) H1 locs1 → W p l e R s m args below meth c H1 locs1 cells slots Q (F0 m 28 ls (.ref a :: rest))) : W p l e R s m args below meth c H locs cells slots Q (F0 m 8 ls (.ref a :: rest)) := by
  have hx := C.1
  have hb := C.2.1
  have hown : s.vm.findClass RX7 = some m.cls := C.2.2.2.1
  have htw : ∀ w ∈ wsL_law, w.before args s = true := fun w h => C.2.2.2.2.1 w (List.mem_cons_of_mem _ h)
  refine lv_dup hx hb dX7_init_8 rfl ?_
  refine lv_iconst (v := (0 : Int32)) hx hb dX7_init_9 (by decide) ?_
  refine lv_ldc (v := (-100000 : Int32)) hx hb hown (htw (.constant RX7 9 (-100000)) (pq_m3 _ (List.mem_of_getElem? (i := 20) rfl))) dX7_init_10 ?_
  refine pq_iastL C hh (pq_vin (by decide)) dX7_init_12 (fun H locs hh => ?_)
  have hh : pq_H D A s (Wd ++ [(a, .inl (cI, 4, .inl aiX7_init_6_0))]) H locs := hh
  refine lv_dup hx hb dX7_init_13 rfl ?_
  refine lv_iconst (v := (1 : Int32)) hx hb dX7_init_14 (by decide) ?_
  refine lv_ldc (v := (-100000 : Int32)) hx hb hown (htw (.constant RX7 9 (-100000)) (pq_m3 _ (List.mem_of_getElem? (i := 20) rfl))) dX7_init_15 ?_
  refine pq_iastL C hh (pq_vin (by decide)) dX7_init_17 (fun H locs hh => ?_)
  have hh : pq_H D A s (Wd ++ [(a, .inl (cI, 4, .inl aiX7_init_6_1))]) H locs := hh
  refine lv_dup hx hb dX7_init_18 rfl ?_
  refine lv_iconst (v := (2 : Int32)) hx hb dX7_init_19 (by decide) ?_
  refine lv_ldc (v := (-100000 : Int32)) hx hb hown (htw (.constant RX7 9 (-100000)) (pq_m3 _ (List.mem_of_getElem? (i := 20) rfl))) dX7_init_20 ?_
  refine pq_iastL C hh (pq_vin (by decide)) dX7_init_22 (fun H locs hh => ?_)
  have hh : pq_H D A s (Wd ++ [(a, .inl (cI, 4, .inl aiX7_init_6_2))]) H locs := hh
  refine lv_dup hx hb dX7_init_23 rfl ?_
  refine lv_iconst (v := (3 : Int32)) hx hb dX7_init_24 (by decide) ?_
  refine lv_ldc (v := (-100000 : Int32)) hx hb hown (htw (.constant RX7 9 (-100000)) (pq_m3 _ (List.mem_of_getElem? (i := 20) rfl))) dX7_init_25 ?_
  refine pq_iastL C hh (pq_vin (by decide)) dX7_init_27 (fun H locs hh => ?_)
  have hh : pq_H D A s (Wd ++ [(a, .inl (cI, 4, .inl aiX7_init_6_3))]) H locs := hh
  exact kk _ _ hh
set_option maxHeartbeats 4000000 in
set_option maxRecDepth 100000 in
theorem fiX7_init_49 {p : Program} {l : Launch} {e : Env} {R : Room} {s : State} {m : MethodId} {args : Array Value} {below : List Frame} {meth : Method} {c : Code} {H : Heap} {locs : List Loc} {cells slots : Nat} {Q : State → Prop} {ls : Array Slot} {rest : List Value} {D : va_G} {A : Nat → Prop} {a : Nat} {Wd : va_W} {cI cL : ClassId} (C : pq_Cx p c m cX7_init 1 s args qsX7_init RX7 D cI cL A) (hh : pq_H D A s (Wd ++ [(a, .inl (cI, 1, .inl (fun _ => 0)))]) H locs)
    (kk : ∀ (H1 : Heap) (locs1 : List Loc), pq_H D A s (Wd ++ [(a, .inl (cI, 1, .inl aiX7_init_49_0))]) H1 locs1 → W p l e R s m args below meth c H1 locs1 cells slots Q (F0 m 57 ls (.ref a :: rest))) : W p l e R s m args below meth c H locs cells slots Q (F0 m 51 ls (.ref a :: rest)) := by
  have hx := C.1
  have hb := C.2.1
  have hown : s.vm.findClass RX7 = some m.cls := C.2.2.2.1
  have htw : ∀ w ∈ wsL_law, w.before args s = true := fun w h => C.2.2.2.2.1 w (List.mem_cons_of_mem _ h)
  refine lv_dup hx hb dX7_init_51 rfl ?_
  refine lv_iconst (v := (0 : Int32)) hx hb dX7_init_52 (by decide) ?_
  refine lv_sipush (v := (261 : Int32)) hx hb dX7_init_53 (by decide) ?_
  refine pq_iastL C hh (pq_vin (by decide)) dX7_init_56 (fun H locs hh => ?_)
  have hh : pq_H D A s (Wd ++ [(a, .inl (cI, 1, .inl aiX7_init_49_0))]) H locs := hh
  exact kk _ _ hh
set_option maxHeartbeats 4000000 in
set_option maxRecDepth 100000 in
theorem fiX7_init_62 {p : Program} {l : Launch} {e : Env} {R : Room} {s : State} {m : MethodId} {args : Array Value} {below : List Frame} {meth : Method} {c : Code} {H : Heap} {locs : List Loc} {cells slots : Nat} {Q : State → Prop} {ls : Array Slot} {rest : List Value} {D : va_G} {A : Nat → Prop} {a : Nat} {Wd : va_W} {cI cL : ClassId} (C : pq_Cx p c m cX7_init 1 s args qsX7_init RX7 D cI cL A) (hh : pq_H D A s (Wd ++ [(a, .inl (cI, 3, .inl (fun _ => 0)))]) H locs)
    (kk : ∀ (H1 : Heap) (locs1 : List Loc), pq_H D A s (Wd ++ [(a, .inl (cI, 3, .inl aiX7_init_62_2))]) H1 locs1 → W p l e R s m args below meth c H1 locs1 cells slots Q (F0 m 81 ls (.ref a :: rest))) : W p l e R s m args below meth c H locs cells slots Q (F0 m 64 ls (.ref a :: rest)) := by
  have hx := C.1
  have hb := C.2.1
  have hown : s.vm.findClass RX7 = some m.cls := C.2.2.2.1
  have htw : ∀ w ∈ wsL_law, w.before args s = true := fun w h => C.2.2.2.2.1 w (List.mem_cons_of_mem _ h)
  refine lv_dup hx hb dX7_init_64 rfl ?_
  refine lv_iconst (v := (0 : Int32)) hx hb dX7_init_65 (by decide) ?_
  refine lv_bipush (v := (8 : Int32)) hx hb dX7_init_66 (by decide) ?_
  refine pq_iastL C hh (pq_vin (by decide)) dX7_init_68 (fun H locs hh => ?_)
  have hh : pq_H D A s (Wd ++ [(a, .inl (cI, 3, .inl aiX7_init_62_0))]) H locs := hh
  refine lv_dup hx hb dX7_init_69 rfl ?_
  refine lv_iconst (v := (1 : Int32)) hx hb dX7_init_70 (by decide) ?_
  refine lv_sipush (v := (218 : Int32)) hx hb dX7_init_71 (by decide) ?_
  refine pq_iastL C hh (pq_vin (by decide)) dX7_init_74 (fun H locs hh => ?_)
  have hh : pq_H D A s (Wd ++ [(a, .inl (cI, 3, .inl aiX7_init_62_1))]) H locs := hh
  refine lv_dup hx hb dX7_init_75 rfl ?_
  refine lv_iconst (v := (2 : Int32)) hx hb dX7_init_76 (by decide) ?_
  refine lv_sipush (v := (331 : Int32)) hx hb dX7_init_77 (by decide) ?_
  refine pq_iastL C hh (pq_vin (by decide)) dX7_init_80 (fun H locs hh => ?_)
  have hh : pq_H D A s (Wd ++ [(a, .inl (cI, 3, .inl aiX7_init_62_2))]) H locs := hh
  exact kk _ _ hh
set_option maxHeartbeats 4000000 in
set_option maxRecDepth 100000 in
theorem fiX7_init_87 {p : Program} {l : Launch} {e : Env} {R : Room} {s : State} {m : MethodId} {args : Array Value} {below : List Frame} {meth : Method} {c : Code} {H : Heap} {locs : List Loc} {cells slots : Nat} {Q : State → Prop} {ls : Array Slot} {rest : List Value} {D : va_G} {A : Nat → Prop} {a : Nat} {Wd : va_W} {cI cL : ClassId} (C : pq_Cx p c m cX7_init 1 s args qsX7_init RX7 D cI cL A) (hh : pq_H D A s (Wd ++ [(a, .inl (cI, 7, .inl (fun _ => 0)))]) H locs)
    (kk : ∀ (H1 : Heap) (locs1 : List Loc), pq_H D A s (Wd ++ [(a, .inl (cI, 7, .inl aiX7_init_87_6))]) H1 locs1 → W p l e R s m args below meth c H1 locs1 cells slots Q (F0 m 130 ls (.ref a :: rest))) : W p l e R s m args below meth c H locs cells slots Q (F0 m 89 ls (.ref a :: rest)) := by
  have hx := C.1
  have hb := C.2.1
  have hown : s.vm.findClass RX7 = some m.cls := C.2.2.2.1
  have htw : ∀ w ∈ wsL_law, w.before args s = true := fun w h => C.2.2.2.2.1 w (List.mem_cons_of_mem _ h)
  refine lv_dup hx hb dX7_init_89 rfl ?_
  refine lv_iconst (v := (0 : Int32)) hx hb dX7_init_90 (by decide) ?_
  refine lv_bipush (v := (-124 : Int32)) hx hb dX7_init_91 (by decide) ?_
  refine pq_iastL C hh (pq_vin (by decide)) dX7_init_93 (fun H locs hh => ?_)
  have hh : pq_H D A s (Wd ++ [(a, .inl (cI, 7, .inl aiX7_init_87_0))]) H locs := hh
  refine lv_dup hx hb dX7_init_94 rfl ?_
  refine lv_iconst (v := (1 : Int32)) hx hb dX7_init_95 (by decide) ?_
  refine lv_bipush (v := (80 : Int32)) hx hb dX7_init_96 (by decide) ?_
  refine pq_iastL C hh (pq_vin (by decide)) dX7_init_98 (fun H locs hh => ?_)
  have hh : pq_H D A s (Wd ++ [(a, .inl (cI, 7, .inl aiX7_init_87_1))]) H locs := hh
  refine lv_dup hx hb dX7_init_99 rfl ?_
  refine lv_iconst (v := (2 : Int32)) hx hb dX7_init_100 (by decide) ?_
  refine lv_sipush (v := (178 : Int32)) hx hb dX7_init_101 (by decide) ?_
  refine pq_iastL C hh (pq_vin (by decide)) dX7_init_104 (fun H locs hh => ?_)
  have hh : pq_H D A s (Wd ++ [(a, .inl (cI, 7, .inl aiX7_init_87_2))]) H locs := hh
  refine lv_dup hx hb dX7_init_105 rfl ?_
  refine lv_iconst (v := (3 : Int32)) hx hb dX7_init_106 (by decide) ?_
  refine lv_sipush (v := (246 : Int32)) hx hb dX7_init_107 (by decide) ?_
  refine pq_iastL C hh (pq_vin (by decide)) dX7_init_110 (fun H locs hh => ?_)
  have hh : pq_H D A s (Wd ++ [(a, .inl (cI, 7, .inl aiX7_init_87_3))]) H locs := hh
  refine lv_dup hx hb dX7_init_111 rfl ?_
  refine lv_iconst (v := (4 : Int32)) hx hb dX7_init_112 (by decide) ?_
  refine lv_sipush (v := (300 : Int32)) hx hb dX7_init_113 (by decide) ?_
  refine pq_iastL C hh (pq_vin (by decide)) dX7_init_116 (fun H locs hh => ?_)
  have hh : pq_H D A s (Wd ++ [(a, .inl (cI, 7, .inl aiX7_init_87_4))]) H locs := hh
  refine lv_dup hx hb dX7_init_117 rfl ?_
  refine lv_iconst (v := (5 : Int32)) hx hb dX7_init_118 (by decide) ?_
  refine lv_sipush (v := (349 : Int32)) hx hb dX7_init_119 (by decide) ?_
  refine pq_iastL C hh (pq_vin (by decide)) dX7_init_122 (fun H locs hh => ?_)
  have hh : pq_H D A s (Wd ++ [(a, .inl (cI, 7, .inl aiX7_init_87_5))]) H locs := hh
  refine lv_dup hx hb dX7_init_123 rfl ?_
  refine lv_bipush (v := (6 : Int32)) hx hb dX7_init_124 (by decide) ?_
  refine lv_sipush (v := (400 : Int32)) hx hb dX7_init_126 (by decide) ?_
  refine pq_iastL C hh (pq_vin (by decide)) dX7_init_129 (fun H locs hh => ?_)
  have hh : pq_H D A s (Wd ++ [(a, .inl (cI, 7, .inl aiX7_init_87_6))]) H locs := hh
  exact kk _ _ hh
set_option maxHeartbeats 4000000 in
set_option maxRecDepth 100000 in
theorem fiX7_init_136 {p : Program} {l : Launch} {e : Env} {R : Room} {s : State} {m : MethodId} {args : Array Value} {below : List Frame} {meth : Method} {c : Code} {H : Heap} {locs : List Loc} {cells slots : Nat} {Q : State → Prop} {ls : Array Slot} {rest : List Value} {D : va_G} {A : Nat → Prop} {a : Nat} {Wd : va_W} {cI cL : ClassId} (C : pq_Cx p c m cX7_init 1 s args qsX7_init RX7 D cI cL A) (hh : pq_H D A s (Wd ++ [(a, .inl (cI, 15, .inl (fun _ => 0)))]) H locs)
    (kk : ∀ (H1 : Heap) (locs1 : List Loc), pq_H D A s (Wd ++ [(a, .inl (cI, 15, .inl aiX7_init_136_14))]) H1 locs1 → W p l e R s m args below meth c H1 locs1 cells slots Q (F0 m 234 ls (.ref a :: rest))) : W p l e R s m args below meth c H locs cells slots Q (F0 m 138 ls (.ref a :: rest)) := by
  have hx := C.1
  have hb := C.2.1
  have hown : s.vm.findClass RX7 = some m.cls := C.2.2.2.1
  have htw : ∀ w ∈ wsL_law, w.before args s = true := fun w h => C.2.2.2.2.1 w (List.mem_cons_of_mem _ h)
  refine lv_dup hx hb dX7_init_138 rfl ?_
  refine lv_iconst (v := (0 : Int32)) hx hb dX7_init_139 (by decide) ?_
  refine lv_bipush (v := (-122 : Int32)) hx hb dX7_init_140 (by decide) ?_
  refine pq_iastL C hh (pq_vin (by decide)) dX7_init_142 (fun H locs hh => ?_)
  have hh : pq_H D A s (Wd ++ [(a, .inl (cI, 15, .inl aiX7_init_136_0))]) H locs := hh
  refine lv_dup hx hb dX7_init_143 rfl ?_
  refine lv_iconst (v := (1 : Int32)) hx hb dX7_init_144 (by decide) ?_
  refine lv_bipush (v := (-16 : Int32)) hx hb dX7_init_145 (by decide) ?_
  refine pq_iastL C hh (pq_vin (by decide)) dX7_init_147 (fun H locs hh => ?_)
  have hh : pq_H D A s (Wd ++ [(a, .inl (cI, 15, .inl aiX7_init_136_1))]) H locs := hh
  refine lv_dup hx hb dX7_init_148 rfl ?_
  refine lv_iconst (v := (2 : Int32)) hx hb dX7_init_149 (by decide) ?_
  refine lv_bipush (v := (68 : Int32)) hx hb dX7_init_150 (by decide) ?_
  refine pq_iastL C hh (pq_vin (by decide)) dX7_init_152 (fun H locs hh => ?_)
  have hh : pq_H D A s (Wd ++ [(a, .inl (cI, 15, .inl aiX7_init_136_2))]) H locs := hh
  refine lv_dup hx hb dX7_init_153 rfl ?_
  refine lv_iconst (v := (3 : Int32)) hx hb dX7_init_154 (by decide) ?_
  refine lv_sipush (v := (139 : Int32)) hx hb dX7_init_155 (by decide) ?_
  refine pq_iastL C hh (pq_vin (by decide)) dX7_init_158 (fun H locs hh => ?_)
  have hh : pq_H D A s (Wd ++ [(a, .inl (cI, 15, .inl aiX7_init_136_3))]) H locs := hh
  refine lv_dup hx hb dX7_init_159 rfl ?_
  refine lv_iconst (v := (4 : Int32)) hx hb dX7_init_160 (by decide) ?_
  refine lv_sipush (v := (198 : Int32)) hx hb dX7_init_161 (by decide) ?_
  refine pq_iastL C hh (pq_vin (by decide)) dX7_init_164 (fun H locs hh => ?_)
  have hh : pq_H D A s (Wd ++ [(a, .inl (cI, 15, .inl aiX7_init_136_4))]) H locs := hh
  refine lv_dup hx hb dX7_init_165 rfl ?_
  refine lv_iconst (v := (5 : Int32)) hx hb dX7_init_166 (by decide) ?_
  refine lv_sipush (v := (250 : Int32)) hx hb dX7_init_167 (by decide) ?_
  refine pq_iastL C hh (pq_vin (by decide)) dX7_init_170 (fun H locs hh => ?_)
  have hh : pq_H D A s (Wd ++ [(a, .inl (cI, 15, .inl aiX7_init_136_5))]) H locs := hh
  refine lv_dup hx hb dX7_init_171 rfl ?_
  refine lv_bipush (v := (6 : Int32)) hx hb dX7_init_172 (by decide) ?_
  refine lv_sipush (v := (298 : Int32)) hx hb dX7_init_174 (by decide) ?_
  refine pq_iastL C hh (pq_vin (by decide)) dX7_init_177 (fun H locs hh => ?_)
  have hh : pq_H D A s (Wd ++ [(a, .inl (cI, 15, .inl aiX7_init_136_6))]) H locs := hh
  refine lv_dup hx hb dX7_init_178 rfl ?_
  refine lv_bipush (v := (7 : Int32)) hx hb dX7_init_179 (by decide) ?_
  refine lv_sipush (v := (339 : Int32)) hx hb dX7_init_181 (by decide) ?_
  refine pq_iastL C hh (pq_vin (by decide)) dX7_init_184 (fun H locs hh => ?_)
  have hh : pq_H D A s (Wd ++ [(a, .inl (cI, 15, .inl aiX7_init_136_7))]) H locs := hh
  refine lv_dup hx hb dX7_init_185 rfl ?_
  refine lv_bipush (v := (8 : Int32)) hx hb dX7_init_186 (by decide) ?_
  refine lv_sipush (v := (378 : Int32)) hx hb dX7_init_188 (by decide) ?_
  refine pq_iastL C hh (pq_vin (by decide)) dX7_init_191 (fun H locs hh => ?_)
  have hh : pq_H D A s (Wd ++ [(a, .inl (cI, 15, .inl aiX7_init_136_8))]) H locs := hh
  refine lv_dup hx hb dX7_init_192 rfl ?_
  refine lv_bipush (v := (9 : Int32)) hx hb dX7_init_193 (by decide) ?_
  refine lv_sipush (v := (413 : Int32)) hx hb dX7_init_195 (by decide) ?_
  refine pq_iastL C hh (pq_vin (by decide)) dX7_init_198 (fun H locs hh => ?_)
  have hh : pq_H D A s (Wd ++ [(a, .inl (cI, 15, .inl aiX7_init_136_9))]) H locs := hh
  refine lv_dup hx hb dX7_init_199 rfl ?_
  refine lv_bipush (v := (10 : Int32)) hx hb dX7_init_200 (by decide) ?_
  refine lv_sipush (v := (445 : Int32)) hx hb dX7_init_202 (by decide) ?_
  refine pq_iastL C hh (pq_vin (by decide)) dX7_init_205 (fun H locs hh => ?_)
  have hh : pq_H D A s (Wd ++ [(a, .inl (cI, 15, .inl aiX7_init_136_10))]) H locs := hh
  refine lv_dup hx hb dX7_init_206 rfl ?_
  refine lv_bipush (v := (11 : Int32)) hx hb dX7_init_207 (by decide) ?_
  refine lv_sipush (v := (475 : Int32)) hx hb dX7_init_209 (by decide) ?_
  refine pq_iastL C hh (pq_vin (by decide)) dX7_init_212 (fun H locs hh => ?_)
  have hh : pq_H D A s (Wd ++ [(a, .inl (cI, 15, .inl aiX7_init_136_11))]) H locs := hh
  refine lv_dup hx hb dX7_init_213 rfl ?_
  refine lv_bipush (v := (12 : Int32)) hx hb dX7_init_214 (by decide) ?_
  refine lv_sipush (v := (502 : Int32)) hx hb dX7_init_216 (by decide) ?_
  refine pq_iastL C hh (pq_vin (by decide)) dX7_init_219 (fun H locs hh => ?_)
  have hh : pq_H D A s (Wd ++ [(a, .inl (cI, 15, .inl aiX7_init_136_12))]) H locs := hh
  refine lv_dup hx hb dX7_init_220 rfl ?_
  refine lv_bipush (v := (13 : Int32)) hx hb dX7_init_221 (by decide) ?_
  refine lv_sipush (v := (528 : Int32)) hx hb dX7_init_223 (by decide) ?_
  refine pq_iastL C hh (pq_vin (by decide)) dX7_init_226 (fun H locs hh => ?_)
  have hh : pq_H D A s (Wd ++ [(a, .inl (cI, 15, .inl aiX7_init_136_13))]) H locs := hh
  refine lv_dup hx hb dX7_init_227 rfl ?_
  refine lv_bipush (v := (14 : Int32)) hx hb dX7_init_228 (by decide) ?_
  refine lv_sipush (v := (553 : Int32)) hx hb dX7_init_230 (by decide) ?_
  refine pq_iastL C hh (pq_vin (by decide)) dX7_init_233 (fun H locs hh => ?_)
  have hh : pq_H D A s (Wd ++ [(a, .inl (cI, 15, .inl aiX7_init_136_14))]) H locs := hh
  exact kk _ _ hh
set_option maxHeartbeats 4000000 in
set_option maxRecDepth 100000 in
theorem fiX7_init_239 {p : Program} {l : Launch} {e : Env} {R : Room} {s : State} {m : MethodId} {args : Array Value} {below : List Frame} {meth : Method} {c : Code} {H : Heap} {locs : List Loc} {cells slots : Nat} {Q : State → Prop} {ls : Array Slot} {rest : List Value} {D : va_G} {A : Nat → Prop} {a : Nat} {Wd : va_W} {cI cL : ClassId} (C : pq_Cx p c m cX7_init 1 s args qsX7_init RX7 D cI cL A) (hh : pq_H D A s (Wd ++ [(a, .inl (cI, 2, .inl (fun _ => 0)))]) H locs)
    (kk : ∀ (H1 : Heap) (locs1 : List Loc), pq_H D A s (Wd ++ [(a, .inl (cI, 2, .inl aiX7_init_239_1))]) H1 locs1 → W p l e R s m args below meth c H1 locs1 cells slots Q (F0 m 252 ls (.ref a :: rest))) : W p l e R s m args below meth c H locs cells slots Q (F0 m 241 ls (.ref a :: rest)) := by
  have hx := C.1
  have hb := C.2.1
  have hown : s.vm.findClass RX7 = some m.cls := C.2.2.2.1
  have htw : ∀ w ∈ wsL_law, w.before args s = true := fun w h => C.2.2.2.2.1 w (List.mem_cons_of_mem _ h)
  refine lv_dup hx hb dX7_init_241 rfl ?_
  refine lv_iconst (v := (0 : Int32)) hx hb dX7_init_242 (by decide) ?_
  refine lv_bipush (v := (116 : Int32)) hx hb dX7_init_243 (by decide) ?_
  refine pq_iastL C hh (pq_vin (by decide)) dX7_init_245 (fun H locs hh => ?_)
  have hh : pq_H D A s (Wd ++ [(a, .inl (cI, 2, .inl aiX7_init_239_0))]) H locs := hh
  refine lv_dup hx hb dX7_init_246 rfl ?_
  refine lv_iconst (v := (1 : Int32)) hx hb dX7_init_247 (by decide) ?_
  refine lv_sipush (v := (365 : Int32)) hx hb dX7_init_248 (by decide) ?_
  refine pq_iastL C hh (pq_vin (by decide)) dX7_init_251 (fun H locs hh => ?_)
  have hh : pq_H D A s (Wd ++ [(a, .inl (cI, 2, .inl aiX7_init_239_1))]) H locs := hh
  exact kk _ _ hh
set_option maxHeartbeats 4000000 in
set_option maxRecDepth 100000 in
theorem fiX7_init_257 {p : Program} {l : Launch} {e : Env} {R : Room} {s : State} {m : MethodId} {args : Array Value} {below : List Frame} {meth : Method} {c : Code} {H : Heap} {locs : List Loc} {cells slots : Nat} {Q : State → Prop} {ls : Array Slot} {rest : List Value} {D : va_G} {A : Nat → Prop} {a : Nat} {Wd : va_W} {cI cL : ClassId} (C : pq_Cx p c m cX7_init 1 s args qsX7_init RX7 D cI cL A) (hh : pq_H D A s (Wd ++ [(a, .inl (cI, 4, .inl (fun _ => 0)))]) H locs)
    (kk : ∀ (H1 : Heap) (locs1 : List Loc), pq_H D A s (Wd ++ [(a, .inl (cI, 4, .inl aiX7_init_257_3))]) H1 locs1 → W p l e R s m args below meth c H1 locs1 cells slots Q (F0 m 283 ls (.ref a :: rest))) : W p l e R s m args below meth c H locs cells slots Q (F0 m 259 ls (.ref a :: rest)) := by
  have hx := C.1
  have hb := C.2.1
  have hown : s.vm.findClass RX7 = some m.cls := C.2.2.2.1
  have htw : ∀ w ∈ wsL_law, w.before args s = true := fun w h => C.2.2.2.2.1 w (List.mem_cons_of_mem _ h)
  refine lv_dup hx hb dX7_init_259 rfl ?_
  refine lv_iconst (v := (0 : Int32)) hx hb dX7_init_260 (by decide) ?_
  refine lv_sipush (v := (-2048 : Int32)) hx hb dX7_init_261 (by decide) ?_
  refine pq_iastL C hh (pq_vin (by decide)) dX7_init_264 (fun H locs hh => ?_)
  have hh : pq_H D A s (Wd ++ [(a, .inl (cI, 4, .inl aiX7_init_257_0))]) H locs := hh
  refine lv_dup hx hb dX7_init_265 rfl ?_
  refine lv_iconst (v := (1 : Int32)) hx hb dX7_init_266 (by decide) ?_
  refine lv_sipush (v := (135 : Int32)) hx hb dX7_init_267 (by decide) ?_
  refine pq_iastL C hh (pq_vin (by decide)) dX7_init_270 (fun H locs hh => ?_)
  have hh : pq_H D A s (Wd ++ [(a, .inl (cI, 4, .inl aiX7_init_257_1))]) H locs := hh
  refine lv_dup hx hb dX7_init_271 rfl ?_
  refine lv_iconst (v := (2 : Int32)) hx hb dX7_init_272 (by decide) ?_
  refine lv_sipush (v := (273 : Int32)) hx hb dX7_init_273 (by decide) ?_
  refine pq_iastL C hh (pq_vin (by decide)) dX7_init_276 (fun H locs hh => ?_)
  have hh : pq_H D A s (Wd ++ [(a, .inl (cI, 4, .inl aiX7_init_257_2))]) H locs := hh
  refine lv_dup hx hb dX7_init_277 rfl ?_
  refine lv_iconst (v := (3 : Int32)) hx hb dX7_init_278 (by decide) ?_
  refine lv_sipush (v := (373 : Int32)) hx hb dX7_init_279 (by decide) ?_
  refine pq_iastL C hh (pq_vin (by decide)) dX7_init_282 (fun H locs hh => ?_)
  have hh : pq_H D A s (Wd ++ [(a, .inl (cI, 4, .inl aiX7_init_257_3))]) H locs := hh
  exact kk _ _ hh
set_option maxHeartbeats 4000000 in
set_option maxRecDepth 100000 in
theorem fiX7_init_289 {p : Program} {l : Launch} {e : Env} {R : Room} {s : State} {m : MethodId} {args : Array Value} {below : List Frame} {meth : Method} {c : Code} {H : Heap} {locs : List Loc} {cells slots : Nat} {Q : State → Prop} {ls : Array Slot} {rest : List Value} {D : va_G} {A : Nat → Prop} {a : Nat} {Wd : va_W} {cI cL : ClassId} (C : pq_Cx p c m cX7_init 1 s args qsX7_init RX7 D cI cL A) (hh : pq_H D A s (Wd ++ [(a, .inl (cI, 8, .inl (fun _ => 0)))]) H locs)
    (kk : ∀ (H1 : Heap) (locs1 : List Loc), pq_H D A s (Wd ++ [(a, .inl (cI, 8, .inl aiX7_init_289_7))]) H1 locs1 → W p l e R s m args below meth c H1 locs1 cells slots Q (F0 m 339 ls (.ref a :: rest))) : W p l e R s m args below meth c H locs cells slots Q (F0 m 291 ls (.ref a :: rest)) := by
  have hx := C.1
  have hb := C.2.1
  have hown : s.vm.findClass RX7 = some m.cls := C.2.2.2.1
  have htw : ∀ w ∈ wsL_law, w.before args s = true := fun w h => C.2.2.2.2.1 w (List.mem_cons_of_mem _ h)
  refine lv_dup hx hb dX7_init_291 rfl ?_
  refine lv_iconst (v := (0 : Int32)) hx hb dX7_init_292 (by decide) ?_
  refine lv_sipush (v := (-2048 : Int32)) hx hb dX7_init_293 (by decide) ?_
  refine pq_iastL C hh (pq_vin (by decide)) dX7_init_296 (fun H locs hh => ?_)
  have hh : pq_H D A s (Wd ++ [(a, .inl (cI, 8, .inl aiX7_init_289_0))]) H locs := hh
  refine lv_dup hx hb dX7_init_297 rfl ?_
  refine lv_iconst (v := (1 : Int32)) hx hb dX7_init_298 (by decide) ?_
  refine lv_iconst (v := (4 : Int32)) hx hb dX7_init_299 (by decide) ?_
  refine pq_iastL C hh (pq_vin (by decide)) dX7_init_300 (fun H locs hh => ?_)
  have hh : pq_H D A s (Wd ++ [(a, .inl (cI, 8, .inl aiX7_init_289_1))]) H locs := hh
  refine lv_dup hx hb dX7_init_301 rfl ?_
  refine lv_iconst (v := (2 : Int32)) hx hb dX7_init_302 (by decide) ?_
  refine lv_sipush (v := (135 : Int32)) hx hb dX7_init_303 (by decide) ?_
  refine pq_iastL C hh (pq_vin (by decide)) dX7_init_306 (fun H locs hh => ?_)
  have hh : pq_H D A s (Wd ++ [(a, .inl (cI, 8, .inl aiX7_init_289_2))]) H locs := hh
  refine lv_dup hx hb dX7_init_307 rfl ?_
  refine lv_iconst (v := (3 : Int32)) hx hb dX7_init_308 (by decide) ?_
  refine lv_sipush (v := (213 : Int32)) hx hb dX7_init_309 (by decide) ?_
  refine pq_iastL C hh (pq_vin (by decide)) dX7_init_312 (fun H locs hh => ?_)
  have hh : pq_H D A s (Wd ++ [(a, .inl (cI, 8, .inl aiX7_init_289_3))]) H locs := hh
  refine lv_dup hx hb dX7_init_313 rfl ?_
  refine lv_iconst (v := (4 : Int32)) hx hb dX7_init_314 (by decide) ?_
  refine lv_sipush (v := (273 : Int32)) hx hb dX7_init_315 (by decide) ?_
  refine pq_iastL C hh (pq_vin (by decide)) dX7_init_318 (fun H locs hh => ?_)
  have hh : pq_H D A s (Wd ++ [(a, .inl (cI, 8, .inl aiX7_init_289_4))]) H locs := hh
  refine lv_dup hx hb dX7_init_319 rfl ?_
  refine lv_iconst (v := (5 : Int32)) hx hb dX7_init_320 (by decide) ?_
  refine lv_sipush (v := (323 : Int32)) hx hb dX7_init_321 (by decide) ?_
  refine pq_iastL C hh (pq_vin (by decide)) dX7_init_324 (fun H locs hh => ?_)
  have hh : pq_H D A s (Wd ++ [(a, .inl (cI, 8, .inl aiX7_init_289_5))]) H locs := hh
  refine lv_dup hx hb dX7_init_325 rfl ?_
  refine lv_bipush (v := (6 : Int32)) hx hb dX7_init_326 (by decide) ?_
  refine lv_sipush (v := (373 : Int32)) hx hb dX7_init_328 (by decide) ?_
  refine pq_iastL C hh (pq_vin (by decide)) dX7_init_331 (fun H locs hh => ?_)
  have hh : pq_H D A s (Wd ++ [(a, .inl (cI, 8, .inl aiX7_init_289_6))]) H locs := hh
  refine lv_dup hx hb dX7_init_332 rfl ?_
  refine lv_bipush (v := (7 : Int32)) hx hb dX7_init_333 (by decide) ?_
  refine lv_sipush (v := (425 : Int32)) hx hb dX7_init_335 (by decide) ?_
  refine pq_iastL C hh (pq_vin (by decide)) dX7_init_338 (fun H locs hh => ?_)
  have hh : pq_H D A s (Wd ++ [(a, .inl (cI, 8, .inl aiX7_init_289_7))]) H locs := hh
  exact kk _ _ hh
set_option maxHeartbeats 4000000 in
set_option maxRecDepth 100000 in
theorem fiX7_init_345 {p : Program} {l : Launch} {e : Env} {R : Room} {s : State} {m : MethodId} {args : Array Value} {below : List Frame} {meth : Method} {c : Code} {H : Heap} {locs : List Loc} {cells slots : Nat} {Q : State → Prop} {ls : Array Slot} {rest : List Value} {D : va_G} {A : Nat → Prop} {a : Nat} {Wd : va_W} {cI cL : ClassId} (C : pq_Cx p c m cX7_init 1 s args qsX7_init RX7 D cI cL A) (hh : pq_H D A s (Wd ++ [(a, .inl (cI, 16, .inl (fun _ => 0)))]) H locs)
    (kk : ∀ (H1 : Heap) (locs1 : List Loc), pq_H D A s (Wd ++ [(a, .inl (cI, 16, .inl aiX7_init_345_15))]) H1 locs1 → W p l e R s m args below meth c H1 locs1 cells slots Q (F0 m 450 ls (.ref a :: rest))) : W p l e R s m args below meth c H locs cells slots Q (F0 m 347 ls (.ref a :: rest)) := by
  have hx := C.1
  have hb := C.2.1
  have hown : s.vm.findClass RX7 = some m.cls := C.2.2.2.1
  have htw : ∀ w ∈ wsL_law, w.before args s = true := fun w h => C.2.2.2.2.1 w (List.mem_cons_of_mem _ h)
  refine lv_dup hx hb dX7_init_347 rfl ?_
  refine lv_iconst (v := (0 : Int32)) hx hb dX7_init_348 (by decide) ?_
  refine lv_sipush (v := (-2048 : Int32)) hx hb dX7_init_349 (by decide) ?_
  refine pq_iastL C hh (pq_vin (by decide)) dX7_init_352 (fun H locs hh => ?_)
  have hh : pq_H D A s (Wd ++ [(a, .inl (cI, 16, .inl aiX7_init_345_0))]) H locs := hh
  refine lv_dup hx hb dX7_init_353 rfl ?_
  refine lv_iconst (v := (1 : Int32)) hx hb dX7_init_354 (by decide) ?_
  refine lv_bipush (v := (-66 : Int32)) hx hb dX7_init_355 (by decide) ?_
  refine pq_iastL C hh (pq_vin (by decide)) dX7_init_357 (fun H locs hh => ?_)
  have hh : pq_H D A s (Wd ++ [(a, .inl (cI, 16, .inl aiX7_init_345_1))]) H locs := hh
  refine lv_dup hx hb dX7_init_358 rfl ?_
  refine lv_iconst (v := (2 : Int32)) hx hb dX7_init_359 (by decide) ?_
  refine lv_bipush (v := (28 : Int32)) hx hb dX7_init_360 (by decide) ?_
  refine pq_iastL C hh (pq_vin (by decide)) dX7_init_362 (fun H locs hh => ?_)
  have hh : pq_H D A s (Wd ++ [(a, .inl (cI, 16, .inl aiX7_init_345_2))]) H locs := hh
  refine lv_dup hx hb dX7_init_363 rfl ?_
  refine lv_iconst (v := (3 : Int32)) hx hb dX7_init_364 (by decide) ?_
  refine lv_bipush (v := (104 : Int32)) hx hb dX7_init_365 (by decide) ?_
  refine pq_iastL C hh (pq_vin (by decide)) dX7_init_367 (fun H locs hh => ?_)
  have hh : pq_H D A s (Wd ++ [(a, .inl (cI, 16, .inl aiX7_init_345_3))]) H locs := hh
  refine lv_dup hx hb dX7_init_368 rfl ?_
  refine lv_iconst (v := (4 : Int32)) hx hb dX7_init_369 (by decide) ?_
  refine lv_sipush (v := (169 : Int32)) hx hb dX7_init_370 (by decide) ?_
  refine pq_iastL C hh (pq_vin (by decide)) dX7_init_373 (fun H locs hh => ?_)
  have hh : pq_H D A s (Wd ++ [(a, .inl (cI, 16, .inl aiX7_init_345_4))]) H locs := hh
  refine lv_dup hx hb dX7_init_374 rfl ?_
  refine lv_iconst (v := (5 : Int32)) hx hb dX7_init_375 (by decide) ?_
  refine lv_sipush (v := (224 : Int32)) hx hb dX7_init_376 (by decide) ?_
  refine pq_iastL C hh (pq_vin (by decide)) dX7_init_379 (fun H locs hh => ?_)
  have hh : pq_H D A s (Wd ++ [(a, .inl (cI, 16, .inl aiX7_init_345_5))]) H locs := hh
  refine lv_dup hx hb dX7_init_380 rfl ?_
  refine lv_bipush (v := (6 : Int32)) hx hb dX7_init_381 (by decide) ?_
  refine lv_sipush (v := (274 : Int32)) hx hb dX7_init_383 (by decide) ?_
  refine pq_iastL C hh (pq_vin (by decide)) dX7_init_386 (fun H locs hh => ?_)
  have hh : pq_H D A s (Wd ++ [(a, .inl (cI, 16, .inl aiX7_init_345_6))]) H locs := hh
  refine lv_dup hx hb dX7_init_387 rfl ?_
  refine lv_bipush (v := (7 : Int32)) hx hb dX7_init_388 (by decide) ?_
  refine lv_sipush (v := (318 : Int32)) hx hb dX7_init_390 (by decide) ?_
  refine pq_iastL C hh (pq_vin (by decide)) dX7_init_393 (fun H locs hh => ?_)
  have hh : pq_H D A s (Wd ++ [(a, .inl (cI, 16, .inl aiX7_init_345_7))]) H locs := hh
  refine lv_dup hx hb dX7_init_394 rfl ?_
  refine lv_bipush (v := (8 : Int32)) hx hb dX7_init_395 (by decide) ?_
  refine lv_sipush (v := (358 : Int32)) hx hb dX7_init_397 (by decide) ?_
  refine pq_iastL C hh (pq_vin (by decide)) dX7_init_400 (fun H locs hh => ?_)
  have hh : pq_H D A s (Wd ++ [(a, .inl (cI, 16, .inl aiX7_init_345_8))]) H locs := hh
  refine lv_dup hx hb dX7_init_401 rfl ?_
  refine lv_bipush (v := (9 : Int32)) hx hb dX7_init_402 (by decide) ?_
  refine lv_sipush (v := (395 : Int32)) hx hb dX7_init_404 (by decide) ?_
  refine pq_iastL C hh (pq_vin (by decide)) dX7_init_407 (fun H locs hh => ?_)
  have hh : pq_H D A s (Wd ++ [(a, .inl (cI, 16, .inl aiX7_init_345_9))]) H locs := hh
  refine lv_dup hx hb dX7_init_408 rfl ?_
  refine lv_bipush (v := (10 : Int32)) hx hb dX7_init_409 (by decide) ?_
  refine lv_sipush (v := (429 : Int32)) hx hb dX7_init_411 (by decide) ?_
  refine pq_iastL C hh (pq_vin (by decide)) dX7_init_414 (fun H locs hh => ?_)
  have hh : pq_H D A s (Wd ++ [(a, .inl (cI, 16, .inl aiX7_init_345_10))]) H locs := hh
  refine lv_dup hx hb dX7_init_415 rfl ?_
  refine lv_bipush (v := (11 : Int32)) hx hb dX7_init_416 (by decide) ?_
  refine lv_sipush (v := (459 : Int32)) hx hb dX7_init_418 (by decide) ?_
  refine pq_iastL C hh (pq_vin (by decide)) dX7_init_421 (fun H locs hh => ?_)
  have hh : pq_H D A s (Wd ++ [(a, .inl (cI, 16, .inl aiX7_init_345_11))]) H locs := hh
  refine lv_dup hx hb dX7_init_422 rfl ?_
  refine lv_bipush (v := (12 : Int32)) hx hb dX7_init_423 (by decide) ?_
  refine lv_sipush (v := (488 : Int32)) hx hb dX7_init_425 (by decide) ?_
  refine pq_iastL C hh (pq_vin (by decide)) dX7_init_428 (fun H locs hh => ?_)
  have hh : pq_H D A s (Wd ++ [(a, .inl (cI, 16, .inl aiX7_init_345_12))]) H locs := hh
  refine lv_dup hx hb dX7_init_429 rfl ?_
  refine lv_bipush (v := (13 : Int32)) hx hb dX7_init_430 (by decide) ?_
  refine lv_sipush (v := (514 : Int32)) hx hb dX7_init_432 (by decide) ?_
  refine pq_iastL C hh (pq_vin (by decide)) dX7_init_435 (fun H locs hh => ?_)
  have hh : pq_H D A s (Wd ++ [(a, .inl (cI, 16, .inl aiX7_init_345_13))]) H locs := hh
  refine lv_dup hx hb dX7_init_436 rfl ?_
  refine lv_bipush (v := (14 : Int32)) hx hb dX7_init_437 (by decide) ?_
  refine lv_sipush (v := (539 : Int32)) hx hb dX7_init_439 (by decide) ?_
  refine pq_iastL C hh (pq_vin (by decide)) dX7_init_442 (fun H locs hh => ?_)
  have hh : pq_H D A s (Wd ++ [(a, .inl (cI, 16, .inl aiX7_init_345_14))]) H locs := hh
  refine lv_dup hx hb dX7_init_443 rfl ?_
  refine lv_bipush (v := (15 : Int32)) hx hb dX7_init_444 (by decide) ?_
  refine lv_sipush (v := (566 : Int32)) hx hb dX7_init_446 (by decide) ?_
  refine pq_iastL C hh (pq_vin (by decide)) dX7_init_449 (fun H locs hh => ?_)
  have hh : pq_H D A s (Wd ++ [(a, .inl (cI, 16, .inl aiX7_init_345_15))]) H locs := hh
  exact kk _ _ hh
set_option maxHeartbeats 4000000 in
set_option maxRecDepth 100000 in
theorem fiX7_init_455 {p : Program} {l : Launch} {e : Env} {R : Room} {s : State} {m : MethodId} {args : Array Value} {below : List Frame} {meth : Method} {c : Code} {H : Heap} {locs : List Loc} {cells slots : Nat} {Q : State → Prop} {ls : Array Slot} {rest : List Value} {D : va_G} {A : Nat → Prop} {a : Nat} {Wd : va_W} {cI cL : ClassId} (C : pq_Cx p c m cX7_init 1 s args qsX7_init RX7 D cI cL A) (hh : pq_H D A s (Wd ++ [(a, .inl (cI, 2, .inl (fun _ => 0)))]) H locs)
    (kk : ∀ (H1 : Heap) (locs1 : List Loc), pq_H D A s (Wd ++ [(a, .inl (cI, 2, .inl aiX7_init_455_1))]) H1 locs1 → W p l e R s m args below meth c H1 locs1 cells slots Q (F0 m 469 ls (.ref a :: rest))) : W p l e R s m args below meth c H locs cells slots Q (F0 m 457 ls (.ref a :: rest)) := by
  have hx := C.1
  have hb := C.2.1
  have hown : s.vm.findClass RX7 = some m.cls := C.2.2.2.1
  have htw : ∀ w ∈ wsL_law, w.before args s = true := fun w h => C.2.2.2.2.1 w (List.mem_cons_of_mem _ h)
  refine lv_dup hx hb dX7_init_457 rfl ?_
  refine lv_iconst (v := (0 : Int32)) hx hb dX7_init_458 (by decide) ?_
  refine lv_sipush (v := (-704 : Int32)) hx hb dX7_init_459 (by decide) ?_
  refine pq_iastL C hh (pq_vin (by decide)) dX7_init_462 (fun H locs hh => ?_)
  have hh : pq_H D A s (Wd ++ [(a, .inl (cI, 2, .inl aiX7_init_455_0))]) H locs := hh
  refine lv_dup hx hb dX7_init_463 rfl ?_
  refine lv_iconst (v := (1 : Int32)) hx hb dX7_init_464 (by decide) ?_
  refine lv_sipush (v := (14048 : Int32)) hx hb dX7_init_465 (by decide) ?_
  refine pq_iastL C hh (pq_vin (by decide)) dX7_init_468 (fun H locs hh => ?_)
  have hh : pq_H D A s (Wd ++ [(a, .inl (cI, 2, .inl aiX7_init_455_1))]) H locs := hh
  exact kk _ _ hh
set_option maxHeartbeats 4000000 in
set_option maxRecDepth 100000 in
theorem fiX7_init_474 {p : Program} {l : Launch} {e : Env} {R : Room} {s : State} {m : MethodId} {args : Array Value} {below : List Frame} {meth : Method} {c : Code} {H : Heap} {locs : List Loc} {cells slots : Nat} {Q : State → Prop} {ls : Array Slot} {rest : List Value} {D : va_G} {A : Nat → Prop} {a : Nat} {Wd : va_W} {cI cL : ClassId} (C : pq_Cx p c m cX7_init 1 s args qsX7_init RX7 D cI cL A) (hh : pq_H D A s (Wd ++ [(a, .inl (cI, 4, .inl (fun _ => 0)))]) H locs)
    (kk : ∀ (H1 : Heap) (locs1 : List Loc), pq_H D A s (Wd ++ [(a, .inl (cI, 4, .inl aiX7_init_474_3))]) H1 locs1 → W p l e R s m args below meth c H1 locs1 cells slots Q (F0 m 499 ls (.ref a :: rest))) : W p l e R s m args below meth c H locs cells slots Q (F0 m 476 ls (.ref a :: rest)) := by
  have hx := C.1
  have hb := C.2.1
  have hown : s.vm.findClass RX7 = some m.cls := C.2.2.2.1
  have htw : ∀ w ∈ wsL_law, w.before args s = true := fun w h => C.2.2.2.2.1 w (List.mem_cons_of_mem _ h)
  refine lv_dup hx hb dX7_init_476 rfl ?_
  refine lv_iconst (v := (0 : Int32)) hx hb dX7_init_477 (by decide) ?_
  refine lv_bipush (v := (-128 : Int32)) hx hb dX7_init_478 (by decide) ?_
  refine pq_iastL C hh (pq_vin (by decide)) dX7_init_480 (fun H locs hh => ?_)
  have hh : pq_H D A s (Wd ++ [(a, .inl (cI, 4, .inl aiX7_init_474_0))]) H locs := hh
  refine lv_dup hx hb dX7_init_481 rfl ?_
  refine lv_iconst (v := (1 : Int32)) hx hb dX7_init_482 (by decide) ?_
  refine lv_sipush (v := (960 : Int32)) hx hb dX7_init_483 (by decide) ?_
  refine pq_iastL C hh (pq_vin (by decide)) dX7_init_486 (fun H locs hh => ?_)
  have hh : pq_H D A s (Wd ++ [(a, .inl (cI, 4, .inl aiX7_init_474_1))]) H locs := hh
  refine lv_dup hx hb dX7_init_487 rfl ?_
  refine lv_iconst (v := (2 : Int32)) hx hb dX7_init_488 (by decide) ?_
  refine lv_sipush (v := (4384 : Int32)) hx hb dX7_init_489 (by decide) ?_
  refine pq_iastL C hh (pq_vin (by decide)) dX7_init_492 (fun H locs hh => ?_)
  have hh : pq_H D A s (Wd ++ [(a, .inl (cI, 4, .inl aiX7_init_474_2))]) H locs := hh
  refine lv_dup hx hb dX7_init_493 rfl ?_
  refine lv_iconst (v := (3 : Int32)) hx hb dX7_init_494 (by decide) ?_
  refine lv_sipush (v := (18624 : Int32)) hx hb dX7_init_495 (by decide) ?_
  refine pq_iastL C hh (pq_vin (by decide)) dX7_init_498 (fun H locs hh => ?_)
  have hh : pq_H D A s (Wd ++ [(a, .inl (cI, 4, .inl aiX7_init_474_3))]) H locs := hh
  exact kk _ _ hh
set_option maxHeartbeats 4000000 in
set_option maxRecDepth 100000 in
theorem fiX7_init_505 {p : Program} {l : Launch} {e : Env} {R : Room} {s : State} {m : MethodId} {args : Array Value} {below : List Frame} {meth : Method} {c : Code} {H : Heap} {locs : List Loc} {cells slots : Nat} {Q : State → Prop} {ls : Array Slot} {rest : List Value} {D : va_G} {A : Nat → Prop} {a : Nat} {Wd : va_W} {cI cL : ClassId} (C : pq_Cx p c m cX7_init 1 s args qsX7_init RX7 D cI cL A) (hh : pq_H D A s (Wd ++ [(a, .inl (cI, 8, .inl (fun _ => 0)))]) H locs)
    (kk : ∀ (H1 : Heap) (locs1 : List Loc), pq_H D A s (Wd ++ [(a, .inl (cI, 8, .inl aiX7_init_505_7))]) H1 locs1 → W p l e R s m args below meth c H1 locs1 cells slots Q (F0 m 556 ls (.ref a :: rest))) : W p l e R s m args below meth c H locs cells slots Q (F0 m 507 ls (.ref a :: rest)) := by
  have hx := C.1
  have hb := C.2.1
  have hown : s.vm.findClass RX7 = some m.cls := C.2.2.2.1
  have htw : ∀ w ∈ wsL_law, w.before args s = true := fun w h => C.2.2.2.2.1 w (List.mem_cons_of_mem _ h)
  refine lv_dup hx hb dX7_init_507 rfl ?_
  refine lv_iconst (v := (0 : Int32)) hx hb dX7_init_508 (by decide) ?_
  refine lv_sipush (v := (-384 : Int32)) hx hb dX7_init_509 (by decide) ?_
  refine pq_iastL C hh (pq_vin (by decide)) dX7_init_512 (fun H locs hh => ?_)
  have hh : pq_H D A s (Wd ++ [(a, .inl (cI, 8, .inl aiX7_init_505_0))]) H locs := hh
  refine lv_dup hx hb dX7_init_513 rfl ?_
  refine lv_iconst (v := (1 : Int32)) hx hb dX7_init_514 (by decide) ?_
  refine lv_sipush (v := (576 : Int32)) hx hb dX7_init_515 (by decide) ?_
  refine pq_iastL C hh (pq_vin (by decide)) dX7_init_518 (fun H locs hh => ?_)
  have hh : pq_H D A s (Wd ++ [(a, .inl (cI, 8, .inl aiX7_init_505_1))]) H locs := hh
  refine lv_dup hx hb dX7_init_519 rfl ?_
  refine lv_iconst (v := (2 : Int32)) hx hb dX7_init_520 (by decide) ?_
  refine lv_sipush (v := (1312 : Int32)) hx hb dX7_init_521 (by decide) ?_
  refine pq_iastL C hh (pq_vin (by decide)) dX7_init_524 (fun H locs hh => ?_)
  have hh : pq_H D A s (Wd ++ [(a, .inl (cI, 8, .inl aiX7_init_505_2))]) H locs := hh
  refine lv_dup hx hb dX7_init_525 rfl ?_
  refine lv_iconst (v := (3 : Int32)) hx hb dX7_init_526 (by decide) ?_
  refine lv_sipush (v := (2048 : Int32)) hx hb dX7_init_527 (by decide) ?_
  refine pq_iastL C hh (pq_vin (by decide)) dX7_init_530 (fun H locs hh => ?_)
  have hh : pq_H D A s (Wd ++ [(a, .inl (cI, 8, .inl aiX7_init_505_3))]) H locs := hh
  refine lv_dup hx hb dX7_init_531 rfl ?_
  refine lv_iconst (v := (4 : Int32)) hx hb dX7_init_532 (by decide) ?_
  refine lv_sipush (v := (3584 : Int32)) hx hb dX7_init_533 (by decide) ?_
  refine pq_iastL C hh (pq_vin (by decide)) dX7_init_536 (fun H locs hh => ?_)
  have hh : pq_H D A s (Wd ++ [(a, .inl (cI, 8, .inl aiX7_init_505_4))]) H locs := hh
  refine lv_dup hx hb dX7_init_537 rfl ?_
  refine lv_iconst (v := (5 : Int32)) hx hb dX7_init_538 (by decide) ?_
  refine lv_sipush (v := (6336 : Int32)) hx hb dX7_init_539 (by decide) ?_
  refine pq_iastL C hh (pq_vin (by decide)) dX7_init_542 (fun H locs hh => ?_)
  have hh : pq_H D A s (Wd ++ [(a, .inl (cI, 8, .inl aiX7_init_505_5))]) H locs := hh
  refine lv_dup hx hb dX7_init_543 rfl ?_
  refine lv_bipush (v := (6 : Int32)) hx hb dX7_init_544 (by decide) ?_
  refine lv_sipush (v := (11360 : Int32)) hx hb dX7_init_546 (by decide) ?_
  refine pq_iastL C hh (pq_vin (by decide)) dX7_init_549 (fun H locs hh => ?_)
  have hh : pq_H D A s (Wd ++ [(a, .inl (cI, 8, .inl aiX7_init_505_6))]) H locs := hh
  refine lv_dup hx hb dX7_init_550 rfl ?_
  refine lv_bipush (v := (7 : Int32)) hx hb dX7_init_551 (by decide) ?_
  refine lv_ldc (v := (35904 : Int32)) hx hb hown (htw (.constant RX7 50 (35904)) (pq_m4 _ (List.mem_of_getElem? (i := 10) rfl))) dX7_init_553 ?_
  refine pq_iastL C hh (pq_vin (by decide)) dX7_init_555 (fun H locs hh => ?_)
  have hh : pq_H D A s (Wd ++ [(a, .inl (cI, 8, .inl aiX7_init_505_7))]) H locs := hh
  exact kk _ _ hh
set_option maxHeartbeats 4000000 in
set_option maxRecDepth 100000 in
theorem fiX7_init_562 {p : Program} {l : Launch} {e : Env} {R : Room} {s : State} {m : MethodId} {args : Array Value} {below : List Frame} {meth : Method} {c : Code} {H : Heap} {locs : List Loc} {cells slots : Nat} {Q : State → Prop} {ls : Array Slot} {rest : List Value} {D : va_G} {A : Nat → Prop} {a : Nat} {Wd : va_W} {cI cL : ClassId} (C : pq_Cx p c m cX7_init 1 s args qsX7_init RX7 D cI cL A) (hh : pq_H D A s (Wd ++ [(a, .inl (cI, 16, .inl (fun _ => 0)))]) H locs)
    (kk : ∀ (H1 : Heap) (locs1 : List Loc), pq_H D A s (Wd ++ [(a, .inl (cI, 16, .inl aiX7_init_562_15))]) H1 locs1 → W p l e R s m args below meth c H1 locs1 cells slots Q (F0 m 670 ls (.ref a :: rest))) : W p l e R s m args below meth c H locs cells slots Q (F0 m 564 ls (.ref a :: rest)) := by
  have hx := C.1
  have hb := C.2.1
  have hown : s.vm.findClass RX7 = some m.cls := C.2.2.2.1
  have htw : ∀ w ∈ wsL_law, w.before args s = true := fun w h => C.2.2.2.2.1 w (List.mem_cons_of_mem _ h)
  refine lv_dup hx hb dX7_init_564 rfl ?_
  refine lv_iconst (v := (0 : Int32)) hx hb dX7_init_565 (by decide) ?_
  refine lv_sipush (v := (448 : Int32)) hx hb dX7_init_566 (by decide) ?_
  refine pq_iastL C hh (pq_vin (by decide)) dX7_init_569 (fun H locs hh => ?_)
  have hh : pq_H D A s (Wd ++ [(a, .inl (cI, 16, .inl aiX7_init_562_0))]) H locs := hh
  refine lv_dup hx hb dX7_init_570 rfl ?_
  refine lv_iconst (v := (1 : Int32)) hx hb dX7_init_571 (by decide) ?_
  refine lv_sipush (v := (448 : Int32)) hx hb dX7_init_572 (by decide) ?_
  refine pq_iastL C hh (pq_vin (by decide)) dX7_init_575 (fun H locs hh => ?_)
  have hh : pq_H D A s (Wd ++ [(a, .inl (cI, 16, .inl aiX7_init_562_1))]) H locs := hh
  refine lv_dup hx hb dX7_init_576 rfl ?_
  refine lv_iconst (v := (2 : Int32)) hx hb dX7_init_577 (by decide) ?_
  refine lv_sipush (v := (768 : Int32)) hx hb dX7_init_578 (by decide) ?_
  refine pq_iastL C hh (pq_vin (by decide)) dX7_init_581 (fun H locs hh => ?_)
  have hh : pq_H D A s (Wd ++ [(a, .inl (cI, 16, .inl aiX7_init_562_2))]) H locs := hh
  refine lv_dup hx hb dX7_init_582 rfl ?_
  refine lv_iconst (v := (3 : Int32)) hx hb dX7_init_583 (by decide) ?_
  refine lv_sipush (v := (1248 : Int32)) hx hb dX7_init_584 (by decide) ?_
  refine pq_iastL C hh (pq_vin (by decide)) dX7_init_587 (fun H locs hh => ?_)
  have hh : pq_H D A s (Wd ++ [(a, .inl (cI, 16, .inl aiX7_init_562_3))]) H locs := hh
  refine lv_dup hx hb dX7_init_588 rfl ?_
  refine lv_iconst (v := (4 : Int32)) hx hb dX7_init_589 (by decide) ?_
  refine lv_sipush (v := (1280 : Int32)) hx hb dX7_init_590 (by decide) ?_
  refine pq_iastL C hh (pq_vin (by decide)) dX7_init_593 (fun H locs hh => ?_)
  have hh : pq_H D A s (Wd ++ [(a, .inl (cI, 16, .inl aiX7_init_562_4))]) H locs := hh
  refine lv_dup hx hb dX7_init_594 rfl ?_
  refine lv_iconst (v := (5 : Int32)) hx hb dX7_init_595 (by decide) ?_
  refine lv_sipush (v := (1312 : Int32)) hx hb dX7_init_596 (by decide) ?_
  refine pq_iastL C hh (pq_vin (by decide)) dX7_init_599 (fun H locs hh => ?_)
  have hh : pq_H D A s (Wd ++ [(a, .inl (cI, 16, .inl aiX7_init_562_5))]) H locs := hh
  refine lv_dup hx hb dX7_init_600 rfl ?_
  refine lv_bipush (v := (6 : Int32)) hx hb dX7_init_601 (by decide) ?_
  refine lv_sipush (v := (1856 : Int32)) hx hb dX7_init_603 (by decide) ?_
  refine pq_iastL C hh (pq_vin (by decide)) dX7_init_606 (fun H locs hh => ?_)
  have hh : pq_H D A s (Wd ++ [(a, .inl (cI, 16, .inl aiX7_init_562_6))]) H locs := hh
  refine lv_dup hx hb dX7_init_607 rfl ?_
  refine lv_bipush (v := (7 : Int32)) hx hb dX7_init_608 (by decide) ?_
  refine lv_sipush (v := (3200 : Int32)) hx hb dX7_init_610 (by decide) ?_
  refine pq_iastL C hh (pq_vin (by decide)) dX7_init_613 (fun H locs hh => ?_)
  have hh : pq_H D A s (Wd ++ [(a, .inl (cI, 16, .inl aiX7_init_562_7))]) H locs := hh
  refine lv_dup hx hb dX7_init_614 rfl ?_
  refine lv_bipush (v := (8 : Int32)) hx hb dX7_init_615 (by decide) ?_
  refine lv_sipush (v := (4512 : Int32)) hx hb dX7_init_617 (by decide) ?_
  refine pq_iastL C hh (pq_vin (by decide)) dX7_init_620 (fun H locs hh => ?_)
  have hh : pq_H D A s (Wd ++ [(a, .inl (cI, 16, .inl aiX7_init_562_8))]) H locs := hh
  refine lv_dup hx hb dX7_init_621 rfl ?_
  refine lv_bipush (v := (9 : Int32)) hx hb dX7_init_622 (by decide) ?_
  refine lv_sipush (v := (5728 : Int32)) hx hb dX7_init_624 (by decide) ?_
  refine pq_iastL C hh (pq_vin (by decide)) dX7_init_627 (fun H locs hh => ?_)
  have hh : pq_H D A s (Wd ++ [(a, .inl (cI, 16, .inl aiX7_init_562_9))]) H locs := hh
  refine lv_dup hx hb dX7_init_628 rfl ?_
  refine lv_bipush (v := (10 : Int32)) hx hb dX7_init_629 (by decide) ?_
  refine lv_sipush (v := (7008 : Int32)) hx hb dX7_init_631 (by decide) ?_
  refine pq_iastL C hh (pq_vin (by decide)) dX7_init_634 (fun H locs hh => ?_)
  have hh : pq_H D A s (Wd ++ [(a, .inl (cI, 16, .inl aiX7_init_562_10))]) H locs := hh
  refine lv_dup hx hb dX7_init_635 rfl ?_
  refine lv_bipush (v := (11 : Int32)) hx hb dX7_init_636 (by decide) ?_
  refine lv_sipush (v := (8960 : Int32)) hx hb dX7_init_638 (by decide) ?_
  refine pq_iastL C hh (pq_vin (by decide)) dX7_init_641 (fun H locs hh => ?_)
  have hh : pq_H D A s (Wd ++ [(a, .inl (cI, 16, .inl aiX7_init_562_11))]) H locs := hh
  refine lv_dup hx hb dX7_init_642 rfl ?_
  refine lv_bipush (v := (12 : Int32)) hx hb dX7_init_643 (by decide) ?_
  refine lv_sipush (v := (11456 : Int32)) hx hb dX7_init_645 (by decide) ?_
  refine pq_iastL C hh (pq_vin (by decide)) dX7_init_648 (fun H locs hh => ?_)
  have hh : pq_H D A s (Wd ++ [(a, .inl (cI, 16, .inl aiX7_init_562_12))]) H locs := hh
  refine lv_dup hx hb dX7_init_649 rfl ?_
  refine lv_bipush (v := (13 : Int32)) hx hb dX7_init_650 (by decide) ?_
  refine lv_sipush (v := (14080 : Int32)) hx hb dX7_init_652 (by decide) ?_
  refine pq_iastL C hh (pq_vin (by decide)) dX7_init_655 (fun H locs hh => ?_)
  have hh : pq_H D A s (Wd ++ [(a, .inl (cI, 16, .inl aiX7_init_562_13))]) H locs := hh
  refine lv_dup hx hb dX7_init_656 rfl ?_
  refine lv_bipush (v := (14 : Int32)) hx hb dX7_init_657 (by decide) ?_
  refine lv_sipush (v := (16928 : Int32)) hx hb dX7_init_659 (by decide) ?_
  refine pq_iastL C hh (pq_vin (by decide)) dX7_init_662 (fun H locs hh => ?_)
  have hh : pq_H D A s (Wd ++ [(a, .inl (cI, 16, .inl aiX7_init_562_14))]) H locs := hh
  refine lv_dup hx hb dX7_init_663 rfl ?_
  refine lv_bipush (v := (15 : Int32)) hx hb dX7_init_664 (by decide) ?_
  refine lv_sipush (v := (22272 : Int32)) hx hb dX7_init_666 (by decide) ?_
  refine pq_iastL C hh (pq_vin (by decide)) dX7_init_669 (fun H locs hh => ?_)
  have hh : pq_H D A s (Wd ++ [(a, .inl (cI, 16, .inl aiX7_init_562_15))]) H locs := hh
  exact kk _ _ hh
set_option maxHeartbeats 4000000 in
set_option maxRecDepth 100000 in
theorem fiX7_init_675 {p : Program} {l : Launch} {e : Env} {R : Room} {s : State} {m : MethodId} {args : Array Value} {below : List Frame} {meth : Method} {c : Code} {H : Heap} {locs : List Loc} {cells slots : Nat} {Q : State → Prop} {ls : Array Slot} {rest : List Value} {D : va_G} {A : Nat → Prop} {a : Nat} {Wd : va_W} {cI cL : ClassId} (C : pq_Cx p c m cX7_init 1 s args qsX7_init RX7 D cI cL A) (hh : pq_H D A s (Wd ++ [(a, .inl (cI, 2, .inl (fun _ => 0)))]) H locs)
    (kk : ∀ (H1 : Heap) (locs1 : List Loc), pq_H D A s (Wd ++ [(a, .inl (cI, 2, .inl aiX7_init_675_1))]) H1 locs1 → W p l e R s m args below meth c H1 locs1 cells slots Q (F0 m 687 ls (.ref a :: rest))) : W p l e R s m args below meth c H locs cells slots Q (F0 m 677 ls (.ref a :: rest)) := by
  have hx := C.1
  have hb := C.2.1
  have hown : s.vm.findClass RX7 = some m.cls := C.2.2.2.1
  have htw : ∀ w ∈ wsL_law, w.before args s = true := fun w h => C.2.2.2.2.1 w (List.mem_cons_of_mem _ h)
  refine lv_dup hx hb dX7_init_677 rfl ?_
  refine lv_iconst (v := (0 : Int32)) hx hb dX7_init_678 (by decide) ?_
  refine lv_iconst (v := (0 : Int32)) hx hb dX7_init_679 (by decide) ?_
  refine pq_iastL C hh (pq_vin (by decide)) dX7_init_680 (fun H locs hh => ?_)
  have hh : pq_H D A s (Wd ++ [(a, .inl (cI, 2, .inl aiX7_init_675_0))]) H locs := hh
  refine lv_dup hx hb dX7_init_681 rfl ?_
  refine lv_iconst (v := (1 : Int32)) hx hb dX7_init_682 (by decide) ?_
  refine lv_sipush (v := (3584 : Int32)) hx hb dX7_init_683 (by decide) ?_
  refine pq_iastL C hh (pq_vin (by decide)) dX7_init_686 (fun H locs hh => ?_)
  have hh : pq_H D A s (Wd ++ [(a, .inl (cI, 2, .inl aiX7_init_675_1))]) H locs := hh
  exact kk _ _ hh
set_option maxHeartbeats 4000000 in
set_option maxRecDepth 100000 in
theorem fiX7_init_692 {p : Program} {l : Launch} {e : Env} {R : Room} {s : State} {m : MethodId} {args : Array Value} {below : List Frame} {meth : Method} {c : Code} {H : Heap} {locs : List Loc} {cells slots : Nat} {Q : State → Prop} {ls : Array Slot} {rest : List Value} {D : va_G} {A : Nat → Prop} {a : Nat} {Wd : va_W} {cI cL : ClassId} (C : pq_Cx p c m cX7_init 1 s args qsX7_init RX7 D cI cL A) (hh : pq_H D A s (Wd ++ [(a, .inl (cI, 4, .inl (fun _ => 0)))]) H locs)
    (kk : ∀ (H1 : Heap) (locs1 : List Loc), pq_H D A s (Wd ++ [(a, .inl (cI, 4, .inl aiX7_init_692_3))]) H1 locs1 → W p l e R s m args below meth c H1 locs1 cells slots Q (F0 m 716 ls (.ref a :: rest))) : W p l e R s m args below meth c H locs cells slots Q (F0 m 694 ls (.ref a :: rest)) := by
  have hx := C.1
  have hb := C.2.1
  have hown : s.vm.findClass RX7 = some m.cls := C.2.2.2.1
  have htw : ∀ w ∈ wsL_law, w.before args s = true := fun w h => C.2.2.2.2.1 w (List.mem_cons_of_mem _ h)
  refine lv_dup hx hb dX7_init_694 rfl ?_
  refine lv_iconst (v := (0 : Int32)) hx hb dX7_init_695 (by decide) ?_
  refine lv_iconst (v := (0 : Int32)) hx hb dX7_init_696 (by decide) ?_
  refine pq_iastL C hh (pq_vin (by decide)) dX7_init_697 (fun H locs hh => ?_)
  have hh : pq_H D A s (Wd ++ [(a, .inl (cI, 4, .inl aiX7_init_692_0))]) H locs := hh
  refine lv_dup hx hb dX7_init_698 rfl ?_
  refine lv_iconst (v := (1 : Int32)) hx hb dX7_init_699 (by decide) ?_
  refine lv_sipush (v := (512 : Int32)) hx hb dX7_init_700 (by decide) ?_
  refine pq_iastL C hh (pq_vin (by decide)) dX7_init_703 (fun H locs hh => ?_)
  have hh : pq_H D A s (Wd ++ [(a, .inl (cI, 4, .inl aiX7_init_692_1))]) H locs := hh
  refine lv_dup hx hb dX7_init_704 rfl ?_
  refine lv_iconst (v := (2 : Int32)) hx hb dX7_init_705 (by decide) ?_
  refine lv_sipush (v := (1024 : Int32)) hx hb dX7_init_706 (by decide) ?_
  refine pq_iastL C hh (pq_vin (by decide)) dX7_init_709 (fun H locs hh => ?_)
  have hh : pq_H D A s (Wd ++ [(a, .inl (cI, 4, .inl aiX7_init_692_2))]) H locs := hh
  refine lv_dup hx hb dX7_init_710 rfl ?_
  refine lv_iconst (v := (3 : Int32)) hx hb dX7_init_711 (by decide) ?_
  refine lv_sipush (v := (3584 : Int32)) hx hb dX7_init_712 (by decide) ?_
  refine pq_iastL C hh (pq_vin (by decide)) dX7_init_715 (fun H locs hh => ?_)
  have hh : pq_H D A s (Wd ++ [(a, .inl (cI, 4, .inl aiX7_init_692_3))]) H locs := hh
  exact kk _ _ hh
set_option maxHeartbeats 4000000 in
set_option maxRecDepth 100000 in
theorem fiX7_init_722 {p : Program} {l : Launch} {e : Env} {R : Room} {s : State} {m : MethodId} {args : Array Value} {below : List Frame} {meth : Method} {c : Code} {H : Heap} {locs : List Loc} {cells slots : Nat} {Q : State → Prop} {ls : Array Slot} {rest : List Value} {D : va_G} {A : Nat → Prop} {a : Nat} {Wd : va_W} {cI cL : ClassId} (C : pq_Cx p c m cX7_init 1 s args qsX7_init RX7 D cI cL A) (hh : pq_H D A s (Wd ++ [(a, .inl (cI, 8, .inl (fun _ => 0)))]) H locs)
    (kk : ∀ (H1 : Heap) (locs1 : List Loc), pq_H D A s (Wd ++ [(a, .inl (cI, 8, .inl aiX7_init_722_7))]) H1 locs1 → W p l e R s m args below meth c H1 locs1 cells slots Q (F0 m 768 ls (.ref a :: rest))) : W p l e R s m args below meth c H locs cells slots Q (F0 m 724 ls (.ref a :: rest)) := by
  have hx := C.1
  have hb := C.2.1
  have hown : s.vm.findClass RX7 = some m.cls := C.2.2.2.1
  have htw : ∀ w ∈ wsL_law, w.before args s = true := fun w h => C.2.2.2.2.1 w (List.mem_cons_of_mem _ h)
  refine lv_dup hx hb dX7_init_724 rfl ?_
  refine lv_iconst (v := (0 : Int32)) hx hb dX7_init_725 (by decide) ?_
  refine lv_iconst (v := (0 : Int32)) hx hb dX7_init_726 (by decide) ?_
  refine pq_iastL C hh (pq_vin (by decide)) dX7_init_727 (fun H locs hh => ?_)
  have hh : pq_H D A s (Wd ++ [(a, .inl (cI, 8, .inl aiX7_init_722_0))]) H locs := hh
  refine lv_dup hx hb dX7_init_728 rfl ?_
  refine lv_iconst (v := (1 : Int32)) hx hb dX7_init_729 (by decide) ?_
  refine lv_iconst (v := (0 : Int32)) hx hb dX7_init_730 (by decide) ?_
  refine pq_iastL C hh (pq_vin (by decide)) dX7_init_731 (fun H locs hh => ?_)
  have hh : pq_H D A s (Wd ++ [(a, .inl (cI, 8, .inl aiX7_init_722_1))]) H locs := hh
  refine lv_dup hx hb dX7_init_732 rfl ?_
  refine lv_iconst (v := (2 : Int32)) hx hb dX7_init_733 (by decide) ?_
  refine lv_iconst (v := (0 : Int32)) hx hb dX7_init_734 (by decide) ?_
  refine pq_iastL C hh (pq_vin (by decide)) dX7_init_735 (fun H locs hh => ?_)
  have hh : pq_H D A s (Wd ++ [(a, .inl (cI, 8, .inl aiX7_init_722_2))]) H locs := hh
  refine lv_dup hx hb dX7_init_736 rfl ?_
  refine lv_iconst (v := (3 : Int32)) hx hb dX7_init_737 (by decide) ?_
  refine lv_sipush (v := (512 : Int32)) hx hb dX7_init_738 (by decide) ?_
  refine pq_iastL C hh (pq_vin (by decide)) dX7_init_741 (fun H locs hh => ?_)
  have hh : pq_H D A s (Wd ++ [(a, .inl (cI, 8, .inl aiX7_init_722_3))]) H locs := hh
  refine lv_dup hx hb dX7_init_742 rfl ?_
  refine lv_iconst (v := (4 : Int32)) hx hb dX7_init_743 (by decide) ?_
  refine lv_sipush (v := (512 : Int32)) hx hb dX7_init_744 (by decide) ?_
  refine pq_iastL C hh (pq_vin (by decide)) dX7_init_747 (fun H locs hh => ?_)
  have hh : pq_H D A s (Wd ++ [(a, .inl (cI, 8, .inl aiX7_init_722_4))]) H locs := hh
  refine lv_dup hx hb dX7_init_748 rfl ?_
  refine lv_iconst (v := (5 : Int32)) hx hb dX7_init_749 (by decide) ?_
  refine lv_sipush (v := (512 : Int32)) hx hb dX7_init_750 (by decide) ?_
  refine pq_iastL C hh (pq_vin (by decide)) dX7_init_753 (fun H locs hh => ?_)
  have hh : pq_H D A s (Wd ++ [(a, .inl (cI, 8, .inl aiX7_init_722_5))]) H locs := hh
  refine lv_dup hx hb dX7_init_754 rfl ?_
  refine lv_bipush (v := (6 : Int32)) hx hb dX7_init_755 (by decide) ?_
  refine lv_sipush (v := (1536 : Int32)) hx hb dX7_init_757 (by decide) ?_
  refine pq_iastL C hh (pq_vin (by decide)) dX7_init_760 (fun H locs hh => ?_)
  have hh : pq_H D A s (Wd ++ [(a, .inl (cI, 8, .inl aiX7_init_722_6))]) H locs := hh
  refine lv_dup hx hb dX7_init_761 rfl ?_
  refine lv_bipush (v := (7 : Int32)) hx hb dX7_init_762 (by decide) ?_
  refine lv_sipush (v := (3584 : Int32)) hx hb dX7_init_764 (by decide) ?_
  refine pq_iastL C hh (pq_vin (by decide)) dX7_init_767 (fun H locs hh => ?_)
  have hh : pq_H D A s (Wd ++ [(a, .inl (cI, 8, .inl aiX7_init_722_7))]) H locs := hh
  exact kk _ _ hh
set_option maxHeartbeats 4000000 in
set_option maxRecDepth 100000 in
theorem fiX7_init_774 {p : Program} {l : Launch} {e : Env} {R : Room} {s : State} {m : MethodId} {args : Array Value} {below : List Frame} {meth : Method} {c : Code} {H : Heap} {locs : List Loc} {cells slots : Nat} {Q : State → Prop} {ls : Array Slot} {rest : List Value} {D : va_G} {A : Nat → Prop} {a : Nat} {Wd : va_W} {cI cL : ClassId} (C : pq_Cx p c m cX7_init 1 s args qsX7_init RX7 D cI cL A) (hh : pq_H D A s (Wd ++ [(a, .inl (cI, 16, .inl (fun _ => 0)))]) H locs)
    (kk : ∀ (H1 : Heap) (locs1 : List Loc), pq_H D A s (Wd ++ [(a, .inl (cI, 16, .inl aiX7_init_774_15))]) H1 locs1 → W p l e R s m args below meth c H1 locs1 cells slots Q (F0 m 872 ls (.ref a :: rest))) : W p l e R s m args below meth c H locs cells slots Q (F0 m 776 ls (.ref a :: rest)) := by
  have hx := C.1
  have hb := C.2.1
  have hown : s.vm.findClass RX7 = some m.cls := C.2.2.2.1
  have htw : ∀ w ∈ wsL_law, w.before args s = true := fun w h => C.2.2.2.2.1 w (List.mem_cons_of_mem _ h)
  refine lv_dup hx hb dX7_init_776 rfl ?_
  refine lv_iconst (v := (0 : Int32)) hx hb dX7_init_777 (by decide) ?_
  refine lv_iconst (v := (0 : Int32)) hx hb dX7_init_778 (by decide) ?_
  refine pq_iastL C hh (pq_vin (by decide)) dX7_init_779 (fun H locs hh => ?_)
  have hh : pq_H D A s (Wd ++ [(a, .inl (cI, 16, .inl aiX7_init_774_0))]) H locs := hh
  refine lv_dup hx hb dX7_init_780 rfl ?_
  refine lv_iconst (v := (1 : Int32)) hx hb dX7_init_781 (by decide) ?_
  refine lv_iconst (v := (0 : Int32)) hx hb dX7_init_782 (by decide) ?_
  refine pq_iastL C hh (pq_vin (by decide)) dX7_init_783 (fun H locs hh => ?_)
  have hh : pq_H D A s (Wd ++ [(a, .inl (cI, 16, .inl aiX7_init_774_1))]) H locs := hh
  refine lv_dup hx hb dX7_init_784 rfl ?_
  refine lv_iconst (v := (2 : Int32)) hx hb dX7_init_785 (by decide) ?_
  refine lv_iconst (v := (0 : Int32)) hx hb dX7_init_786 (by decide) ?_
  refine pq_iastL C hh (pq_vin (by decide)) dX7_init_787 (fun H locs hh => ?_)
  have hh : pq_H D A s (Wd ++ [(a, .inl (cI, 16, .inl aiX7_init_774_2))]) H locs := hh
  refine lv_dup hx hb dX7_init_788 rfl ?_
  refine lv_iconst (v := (3 : Int32)) hx hb dX7_init_789 (by decide) ?_
  refine lv_iconst (v := (0 : Int32)) hx hb dX7_init_790 (by decide) ?_
  refine pq_iastL C hh (pq_vin (by decide)) dX7_init_791 (fun H locs hh => ?_)
  have hh : pq_H D A s (Wd ++ [(a, .inl (cI, 16, .inl aiX7_init_774_3))]) H locs := hh
  refine lv_dup hx hb dX7_init_792 rfl ?_
  refine lv_iconst (v := (4 : Int32)) hx hb dX7_init_793 (by decide) ?_
  refine lv_iconst (v := (0 : Int32)) hx hb dX7_init_794 (by decide) ?_
  refine pq_iastL C hh (pq_vin (by decide)) dX7_init_795 (fun H locs hh => ?_)
  have hh : pq_H D A s (Wd ++ [(a, .inl (cI, 16, .inl aiX7_init_774_4))]) H locs := hh
  refine lv_dup hx hb dX7_init_796 rfl ?_
  refine lv_iconst (v := (5 : Int32)) hx hb dX7_init_797 (by decide) ?_
  refine lv_sipush (v := (512 : Int32)) hx hb dX7_init_798 (by decide) ?_
  refine pq_iastL C hh (pq_vin (by decide)) dX7_init_801 (fun H locs hh => ?_)
  have hh : pq_H D A s (Wd ++ [(a, .inl (cI, 16, .inl aiX7_init_774_5))]) H locs := hh
  refine lv_dup hx hb dX7_init_802 rfl ?_
  refine lv_bipush (v := (6 : Int32)) hx hb dX7_init_803 (by decide) ?_
  refine lv_sipush (v := (512 : Int32)) hx hb dX7_init_805 (by decide) ?_
  refine pq_iastL C hh (pq_vin (by decide)) dX7_init_808 (fun H locs hh => ?_)
  have hh : pq_H D A s (Wd ++ [(a, .inl (cI, 16, .inl aiX7_init_774_6))]) H locs := hh
  refine lv_dup hx hb dX7_init_809 rfl ?_
  refine lv_bipush (v := (7 : Int32)) hx hb dX7_init_810 (by decide) ?_
  refine lv_sipush (v := (512 : Int32)) hx hb dX7_init_812 (by decide) ?_
  refine pq_iastL C hh (pq_vin (by decide)) dX7_init_815 (fun H locs hh => ?_)
  have hh : pq_H D A s (Wd ++ [(a, .inl (cI, 16, .inl aiX7_init_774_7))]) H locs := hh
  refine lv_dup hx hb dX7_init_816 rfl ?_
  refine lv_bipush (v := (8 : Int32)) hx hb dX7_init_817 (by decide) ?_
  refine lv_sipush (v := (512 : Int32)) hx hb dX7_init_819 (by decide) ?_
  refine pq_iastL C hh (pq_vin (by decide)) dX7_init_822 (fun H locs hh => ?_)
  have hh : pq_H D A s (Wd ++ [(a, .inl (cI, 16, .inl aiX7_init_774_8))]) H locs := hh
  refine lv_dup hx hb dX7_init_823 rfl ?_
  refine lv_bipush (v := (9 : Int32)) hx hb dX7_init_824 (by decide) ?_
  refine lv_sipush (v := (512 : Int32)) hx hb dX7_init_826 (by decide) ?_
  refine pq_iastL C hh (pq_vin (by decide)) dX7_init_829 (fun H locs hh => ?_)
  have hh : pq_H D A s (Wd ++ [(a, .inl (cI, 16, .inl aiX7_init_774_9))]) H locs := hh
  refine lv_dup hx hb dX7_init_830 rfl ?_
  refine lv_bipush (v := (10 : Int32)) hx hb dX7_init_831 (by decide) ?_
  refine lv_sipush (v := (1024 : Int32)) hx hb dX7_init_833 (by decide) ?_
  refine pq_iastL C hh (pq_vin (by decide)) dX7_init_836 (fun H locs hh => ?_)
  have hh : pq_H D A s (Wd ++ [(a, .inl (cI, 16, .inl aiX7_init_774_10))]) H locs := hh
  refine lv_dup hx hb dX7_init_837 rfl ?_
  refine lv_bipush (v := (11 : Int32)) hx hb dX7_init_838 (by decide) ?_
  refine lv_sipush (v := (1536 : Int32)) hx hb dX7_init_840 (by decide) ?_
  refine pq_iastL C hh (pq_vin (by decide)) dX7_init_843 (fun H locs hh => ?_)
  have hh : pq_H D A s (Wd ++ [(a, .inl (cI, 16, .inl aiX7_init_774_11))]) H locs := hh
  refine lv_dup hx hb dX7_init_844 rfl ?_
  refine lv_bipush (v := (12 : Int32)) hx hb dX7_init_845 (by decide) ?_
  refine lv_sipush (v := (2048 : Int32)) hx hb dX7_init_847 (by decide) ?_
  refine pq_iastL C hh (pq_vin (by decide)) dX7_init_850 (fun H locs hh => ?_)
  have hh : pq_H D A s (Wd ++ [(a, .inl (cI, 16, .inl aiX7_init_774_12))]) H locs := hh
  refine lv_dup hx hb dX7_init_851 rfl ?_
  refine lv_bipush (v := (13 : Int32)) hx hb dX7_init_852 (by decide) ?_
  refine lv_sipush (v := (2560 : Int32)) hx hb dX7_init_854 (by decide) ?_
  refine pq_iastL C hh (pq_vin (by decide)) dX7_init_857 (fun H locs hh => ?_)
  have hh : pq_H D A s (Wd ++ [(a, .inl (cI, 16, .inl aiX7_init_774_13))]) H locs := hh
  refine lv_dup hx hb dX7_init_858 rfl ?_
  refine lv_bipush (v := (14 : Int32)) hx hb dX7_init_859 (by decide) ?_
  refine lv_sipush (v := (3072 : Int32)) hx hb dX7_init_861 (by decide) ?_
  refine pq_iastL C hh (pq_vin (by decide)) dX7_init_864 (fun H locs hh => ?_)
  have hh : pq_H D A s (Wd ++ [(a, .inl (cI, 16, .inl aiX7_init_774_14))]) H locs := hh
  refine lv_dup hx hb dX7_init_865 rfl ?_
  refine lv_bipush (v := (15 : Int32)) hx hb dX7_init_866 (by decide) ?_
  refine lv_sipush (v := (3072 : Int32)) hx hb dX7_init_868 (by decide) ?_
  refine pq_iastL C hh (pq_vin (by decide)) dX7_init_871 (fun H locs hh => ?_)
  have hh : pq_H D A s (Wd ++ [(a, .inl (cI, 16, .inl aiX7_init_774_15))]) H locs := hh
  exact kk _ _ hh
set_option maxHeartbeats 4000000 in
set_option maxRecDepth 100000 in
theorem fiX7_init_896 {p : Program} {l : Launch} {e : Env} {R : Room} {s : State} {m : MethodId} {args : Array Value} {below : List Frame} {meth : Method} {c : Code} {H : Heap} {locs : List Loc} {cells slots : Nat} {Q : State → Prop} {ls : Array Slot} {rest : List Value} {D : va_G} {A : Nat → Prop} {a : Nat} {Wd : va_W} {cI cL : ClassId} (C : pq_Cx p c m cX7_init 1 s args qsX7_init RX7 D cI cL A) (hh : pq_H D A s (Wd ++ [(a, .inl (cI, 12, .inl (fun _ => 0)))]) H locs)
    (kk : ∀ (H1 : Heap) (locs1 : List Loc), pq_H D A s (Wd ++ [(a, .inl (cI, 12, .inl aiX7_init_896_11))]) H1 locs1 → W p l e R s m args below meth c H1 locs1 cells slots Q (F0 m 969 ls (.ref a :: rest))) : W p l e R s m args below meth c H locs cells slots Q (F0 m 898 ls (.ref a :: rest)) := by
  have hx := C.1
  have hb := C.2.1
  have hown : s.vm.findClass RX7 = some m.cls := C.2.2.2.1
  have htw : ∀ w ∈ wsL_law, w.before args s = true := fun w h => C.2.2.2.2.1 w (List.mem_cons_of_mem _ h)
  refine lv_dup hx hb dX7_init_898 rfl ?_
  refine lv_iconst (v := (0 : Int32)) hx hb dX7_init_899 (by decide) ?_
  refine lv_iconst (v := (3 : Int32)) hx hb dX7_init_900 (by decide) ?_
  refine pq_iastL C hh (pq_vin (by decide)) dX7_init_901 (fun H locs hh => ?_)
  have hh : pq_H D A s (Wd ++ [(a, .inl (cI, 12, .inl aiX7_init_896_0))]) H locs := hh
  refine lv_dup hx hb dX7_init_902 rfl ?_
  refine lv_iconst (v := (1 : Int32)) hx hb dX7_init_903 (by decide) ?_
  refine lv_bipush (v := (-11 : Int32)) hx hb dX7_init_904 (by decide) ?_
  refine pq_iastL C hh (pq_vin (by decide)) dX7_init_906 (fun H locs hh => ?_)
  have hh : pq_H D A s (Wd ++ [(a, .inl (cI, 12, .inl aiX7_init_896_1))]) H locs := hh
  refine lv_dup hx hb dX7_init_907 rfl ?_
  refine lv_iconst (v := (2 : Int32)) hx hb dX7_init_908 (by decide) ?_
  refine lv_bipush (v := (12 : Int32)) hx hb dX7_init_909 (by decide) ?_
  refine pq_iastL C hh (pq_vin (by decide)) dX7_init_911 (fun H locs hh => ?_)
  have hh : pq_H D A s (Wd ++ [(a, .inl (cI, 12, .inl aiX7_init_896_2))]) H locs := hh
  refine lv_dup hx hb dX7_init_912 rfl ?_
  refine lv_iconst (v := (3 : Int32)) hx hb dX7_init_913 (by decide) ?_
  refine lv_bipush (v := (32 : Int32)) hx hb dX7_init_914 (by decide) ?_
  refine pq_iastL C hh (pq_vin (by decide)) dX7_init_916 (fun H locs hh => ?_)
  have hh : pq_H D A s (Wd ++ [(a, .inl (cI, 12, .inl aiX7_init_896_3))]) H locs := hh
  refine lv_dup hx hb dX7_init_917 rfl ?_
  refine lv_iconst (v := (4 : Int32)) hx hb dX7_init_918 (by decide) ?_
  refine lv_sipush (v := (-210 : Int32)) hx hb dX7_init_919 (by decide) ?_
  refine pq_iastL C hh (pq_vin (by decide)) dX7_init_922 (fun H locs hh => ?_)
  have hh : pq_H D A s (Wd ++ [(a, .inl (cI, 12, .inl aiX7_init_896_4))]) H locs := hh
  refine lv_dup hx hb dX7_init_923 rfl ?_
  refine lv_iconst (v := (5 : Int32)) hx hb dX7_init_924 (by decide) ?_
  refine lv_sipush (v := (951 : Int32)) hx hb dX7_init_925 (by decide) ?_
  refine pq_iastL C hh (pq_vin (by decide)) dX7_init_928 (fun H locs hh => ?_)
  have hh : pq_H D A s (Wd ++ [(a, .inl (cI, 12, .inl aiX7_init_896_5))]) H locs := hh
  refine lv_dup hx hb dX7_init_929 rfl ?_
  refine lv_bipush (v := (6 : Int32)) hx hb dX7_init_930 (by decide) ?_
  refine lv_sipush (v := (3876 : Int32)) hx hb dX7_init_932 (by decide) ?_
  refine pq_iastL C hh (pq_vin (by decide)) dX7_init_935 (fun H locs hh => ?_)
  have hh : pq_H D A s (Wd ++ [(a, .inl (cI, 12, .inl aiX7_init_896_6))]) H locs := hh
  refine lv_dup hx hb dX7_init_936 rfl ?_
  refine lv_bipush (v := (7 : Int32)) hx hb dX7_init_937 (by decide) ?_
  refine lv_sipush (v := (-805 : Int32)) hx hb dX7_init_939 (by decide) ?_
  refine pq_iastL C hh (pq_vin (by decide)) dX7_init_942 (fun H locs hh => ?_)
  have hh : pq_H D A s (Wd ++ [(a, .inl (cI, 12, .inl aiX7_init_896_7))]) H locs := hh
  refine lv_dup hx hb dX7_init_943 rfl ?_
  refine lv_bipush (v := (8 : Int32)) hx hb dX7_init_944 (by decide) ?_
  refine lv_sipush (v := (362 : Int32)) hx hb dX7_init_946 (by decide) ?_
  refine pq_iastL C hh (pq_vin (by decide)) dX7_init_949 (fun H locs hh => ?_)
  have hh : pq_H D A s (Wd ++ [(a, .inl (cI, 12, .inl aiX7_init_896_8))]) H locs := hh
  refine lv_dup hx hb dX7_init_950 rfl ?_
  refine lv_bipush (v := (9 : Int32)) hx hb dX7_init_951 (by decide) ?_
  refine lv_sipush (v := (-156 : Int32)) hx hb dX7_init_953 (by decide) ?_
  refine pq_iastL C hh (pq_vin (by decide)) dX7_init_956 (fun H locs hh => ?_)
  have hh : pq_H D A s (Wd ++ [(a, .inl (cI, 12, .inl aiX7_init_896_9))]) H locs := hh
  refine lv_dup hx hb dX7_init_957 rfl ?_
  refine lv_bipush (v := (10 : Int32)) hx hb dX7_init_958 (by decide) ?_
  refine lv_bipush (v := (53 : Int32)) hx hb dX7_init_960 (by decide) ?_
  refine pq_iastL C hh (pq_vin (by decide)) dX7_init_962 (fun H locs hh => ?_)
  have hh : pq_H D A s (Wd ++ [(a, .inl (cI, 12, .inl aiX7_init_896_10))]) H locs := hh
  refine lv_dup hx hb dX7_init_963 rfl ?_
  refine lv_bipush (v := (11 : Int32)) hx hb dX7_init_964 (by decide) ?_
  refine lv_bipush (v := (-11 : Int32)) hx hb dX7_init_966 (by decide) ?_
  refine pq_iastL C hh (pq_vin (by decide)) dX7_init_968 (fun H locs hh => ?_)
  have hh : pq_H D A s (Wd ++ [(a, .inl (cI, 12, .inl aiX7_init_896_11))]) H locs := hh
  exact kk _ _ hh
set_option maxHeartbeats 4000000 in
set_option maxRecDepth 100000 in
theorem fiX7_init_975 {p : Program} {l : Launch} {e : Env} {R : Room} {s : State} {m : MethodId} {args : Array Value} {below : List Frame} {meth : Method} {c : Code} {H : Heap} {locs : List Loc} {cells slots : Nat} {Q : State → Prop} {ls : Array Slot} {rest : List Value} {D : va_G} {A : Nat → Prop} {a : Nat} {Wd : va_W} {cI cL : ClassId} (C : pq_Cx p c m cX7_init 1 s args qsX7_init RX7 D cI cL A) (hh : pq_H D A s (Wd ++ [(a, .inl (cI, 29, .inl (fun _ => 0)))]) H locs)
    (kk : ∀ (H1 : Heap) (locs1 : List Loc), pq_H D A s (Wd ++ [(a, .inl (cI, 29, .inl aiX7_init_975_28))]) H1 locs1 → W p l e R s m args below meth c H1 locs1 cells slots Q (F0 m 1171 ls (.ref a :: rest))) : W p l e R s m args below meth c H locs cells slots Q (F0 m 977 ls (.ref a :: rest)) := by
  have hx := C.1
  have hb := C.2.1
  have hown : s.vm.findClass RX7 = some m.cls := C.2.2.2.1
  have htw : ∀ w ∈ wsL_law, w.before args s = true := fun w h => C.2.2.2.2.1 w (List.mem_cons_of_mem _ h)
  refine lv_dup hx hb dX7_init_977 rfl ?_
  refine lv_iconst (v := (0 : Int32)) hx hb dX7_init_978 (by decide) ?_
  refine lv_bipush (v := (35 : Int32)) hx hb dX7_init_979 (by decide) ?_
  refine pq_iastL C hh (pq_vin (by decide)) dX7_init_981 (fun H locs hh => ?_)
  have hh : pq_H D A s (Wd ++ [(a, .inl (cI, 29, .inl aiX7_init_975_0))]) H locs := hh
  refine lv_dup hx hb dX7_init_982 rfl ?_
  refine lv_iconst (v := (1 : Int32)) hx hb dX7_init_983 (by decide) ?_
  refine lv_bipush (v := (72 : Int32)) hx hb dX7_init_984 (by decide) ?_
  refine pq_iastL C hh (pq_vin (by decide)) dX7_init_986 (fun H locs hh => ?_)
  have hh : pq_H D A s (Wd ++ [(a, .inl (cI, 29, .inl aiX7_init_975_1))]) H locs := hh
  refine lv_dup hx hb dX7_init_987 rfl ?_
  refine lv_iconst (v := (2 : Int32)) hx hb dX7_init_988 (by decide) ?_
  refine lv_bipush (v := (110 : Int32)) hx hb dX7_init_989 (by decide) ?_
  refine pq_iastL C hh (pq_vin (by decide)) dX7_init_991 (fun H locs hh => ?_)
  have hh : pq_H D A s (Wd ++ [(a, .inl (cI, 29, .inl aiX7_init_975_2))]) H locs := hh
  refine lv_dup hx hb dX7_init_992 rfl ?_
  refine lv_iconst (v := (3 : Int32)) hx hb dX7_init_993 (by decide) ?_
  refine lv_sipush (v := (150 : Int32)) hx hb dX7_init_994 (by decide) ?_
  refine pq_iastL C hh (pq_vin (by decide)) dX7_init_997 (fun H locs hh => ?_)
  have hh : pq_H D A s (Wd ++ [(a, .inl (cI, 29, .inl aiX7_init_975_3))]) H locs := hh
  refine lv_dup hx hb dX7_init_998 rfl ?_
  refine lv_iconst (v := (4 : Int32)) hx hb dX7_init_999 (by decide) ?_
  refine lv_sipush (v := (190 : Int32)) hx hb dX7_init_1000 (by decide) ?_
  refine pq_iastL C hh (pq_vin (by decide)) dX7_init_1003 (fun H locs hh => ?_)
  have hh : pq_H D A s (Wd ++ [(a, .inl (cI, 29, .inl aiX7_init_975_4))]) H locs := hh
  refine lv_dup hx hb dX7_init_1004 rfl ?_
  refine lv_iconst (v := (5 : Int32)) hx hb dX7_init_1005 (by decide) ?_
  refine lv_sipush (v := (233 : Int32)) hx hb dX7_init_1006 (by decide) ?_
  refine pq_iastL C hh (pq_vin (by decide)) dX7_init_1009 (fun H locs hh => ?_)
  have hh : pq_H D A s (Wd ++ [(a, .inl (cI, 29, .inl aiX7_init_975_5))]) H locs := hh
  refine lv_dup hx hb dX7_init_1010 rfl ?_
  refine lv_bipush (v := (6 : Int32)) hx hb dX7_init_1011 (by decide) ?_
  refine lv_sipush (v := (276 : Int32)) hx hb dX7_init_1013 (by decide) ?_
  refine pq_iastL C hh (pq_vin (by decide)) dX7_init_1016 (fun H locs hh => ?_)
  have hh : pq_H D A s (Wd ++ [(a, .inl (cI, 29, .inl aiX7_init_975_6))]) H locs := hh
  refine lv_dup hx hb dX7_init_1017 rfl ?_
  refine lv_bipush (v := (7 : Int32)) hx hb dX7_init_1018 (by decide) ?_
  refine lv_sipush (v := (323 : Int32)) hx hb dX7_init_1020 (by decide) ?_
  refine pq_iastL C hh (pq_vin (by decide)) dX7_init_1023 (fun H locs hh => ?_)
  have hh : pq_H D A s (Wd ++ [(a, .inl (cI, 29, .inl aiX7_init_975_7))]) H locs := hh
  refine lv_dup hx hb dX7_init_1024 rfl ?_
  refine lv_bipush (v := (8 : Int32)) hx hb dX7_init_1025 (by decide) ?_
  refine lv_sipush (v := (370 : Int32)) hx hb dX7_init_1027 (by decide) ?_
  refine pq_iastL C hh (pq_vin (by decide)) dX7_init_1030 (fun H locs hh => ?_)
  have hh : pq_H D A s (Wd ++ [(a, .inl (cI, 29, .inl aiX7_init_975_8))]) H locs := hh
  refine lv_dup hx hb dX7_init_1031 rfl ?_
  refine lv_bipush (v := (9 : Int32)) hx hb dX7_init_1032 (by decide) ?_
  refine lv_sipush (v := (422 : Int32)) hx hb dX7_init_1034 (by decide) ?_
  refine pq_iastL C hh (pq_vin (by decide)) dX7_init_1037 (fun H locs hh => ?_)
  have hh : pq_H D A s (Wd ++ [(a, .inl (cI, 29, .inl aiX7_init_975_9))]) H locs := hh
  refine lv_dup hx hb dX7_init_1038 rfl ?_
  refine lv_bipush (v := (10 : Int32)) hx hb dX7_init_1039 (by decide) ?_
  refine lv_sipush (v := (473 : Int32)) hx hb dX7_init_1041 (by decide) ?_
  refine pq_iastL C hh (pq_vin (by decide)) dX7_init_1044 (fun H locs hh => ?_)
  have hh : pq_H D A s (Wd ++ [(a, .inl (cI, 29, .inl aiX7_init_975_10))]) H locs := hh
  refine lv_dup hx hb dX7_init_1045 rfl ?_
  refine lv_bipush (v := (11 : Int32)) hx hb dX7_init_1046 (by decide) ?_
  refine lv_sipush (v := (530 : Int32)) hx hb dX7_init_1048 (by decide) ?_
  refine pq_iastL C hh (pq_vin (by decide)) dX7_init_1051 (fun H locs hh => ?_)
  have hh : pq_H D A s (Wd ++ [(a, .inl (cI, 29, .inl aiX7_init_975_11))]) H locs := hh
  refine lv_dup hx hb dX7_init_1052 rfl ?_
  refine lv_bipush (v := (12 : Int32)) hx hb dX7_init_1053 (by decide) ?_
  refine lv_sipush (v := (587 : Int32)) hx hb dX7_init_1055 (by decide) ?_
  refine pq_iastL C hh (pq_vin (by decide)) dX7_init_1058 (fun H locs hh => ?_)
  have hh : pq_H D A s (Wd ++ [(a, .inl (cI, 29, .inl aiX7_init_975_12))]) H locs := hh
  refine lv_dup hx hb dX7_init_1059 rfl ?_
  refine lv_bipush (v := (13 : Int32)) hx hb dX7_init_1060 (by decide) ?_
  refine lv_sipush (v := (650 : Int32)) hx hb dX7_init_1062 (by decide) ?_
  refine pq_iastL C hh (pq_vin (by decide)) dX7_init_1065 (fun H locs hh => ?_)
  have hh : pq_H D A s (Wd ++ [(a, .inl (cI, 29, .inl aiX7_init_975_13))]) H locs := hh
  refine lv_dup hx hb dX7_init_1066 rfl ?_
  refine lv_bipush (v := (14 : Int32)) hx hb dX7_init_1067 (by decide) ?_
  refine lv_sipush (v := (714 : Int32)) hx hb dX7_init_1069 (by decide) ?_
  refine pq_iastL C hh (pq_vin (by decide)) dX7_init_1072 (fun H locs hh => ?_)
  have hh : pq_H D A s (Wd ++ [(a, .inl (cI, 29, .inl aiX7_init_975_14))]) H locs := hh
  refine lv_dup hx hb dX7_init_1073 rfl ?_
  refine lv_bipush (v := (15 : Int32)) hx hb dX7_init_1074 (by decide) ?_
  refine lv_sipush (v := (786 : Int32)) hx hb dX7_init_1076 (by decide) ?_
  refine pq_iastL C hh (pq_vin (by decide)) dX7_init_1079 (fun H locs hh => ?_)
  have hh : pq_H D A s (Wd ++ [(a, .inl (cI, 29, .inl aiX7_init_975_15))]) H locs := hh
  refine lv_dup hx hb dX7_init_1080 rfl ?_
  refine lv_bipush (v := (16 : Int32)) hx hb dX7_init_1081 (by decide) ?_
  refine lv_sipush (v := (858 : Int32)) hx hb dX7_init_1083 (by decide) ?_
  refine pq_iastL C hh (pq_vin (by decide)) dX7_init_1086 (fun H locs hh => ?_)
  have hh : pq_H D A s (Wd ++ [(a, .inl (cI, 29, .inl aiX7_init_975_16))]) H locs := hh
  refine lv_dup hx hb dX7_init_1087 rfl ?_
  refine lv_bipush (v := (17 : Int32)) hx hb dX7_init_1088 (by decide) ?_
  refine lv_sipush (v := (940 : Int32)) hx hb dX7_init_1090 (by decide) ?_
  refine pq_iastL C hh (pq_vin (by decide)) dX7_init_1093 (fun H locs hh => ?_)
  have hh : pq_H D A s (Wd ++ [(a, .inl (cI, 29, .inl aiX7_init_975_17))]) H locs := hh
  refine lv_dup hx hb dX7_init_1094 rfl ?_
  refine lv_bipush (v := (18 : Int32)) hx hb dX7_init_1095 (by decide) ?_
  refine lv_sipush (v := (1023 : Int32)) hx hb dX7_init_1097 (by decide) ?_
  refine pq_iastL C hh (pq_vin (by decide)) dX7_init_1100 (fun H locs hh => ?_)
  have hh : pq_H D A s (Wd ++ [(a, .inl (cI, 29, .inl aiX7_init_975_18))]) H locs := hh
  refine lv_dup hx hb dX7_init_1101 rfl ?_
  refine lv_bipush (v := (19 : Int32)) hx hb dX7_init_1102 (by decide) ?_
  refine lv_sipush (v := (1121 : Int32)) hx hb dX7_init_1104 (by decide) ?_
  refine pq_iastL C hh (pq_vin (by decide)) dX7_init_1107 (fun H locs hh => ?_)
  have hh : pq_H D A s (Wd ++ [(a, .inl (cI, 29, .inl aiX7_init_975_19))]) H locs := hh
  refine lv_dup hx hb dX7_init_1108 rfl ?_
  refine lv_bipush (v := (20 : Int32)) hx hb dX7_init_1109 (by decide) ?_
  refine lv_sipush (v := (1219 : Int32)) hx hb dX7_init_1111 (by decide) ?_
  refine pq_iastL C hh (pq_vin (by decide)) dX7_init_1114 (fun H locs hh => ?_)
  have hh : pq_H D A s (Wd ++ [(a, .inl (cI, 29, .inl aiX7_init_975_20))]) H locs := hh
  refine lv_dup hx hb dX7_init_1115 rfl ?_
  refine lv_bipush (v := (21 : Int32)) hx hb dX7_init_1116 (by decide) ?_
  refine lv_sipush (v := (1339 : Int32)) hx hb dX7_init_1118 (by decide) ?_
  refine pq_iastL C hh (pq_vin (by decide)) dX7_init_1121 (fun H locs hh => ?_)
  have hh : pq_H D A s (Wd ++ [(a, .inl (cI, 29, .inl aiX7_init_975_21))]) H locs := hh
  refine lv_dup hx hb dX7_init_1122 rfl ?_
  refine lv_bipush (v := (22 : Int32)) hx hb dX7_init_1123 (by decide) ?_
  refine lv_sipush (v := (1458 : Int32)) hx hb dX7_init_1125 (by decide) ?_
  refine pq_iastL C hh (pq_vin (by decide)) dX7_init_1128 (fun H locs hh => ?_)
  have hh : pq_H D A s (Wd ++ [(a, .inl (cI, 29, .inl aiX7_init_975_22))]) H locs := hh
  refine lv_dup hx hb dX7_init_1129 rfl ?_
  refine lv_bipush (v := (23 : Int32)) hx hb dX7_init_1130 (by decide) ?_
  refine lv_sipush (v := (1612 : Int32)) hx hb dX7_init_1132 (by decide) ?_
  refine pq_iastL C hh (pq_vin (by decide)) dX7_init_1135 (fun H locs hh => ?_)
  have hh : pq_H D A s (Wd ++ [(a, .inl (cI, 29, .inl aiX7_init_975_23))]) H locs := hh
  refine lv_dup hx hb dX7_init_1136 rfl ?_
  refine lv_bipush (v := (24 : Int32)) hx hb dX7_init_1137 (by decide) ?_
  refine lv_sipush (v := (1765 : Int32)) hx hb dX7_init_1139 (by decide) ?_
  refine pq_iastL C hh (pq_vin (by decide)) dX7_init_1142 (fun H locs hh => ?_)
  have hh : pq_H D A s (Wd ++ [(a, .inl (cI, 29, .inl aiX7_init_975_24))]) H locs := hh
  refine lv_dup hx hb dX7_init_1143 rfl ?_
  refine lv_bipush (v := (25 : Int32)) hx hb dX7_init_1144 (by decide) ?_
  refine lv_sipush (v := (1980 : Int32)) hx hb dX7_init_1146 (by decide) ?_
  refine pq_iastL C hh (pq_vin (by decide)) dX7_init_1149 (fun H locs hh => ?_)
  have hh : pq_H D A s (Wd ++ [(a, .inl (cI, 29, .inl aiX7_init_975_25))]) H locs := hh
  refine lv_dup hx hb dX7_init_1150 rfl ?_
  refine lv_bipush (v := (26 : Int32)) hx hb dX7_init_1151 (by decide) ?_
  refine lv_sipush (v := (2195 : Int32)) hx hb dX7_init_1153 (by decide) ?_
  refine pq_iastL C hh (pq_vin (by decide)) dX7_init_1156 (fun H locs hh => ?_)
  have hh : pq_H D A s (Wd ++ [(a, .inl (cI, 29, .inl aiX7_init_975_26))]) H locs := hh
  refine lv_dup hx hb dX7_init_1157 rfl ?_
  refine lv_bipush (v := (27 : Int32)) hx hb dX7_init_1158 (by decide) ?_
  refine lv_sipush (v := (2557 : Int32)) hx hb dX7_init_1160 (by decide) ?_
  refine pq_iastL C hh (pq_vin (by decide)) dX7_init_1163 (fun H locs hh => ?_)
  have hh : pq_H D A s (Wd ++ [(a, .inl (cI, 29, .inl aiX7_init_975_27))]) H locs := hh
  refine lv_dup hx hb dX7_init_1164 rfl ?_
  refine lv_bipush (v := (28 : Int32)) hx hb dX7_init_1165 (by decide) ?_
  refine lv_sipush (v := (2919 : Int32)) hx hb dX7_init_1167 (by decide) ?_
  refine pq_iastL C hh (pq_vin (by decide)) dX7_init_1170 (fun H locs hh => ?_)
  have hh : pq_H D A s (Wd ++ [(a, .inl (cI, 29, .inl aiX7_init_975_28))]) H locs := hh
  exact kk _ _ hh
set_option maxHeartbeats 4000000 in
set_option maxRecDepth 100000 in
theorem fiX7_init_1177 {p : Program} {l : Launch} {e : Env} {R : Room} {s : State} {m : MethodId} {args : Array Value} {below : List Frame} {meth : Method} {c : Code} {H : Heap} {locs : List Loc} {cells slots : Nat} {Q : State → Prop} {ls : Array Slot} {rest : List Value} {D : va_G} {A : Nat → Prop} {a : Nat} {Wd : va_W} {cI cL : ClassId} (C : pq_Cx p c m cX7_init 1 s args qsX7_init RX7 D cI cL A) (hh : pq_H D A s (Wd ++ [(a, .inl (cI, 32, .inl (fun _ => 0)))]) H locs)
    (kk : ∀ (H1 : Heap) (locs1 : List Loc), pq_H D A s (Wd ++ [(a, .inl (cI, 32, .inl aiX7_init_1177_31))]) H1 locs1 → W p l e R s m args below meth c H1 locs1 cells slots Q (F0 m 1397 ls (.ref a :: rest))) : W p l e R s m args below meth c H locs cells slots Q (F0 m 1179 ls (.ref a :: rest)) := by
  have hx := C.1
  have hb := C.2.1
  have hown : s.vm.findClass RX7 = some m.cls := C.2.2.2.1
  have htw : ∀ w ∈ wsL_law, w.before args s = true := fun w h => C.2.2.2.2.1 w (List.mem_cons_of_mem _ h)
  refine lv_dup hx hb dX7_init_1179 rfl ?_
  refine lv_iconst (v := (0 : Int32)) hx hb dX7_init_1180 (by decide) ?_
  refine lv_sipush (v := (2048 : Int32)) hx hb dX7_init_1181 (by decide) ?_
  refine pq_iastL C hh (pq_vin (by decide)) dX7_init_1184 (fun H locs hh => ?_)
  have hh : pq_H D A s (Wd ++ [(a, .inl (cI, 32, .inl aiX7_init_1177_0))]) H locs := hh
  refine lv_dup hx hb dX7_init_1185 rfl ?_
  refine lv_iconst (v := (1 : Int32)) hx hb dX7_init_1186 (by decide) ?_
  refine lv_sipush (v := (2093 : Int32)) hx hb dX7_init_1187 (by decide) ?_
  refine pq_iastL C hh (pq_vin (by decide)) dX7_init_1190 (fun H locs hh => ?_)
  have hh : pq_H D A s (Wd ++ [(a, .inl (cI, 32, .inl aiX7_init_1177_1))]) H locs := hh
  refine lv_dup hx hb dX7_init_1191 rfl ?_
  refine lv_iconst (v := (2 : Int32)) hx hb dX7_init_1192 (by decide) ?_
  refine lv_sipush (v := (2139 : Int32)) hx hb dX7_init_1193 (by decide) ?_
  refine pq_iastL C hh (pq_vin (by decide)) dX7_init_1196 (fun H locs hh => ?_)
  have hh : pq_H D A s (Wd ++ [(a, .inl (cI, 32, .inl aiX7_init_1177_2))]) H locs := hh
  refine lv_dup hx hb dX7_init_1197 rfl ?_
  refine lv_iconst (v := (3 : Int32)) hx hb dX7_init_1198 (by decide) ?_
  refine lv_sipush (v := (2186 : Int32)) hx hb dX7_init_1199 (by decide) ?_
  refine pq_iastL C hh (pq_vin (by decide)) dX7_init_1202 (fun H locs hh => ?_)
  have hh : pq_H D A s (Wd ++ [(a, .inl (cI, 32, .inl aiX7_init_1177_3))]) H locs := hh
  refine lv_dup hx hb dX7_init_1203 rfl ?_
  refine lv_iconst (v := (4 : Int32)) hx hb dX7_init_1204 (by decide) ?_
  refine lv_sipush (v := (2233 : Int32)) hx hb dX7_init_1205 (by decide) ?_
  refine pq_iastL C hh (pq_vin (by decide)) dX7_init_1208 (fun H locs hh => ?_)
  have hh : pq_H D A s (Wd ++ [(a, .inl (cI, 32, .inl aiX7_init_1177_4))]) H locs := hh
  refine lv_dup hx hb dX7_init_1209 rfl ?_
  refine lv_iconst (v := (5 : Int32)) hx hb dX7_init_1210 (by decide) ?_
  refine lv_sipush (v := (2282 : Int32)) hx hb dX7_init_1211 (by decide) ?_
  refine pq_iastL C hh (pq_vin (by decide)) dX7_init_1214 (fun H locs hh => ?_)
  have hh : pq_H D A s (Wd ++ [(a, .inl (cI, 32, .inl aiX7_init_1177_5))]) H locs := hh
  refine lv_dup hx hb dX7_init_1215 rfl ?_
  refine lv_bipush (v := (6 : Int32)) hx hb dX7_init_1216 (by decide) ?_
  refine lv_sipush (v := (2332 : Int32)) hx hb dX7_init_1218 (by decide) ?_
  refine pq_iastL C hh (pq_vin (by decide)) dX7_init_1221 (fun H locs hh => ?_)
  have hh : pq_H D A s (Wd ++ [(a, .inl (cI, 32, .inl aiX7_init_1177_6))]) H locs := hh
  refine lv_dup hx hb dX7_init_1222 rfl ?_
  refine lv_bipush (v := (7 : Int32)) hx hb dX7_init_1223 (by decide) ?_
  refine lv_sipush (v := (2383 : Int32)) hx hb dX7_init_1225 (by decide) ?_
  refine pq_iastL C hh (pq_vin (by decide)) dX7_init_1228 (fun H locs hh => ?_)
  have hh : pq_H D A s (Wd ++ [(a, .inl (cI, 32, .inl aiX7_init_1177_7))]) H locs := hh
  refine lv_dup hx hb dX7_init_1229 rfl ?_
  refine lv_bipush (v := (8 : Int32)) hx hb dX7_init_1230 (by decide) ?_
  refine lv_sipush (v := (2435 : Int32)) hx hb dX7_init_1232 (by decide) ?_
  refine pq_iastL C hh (pq_vin (by decide)) dX7_init_1235 (fun H locs hh => ?_)
  have hh : pq_H D A s (Wd ++ [(a, .inl (cI, 32, .inl aiX7_init_1177_8))]) H locs := hh
  refine lv_dup hx hb dX7_init_1236 rfl ?_
  refine lv_bipush (v := (9 : Int32)) hx hb dX7_init_1237 (by decide) ?_
  refine lv_sipush (v := (2489 : Int32)) hx hb dX7_init_1239 (by decide) ?_
  refine pq_iastL C hh (pq_vin (by decide)) dX7_init_1242 (fun H locs hh => ?_)
  have hh : pq_H D A s (Wd ++ [(a, .inl (cI, 32, .inl aiX7_init_1177_9))]) H locs := hh
  refine lv_dup hx hb dX7_init_1243 rfl ?_
  refine lv_bipush (v := (10 : Int32)) hx hb dX7_init_1244 (by decide) ?_
  refine lv_sipush (v := (2543 : Int32)) hx hb dX7_init_1246 (by decide) ?_
  refine pq_iastL C hh (pq_vin (by decide)) dX7_init_1249 (fun H locs hh => ?_)
  have hh : pq_H D A s (Wd ++ [(a, .inl (cI, 32, .inl aiX7_init_1177_10))]) H locs := hh
  refine lv_dup hx hb dX7_init_1250 rfl ?_
  refine lv_bipush (v := (11 : Int32)) hx hb dX7_init_1251 (by decide) ?_
  refine lv_sipush (v := (2599 : Int32)) hx hb dX7_init_1253 (by decide) ?_
  refine pq_iastL C hh (pq_vin (by decide)) dX7_init_1256 (fun H locs hh => ?_)
  have hh : pq_H D A s (Wd ++ [(a, .inl (cI, 32, .inl aiX7_init_1177_11))]) H locs := hh
  refine lv_dup hx hb dX7_init_1257 rfl ?_
  refine lv_bipush (v := (12 : Int32)) hx hb dX7_init_1258 (by decide) ?_
  refine lv_sipush (v := (2656 : Int32)) hx hb dX7_init_1260 (by decide) ?_
  refine pq_iastL C hh (pq_vin (by decide)) dX7_init_1263 (fun H locs hh => ?_)
  have hh : pq_H D A s (Wd ++ [(a, .inl (cI, 32, .inl aiX7_init_1177_12))]) H locs := hh
  refine lv_dup hx hb dX7_init_1264 rfl ?_
  refine lv_bipush (v := (13 : Int32)) hx hb dX7_init_1265 (by decide) ?_
  refine lv_sipush (v := (2714 : Int32)) hx hb dX7_init_1267 (by decide) ?_
  refine pq_iastL C hh (pq_vin (by decide)) dX7_init_1270 (fun H locs hh => ?_)
  have hh : pq_H D A s (Wd ++ [(a, .inl (cI, 32, .inl aiX7_init_1177_13))]) H locs := hh
  refine lv_dup hx hb dX7_init_1271 rfl ?_
  refine lv_bipush (v := (14 : Int32)) hx hb dX7_init_1272 (by decide) ?_
  refine lv_sipush (v := (2774 : Int32)) hx hb dX7_init_1274 (by decide) ?_
  refine pq_iastL C hh (pq_vin (by decide)) dX7_init_1277 (fun H locs hh => ?_)
  have hh : pq_H D A s (Wd ++ [(a, .inl (cI, 32, .inl aiX7_init_1177_14))]) H locs := hh
  refine lv_dup hx hb dX7_init_1278 rfl ?_
  refine lv_bipush (v := (15 : Int32)) hx hb dX7_init_1279 (by decide) ?_
  refine lv_sipush (v := (2834 : Int32)) hx hb dX7_init_1281 (by decide) ?_
  refine pq_iastL C hh (pq_vin (by decide)) dX7_init_1284 (fun H locs hh => ?_)
  have hh : pq_H D A s (Wd ++ [(a, .inl (cI, 32, .inl aiX7_init_1177_15))]) H locs := hh
  refine lv_dup hx hb dX7_init_1285 rfl ?_
  refine lv_bipush (v := (16 : Int32)) hx hb dX7_init_1286 (by decide) ?_
  refine lv_sipush (v := (2896 : Int32)) hx hb dX7_init_1288 (by decide) ?_
  refine pq_iastL C hh (pq_vin (by decide)) dX7_init_1291 (fun H locs hh => ?_)
  have hh : pq_H D A s (Wd ++ [(a, .inl (cI, 32, .inl aiX7_init_1177_16))]) H locs := hh
  refine lv_dup hx hb dX7_init_1292 rfl ?_
  refine lv_bipush (v := (17 : Int32)) hx hb dX7_init_1293 (by decide) ?_
  refine lv_sipush (v := (2960 : Int32)) hx hb dX7_init_1295 (by decide) ?_
  refine pq_iastL C hh (pq_vin (by decide)) dX7_init_1298 (fun H locs hh => ?_)
  have hh : pq_H D A s (Wd ++ [(a, .inl (cI, 32, .inl aiX7_init_1177_17))]) H locs := hh
  refine lv_dup hx hb dX7_init_1299 rfl ?_
  refine lv_bipush (v := (18 : Int32)) hx hb dX7_init_1300 (by decide) ?_
  refine lv_sipush (v := (3025 : Int32)) hx hb dX7_init_1302 (by decide) ?_
  refine pq_iastL C hh (pq_vin (by decide)) dX7_init_1305 (fun H locs hh => ?_)
  have hh : pq_H D A s (Wd ++ [(a, .inl (cI, 32, .inl aiX7_init_1177_18))]) H locs := hh
  refine lv_dup hx hb dX7_init_1306 rfl ?_
  refine lv_bipush (v := (19 : Int32)) hx hb dX7_init_1307 (by decide) ?_
  refine lv_sipush (v := (3091 : Int32)) hx hb dX7_init_1309 (by decide) ?_
  refine pq_iastL C hh (pq_vin (by decide)) dX7_init_1312 (fun H locs hh => ?_)
  have hh : pq_H D A s (Wd ++ [(a, .inl (cI, 32, .inl aiX7_init_1177_19))]) H locs := hh
  refine lv_dup hx hb dX7_init_1313 rfl ?_
  refine lv_bipush (v := (20 : Int32)) hx hb dX7_init_1314 (by decide) ?_
  refine lv_sipush (v := (3158 : Int32)) hx hb dX7_init_1316 (by decide) ?_
  refine pq_iastL C hh (pq_vin (by decide)) dX7_init_1319 (fun H locs hh => ?_)
  have hh : pq_H D A s (Wd ++ [(a, .inl (cI, 32, .inl aiX7_init_1177_20))]) H locs := hh
  refine lv_dup hx hb dX7_init_1320 rfl ?_
  refine lv_bipush (v := (21 : Int32)) hx hb dX7_init_1321 (by decide) ?_
  refine lv_sipush (v := (3228 : Int32)) hx hb dX7_init_1323 (by decide) ?_
  refine pq_iastL C hh (pq_vin (by decide)) dX7_init_1326 (fun H locs hh => ?_)
  have hh : pq_H D A s (Wd ++ [(a, .inl (cI, 32, .inl aiX7_init_1177_21))]) H locs := hh
  refine lv_dup hx hb dX7_init_1327 rfl ?_
  refine lv_bipush (v := (22 : Int32)) hx hb dX7_init_1328 (by decide) ?_
  refine lv_sipush (v := (3298 : Int32)) hx hb dX7_init_1330 (by decide) ?_
  refine pq_iastL C hh (pq_vin (by decide)) dX7_init_1333 (fun H locs hh => ?_)
  have hh : pq_H D A s (Wd ++ [(a, .inl (cI, 32, .inl aiX7_init_1177_22))]) H locs := hh
  refine lv_dup hx hb dX7_init_1334 rfl ?_
  refine lv_bipush (v := (23 : Int32)) hx hb dX7_init_1335 (by decide) ?_
  refine lv_sipush (v := (3371 : Int32)) hx hb dX7_init_1337 (by decide) ?_
  refine pq_iastL C hh (pq_vin (by decide)) dX7_init_1340 (fun H locs hh => ?_)
  have hh : pq_H D A s (Wd ++ [(a, .inl (cI, 32, .inl aiX7_init_1177_23))]) H locs := hh
  refine lv_dup hx hb dX7_init_1341 rfl ?_
  refine lv_bipush (v := (24 : Int32)) hx hb dX7_init_1342 (by decide) ?_
  refine lv_sipush (v := (3444 : Int32)) hx hb dX7_init_1344 (by decide) ?_
  refine pq_iastL C hh (pq_vin (by decide)) dX7_init_1347 (fun H locs hh => ?_)
  have hh : pq_H D A s (Wd ++ [(a, .inl (cI, 32, .inl aiX7_init_1177_24))]) H locs := hh
  refine lv_dup hx hb dX7_init_1348 rfl ?_
  refine lv_bipush (v := (25 : Int32)) hx hb dX7_init_1349 (by decide) ?_
  refine lv_sipush (v := (3520 : Int32)) hx hb dX7_init_1351 (by decide) ?_
  refine pq_iastL C hh (pq_vin (by decide)) dX7_init_1354 (fun H locs hh => ?_)
  have hh : pq_H D A s (Wd ++ [(a, .inl (cI, 32, .inl aiX7_init_1177_25))]) H locs := hh
  refine lv_dup hx hb dX7_init_1355 rfl ?_
  refine lv_bipush (v := (26 : Int32)) hx hb dX7_init_1356 (by decide) ?_
  refine lv_sipush (v := (3597 : Int32)) hx hb dX7_init_1358 (by decide) ?_
  refine pq_iastL C hh (pq_vin (by decide)) dX7_init_1361 (fun H locs hh => ?_)
  have hh : pq_H D A s (Wd ++ [(a, .inl (cI, 32, .inl aiX7_init_1177_26))]) H locs := hh
  refine lv_dup hx hb dX7_init_1362 rfl ?_
  refine lv_bipush (v := (27 : Int32)) hx hb dX7_init_1363 (by decide) ?_
  refine lv_sipush (v := (3676 : Int32)) hx hb dX7_init_1365 (by decide) ?_
  refine pq_iastL C hh (pq_vin (by decide)) dX7_init_1368 (fun H locs hh => ?_)
  have hh : pq_H D A s (Wd ++ [(a, .inl (cI, 32, .inl aiX7_init_1177_27))]) H locs := hh
  refine lv_dup hx hb dX7_init_1369 rfl ?_
  refine lv_bipush (v := (28 : Int32)) hx hb dX7_init_1370 (by decide) ?_
  refine lv_sipush (v := (3756 : Int32)) hx hb dX7_init_1372 (by decide) ?_
  refine pq_iastL C hh (pq_vin (by decide)) dX7_init_1375 (fun H locs hh => ?_)
  have hh : pq_H D A s (Wd ++ [(a, .inl (cI, 32, .inl aiX7_init_1177_28))]) H locs := hh
  refine lv_dup hx hb dX7_init_1376 rfl ?_
  refine lv_bipush (v := (29 : Int32)) hx hb dX7_init_1377 (by decide) ?_
  refine lv_sipush (v := (3838 : Int32)) hx hb dX7_init_1379 (by decide) ?_
  refine pq_iastL C hh (pq_vin (by decide)) dX7_init_1382 (fun H locs hh => ?_)
  have hh : pq_H D A s (Wd ++ [(a, .inl (cI, 32, .inl aiX7_init_1177_29))]) H locs := hh
  refine lv_dup hx hb dX7_init_1383 rfl ?_
  refine lv_bipush (v := (30 : Int32)) hx hb dX7_init_1384 (by decide) ?_
  refine lv_sipush (v := (3922 : Int32)) hx hb dX7_init_1386 (by decide) ?_
  refine pq_iastL C hh (pq_vin (by decide)) dX7_init_1389 (fun H locs hh => ?_)
  have hh : pq_H D A s (Wd ++ [(a, .inl (cI, 32, .inl aiX7_init_1177_30))]) H locs := hh
  refine lv_dup hx hb dX7_init_1390 rfl ?_
  refine lv_bipush (v := (31 : Int32)) hx hb dX7_init_1391 (by decide) ?_
  refine lv_sipush (v := (4008 : Int32)) hx hb dX7_init_1393 (by decide) ?_
  refine pq_iastL C hh (pq_vin (by decide)) dX7_init_1396 (fun H locs hh => ?_)
  have hh : pq_H D A s (Wd ++ [(a, .inl (cI, 32, .inl aiX7_init_1177_31))]) H locs := hh
  exact kk _ _ hh
set_option maxHeartbeats 4000000 in
set_option maxRecDepth 100000 in
theorem fiX7_init_1403 {p : Program} {l : Launch} {e : Env} {R : Room} {s : State} {m : MethodId} {args : Array Value} {below : List Frame} {meth : Method} {c : Code} {H : Heap} {locs : List Loc} {cells slots : Nat} {Q : State → Prop} {ls : Array Slot} {rest : List Value} {D : va_G} {A : Nat → Prop} {a : Nat} {Wd : va_W} {cI cL : ClassId} (C : pq_Cx p c m cX7_init 1 s args qsX7_init RX7 D cI cL A) (hh : pq_H D A s (Wd ++ [(a, .inl (cI, 16, .inl (fun _ => 0)))]) H locs)
    (kk : ∀ (H1 : Heap) (locs1 : List Loc), pq_H D A s (Wd ++ [(a, .inl (cI, 16, .inl aiX7_init_1403_15))]) H1 locs1 → W p l e R s m args below meth c H1 locs1 cells slots Q (F0 m 1507 ls (.ref a :: rest))) : W p l e R s m args below meth c H locs cells slots Q (F0 m 1405 ls (.ref a :: rest)) := by
  have hx := C.1
  have hb := C.2.1
  have hown : s.vm.findClass RX7 = some m.cls := C.2.2.2.1
  have htw : ∀ w ∈ wsL_law, w.before args s = true := fun w h => C.2.2.2.2.1 w (List.mem_cons_of_mem _ h)
  refine lv_dup hx hb dX7_init_1405 rfl ?_
  refine lv_iconst (v := (0 : Int32)) hx hb dX7_init_1406 (by decide) ?_
  refine lv_iconst (v := (0 : Int32)) hx hb dX7_init_1407 (by decide) ?_
  refine pq_iastL C hh (pq_vin (by decide)) dX7_init_1408 (fun H locs hh => ?_)
  have hh : pq_H D A s (Wd ++ [(a, .inl (cI, 16, .inl aiX7_init_1403_0))]) H locs := hh
  refine lv_dup hx hb dX7_init_1409 rfl ?_
  refine lv_iconst (v := (1 : Int32)) hx hb dX7_init_1410 (by decide) ?_
  refine lv_sipush (v := (-20456 : Int32)) hx hb dX7_init_1411 (by decide) ?_
  refine pq_iastL C hh (pq_vin (by decide)) dX7_init_1414 (fun H locs hh => ?_)
  have hh : pq_H D A s (Wd ++ [(a, .inl (cI, 16, .inl aiX7_init_1403_1))]) H locs := hh
  refine lv_dup hx hb dX7_init_1415 rfl ?_
  refine lv_iconst (v := (2 : Int32)) hx hb dX7_init_1416 (by decide) ?_
  refine lv_sipush (v := (-12896 : Int32)) hx hb dX7_init_1417 (by decide) ?_
  refine pq_iastL C hh (pq_vin (by decide)) dX7_init_1420 (fun H locs hh => ?_)
  have hh : pq_H D A s (Wd ++ [(a, .inl (cI, 16, .inl aiX7_init_1403_2))]) H locs := hh
  refine lv_dup hx hb dX7_init_1421 rfl ?_
  refine lv_iconst (v := (3 : Int32)) hx hb dX7_init_1422 (by decide) ?_
  refine lv_sipush (v := (-8968 : Int32)) hx hb dX7_init_1423 (by decide) ?_
  refine pq_iastL C hh (pq_vin (by decide)) dX7_init_1426 (fun H locs hh => ?_)
  have hh : pq_H D A s (Wd ++ [(a, .inl (cI, 16, .inl aiX7_init_1403_3))]) H locs := hh
  refine lv_dup hx hb dX7_init_1427 rfl ?_
  refine lv_iconst (v := (4 : Int32)) hx hb dX7_init_1428 (by decide) ?_
  refine lv_sipush (v := (-6288 : Int32)) hx hb dX7_init_1429 (by decide) ?_
  refine pq_iastL C hh (pq_vin (by decide)) dX7_init_1432 (fun H locs hh => ?_)
  have hh : pq_H D A s (Wd ++ [(a, .inl (cI, 16, .inl aiX7_init_1403_4))]) H locs := hh
  refine lv_dup hx hb dX7_init_1433 rfl ?_
  refine lv_iconst (v := (5 : Int32)) hx hb dX7_init_1434 (by decide) ?_
  refine lv_sipush (v := (-4240 : Int32)) hx hb dX7_init_1435 (by decide) ?_
  refine pq_iastL C hh (pq_vin (by decide)) dX7_init_1438 (fun H locs hh => ?_)
  have hh : pq_H D A s (Wd ++ [(a, .inl (cI, 16, .inl aiX7_init_1403_5))]) H locs := hh
  refine lv_dup hx hb dX7_init_1439 rfl ?_
  refine lv_bipush (v := (6 : Int32)) hx hb dX7_init_1440 (by decide) ?_
  refine lv_sipush (v := (-2584 : Int32)) hx hb dX7_init_1442 (by decide) ?_
  refine pq_iastL C hh (pq_vin (by decide)) dX7_init_1445 (fun H locs hh => ?_)
  have hh : pq_H D A s (Wd ++ [(a, .inl (cI, 16, .inl aiX7_init_1403_6))]) H locs := hh
  refine lv_dup hx hb dX7_init_1446 rfl ?_
  refine lv_bipush (v := (7 : Int32)) hx hb dX7_init_1447 (by decide) ?_
  refine lv_sipush (v := (-1200 : Int32)) hx hb dX7_init_1449 (by decide) ?_
  refine pq_iastL C hh (pq_vin (by decide)) dX7_init_1452 (fun H locs hh => ?_)
  have hh : pq_H D A s (Wd ++ [(a, .inl (cI, 16, .inl aiX7_init_1403_7))]) H locs := hh
  refine lv_dup hx hb dX7_init_1453 rfl ?_
  refine lv_bipush (v := (8 : Int32)) hx hb dX7_init_1454 (by decide) ?_
  refine lv_sipush (v := (20456 : Int32)) hx hb dX7_init_1456 (by decide) ?_
  refine pq_iastL C hh (pq_vin (by decide)) dX7_init_1459 (fun H locs hh => ?_)
  have hh : pq_H D A s (Wd ++ [(a, .inl (cI, 16, .inl aiX7_init_1403_8))]) H locs := hh
  refine lv_dup hx hb dX7_init_1460 rfl ?_
  refine lv_bipush (v := (9 : Int32)) hx hb dX7_init_1461 (by decide) ?_
  refine lv_sipush (v := (12896 : Int32)) hx hb dX7_init_1463 (by decide) ?_
  refine pq_iastL C hh (pq_vin (by decide)) dX7_init_1466 (fun H locs hh => ?_)
  have hh : pq_H D A s (Wd ++ [(a, .inl (cI, 16, .inl aiX7_init_1403_9))]) H locs := hh
  refine lv_dup hx hb dX7_init_1467 rfl ?_
  refine lv_bipush (v := (10 : Int32)) hx hb dX7_init_1468 (by decide) ?_
  refine lv_sipush (v := (8968 : Int32)) hx hb dX7_init_1470 (by decide) ?_
  refine pq_iastL C hh (pq_vin (by decide)) dX7_init_1473 (fun H locs hh => ?_)
  have hh : pq_H D A s (Wd ++ [(a, .inl (cI, 16, .inl aiX7_init_1403_10))]) H locs := hh
  refine lv_dup hx hb dX7_init_1474 rfl ?_
  refine lv_bipush (v := (11 : Int32)) hx hb dX7_init_1475 (by decide) ?_
  refine lv_sipush (v := (6288 : Int32)) hx hb dX7_init_1477 (by decide) ?_
  refine pq_iastL C hh (pq_vin (by decide)) dX7_init_1480 (fun H locs hh => ?_)
  have hh : pq_H D A s (Wd ++ [(a, .inl (cI, 16, .inl aiX7_init_1403_11))]) H locs := hh
  refine lv_dup hx hb dX7_init_1481 rfl ?_
  refine lv_bipush (v := (12 : Int32)) hx hb dX7_init_1482 (by decide) ?_
  refine lv_sipush (v := (4240 : Int32)) hx hb dX7_init_1484 (by decide) ?_
  refine pq_iastL C hh (pq_vin (by decide)) dX7_init_1487 (fun H locs hh => ?_)
  have hh : pq_H D A s (Wd ++ [(a, .inl (cI, 16, .inl aiX7_init_1403_12))]) H locs := hh
  refine lv_dup hx hb dX7_init_1488 rfl ?_
  refine lv_bipush (v := (13 : Int32)) hx hb dX7_init_1489 (by decide) ?_
  refine lv_sipush (v := (2584 : Int32)) hx hb dX7_init_1491 (by decide) ?_
  refine pq_iastL C hh (pq_vin (by decide)) dX7_init_1494 (fun H locs hh => ?_)
  have hh : pq_H D A s (Wd ++ [(a, .inl (cI, 16, .inl aiX7_init_1403_13))]) H locs := hh
  refine lv_dup hx hb dX7_init_1495 rfl ?_
  refine lv_bipush (v := (14 : Int32)) hx hb dX7_init_1496 (by decide) ?_
  refine lv_sipush (v := (1200 : Int32)) hx hb dX7_init_1498 (by decide) ?_
  refine pq_iastL C hh (pq_vin (by decide)) dX7_init_1501 (fun H locs hh => ?_)
  have hh : pq_H D A s (Wd ++ [(a, .inl (cI, 16, .inl aiX7_init_1403_14))]) H locs := hh
  refine lv_dup hx hb dX7_init_1502 rfl ?_
  refine lv_bipush (v := (15 : Int32)) hx hb dX7_init_1503 (by decide) ?_
  refine lv_iconst (v := (0 : Int32)) hx hb dX7_init_1505 (by decide) ?_
  refine pq_iastL C hh (pq_vin (by decide)) dX7_init_1506 (fun H locs hh => ?_)
  have hh : pq_H D A s (Wd ++ [(a, .inl (cI, 16, .inl aiX7_init_1403_15))]) H locs := hh
  exact kk _ _ hh
set_option maxHeartbeats 4000000 in
set_option maxRecDepth 100000 in
theorem fiX7_init_1512 {p : Program} {l : Launch} {e : Env} {R : Room} {s : State} {m : MethodId} {args : Array Value} {below : List Frame} {meth : Method} {c : Code} {H : Heap} {locs : List Loc} {cells slots : Nat} {Q : State → Prop} {ls : Array Slot} {rest : List Value} {D : va_G} {A : Nat → Prop} {a : Nat} {Wd : va_W} {cI cL : ClassId} (C : pq_Cx p c m cX7_init 1 s args qsX7_init RX7 D cI cL A) (hh : pq_H D A s (Wd ++ [(a, .inl (cI, 4, .inl (fun _ => 0)))]) H locs)
    (kk : ∀ (H1 : Heap) (locs1 : List Loc), pq_H D A s (Wd ++ [(a, .inl (cI, 4, .inl aiX7_init_1512_3))]) H1 locs1 → W p l e R s m args below meth c H1 locs1 cells slots Q (F0 m 1538 ls (.ref a :: rest))) : W p l e R s m args below meth c H locs cells slots Q (F0 m 1514 ls (.ref a :: rest)) := by
  have hx := C.1
  have hb := C.2.1
  have hown : s.vm.findClass RX7 = some m.cls := C.2.2.2.1
  have htw : ∀ w ∈ wsL_law, w.before args s = true := fun w h => C.2.2.2.2.1 w (List.mem_cons_of_mem _ h)
  refine lv_dup hx hb dX7_init_1514 rfl ?_
  refine lv_iconst (v := (0 : Int32)) hx hb dX7_init_1515 (by decide) ?_
  refine lv_sipush (v := (-7408 : Int32)) hx hb dX7_init_1516 (by decide) ?_
  refine pq_iastL C hh (pq_vin (by decide)) dX7_init_1519 (fun H locs hh => ?_)
  have hh : pq_H D A s (Wd ++ [(a, .inl (cI, 4, .inl aiX7_init_1512_0))]) H locs := hh
  refine lv_dup hx hb dX7_init_1520 rfl ?_
  refine lv_iconst (v := (1 : Int32)) hx hb dX7_init_1521 (by decide) ?_
  refine lv_sipush (v := (-1616 : Int32)) hx hb dX7_init_1522 (by decide) ?_
  refine pq_iastL C hh (pq_vin (by decide)) dX7_init_1525 (fun H locs hh => ?_)
  have hh : pq_H D A s (Wd ++ [(a, .inl (cI, 4, .inl aiX7_init_1512_1))]) H locs := hh
  refine lv_dup hx hb dX7_init_1526 rfl ?_
  refine lv_iconst (v := (2 : Int32)) hx hb dX7_init_1527 (by decide) ?_
  refine lv_sipush (v := (7408 : Int32)) hx hb dX7_init_1528 (by decide) ?_
  refine pq_iastL C hh (pq_vin (by decide)) dX7_init_1531 (fun H locs hh => ?_)
  have hh : pq_H D A s (Wd ++ [(a, .inl (cI, 4, .inl aiX7_init_1512_2))]) H locs := hh
  refine lv_dup hx hb dX7_init_1532 rfl ?_
  refine lv_iconst (v := (3 : Int32)) hx hb dX7_init_1533 (by decide) ?_
  refine lv_sipush (v := (1616 : Int32)) hx hb dX7_init_1534 (by decide) ?_
  refine pq_iastL C hh (pq_vin (by decide)) dX7_init_1537 (fun H locs hh => ?_)
  have hh : pq_H D A s (Wd ++ [(a, .inl (cI, 4, .inl aiX7_init_1512_3))]) H locs := hh
  exact kk _ _ hh
set_option maxHeartbeats 4000000 in
set_option maxRecDepth 100000 in
theorem fiX7_init_1544 {p : Program} {l : Launch} {e : Env} {R : Room} {s : State} {m : MethodId} {args : Array Value} {below : List Frame} {meth : Method} {c : Code} {H : Heap} {locs : List Loc} {cells slots : Nat} {Q : State → Prop} {ls : Array Slot} {rest : List Value} {D : va_G} {A : Nat → Prop} {a : Nat} {Wd : va_W} {cI cL : ClassId} (C : pq_Cx p c m cX7_init 1 s args qsX7_init RX7 D cI cL A) (hh : pq_H D A s (Wd ++ [(a, .inl (cI, 16, .inl (fun _ => 0)))]) H locs)
    (kk : ∀ (H1 : Heap) (locs1 : List Loc), pq_H D A s (Wd ++ [(a, .inl (cI, 16, .inl aiX7_init_1544_15))]) H1 locs1 → W p l e R s m args below meth c H1 locs1 cells slots Q (F0 m 1646 ls (.ref a :: rest))) : W p l e R s m args below meth c H locs cells slots Q (F0 m 1546 ls (.ref a :: rest)) := by
  have hx := C.1
  have hb := C.2.1
  have hown : s.vm.findClass RX7 = some m.cls := C.2.2.2.1
  have htw : ∀ w ∈ wsL_law, w.before args s = true := fun w h => C.2.2.2.2.1 w (List.mem_cons_of_mem _ h)
  refine lv_dup hx hb dX7_init_1546 rfl ?_
  refine lv_iconst (v := (0 : Int32)) hx hb dX7_init_1547 (by decide) ?_
  refine lv_bipush (v := (-60 : Int32)) hx hb dX7_init_1548 (by decide) ?_
  refine pq_iastL C hh (pq_vin (by decide)) dX7_init_1550 (fun H locs hh => ?_)
  have hh : pq_H D A s (Wd ++ [(a, .inl (cI, 16, .inl aiX7_init_1544_0))]) H locs := hh
  refine lv_dup hx hb dX7_init_1551 rfl ?_
  refine lv_iconst (v := (1 : Int32)) hx hb dX7_init_1552 (by decide) ?_
  refine lv_sipush (v := (3042 : Int32)) hx hb dX7_init_1553 (by decide) ?_
  refine pq_iastL C hh (pq_vin (by decide)) dX7_init_1556 (fun H locs hh => ?_)
  have hh : pq_H D A s (Wd ++ [(a, .inl (cI, 16, .inl aiX7_init_1544_1))]) H locs := hh
  refine lv_dup hx hb dX7_init_1557 rfl ?_
  refine lv_iconst (v := (2 : Int32)) hx hb dX7_init_1558 (by decide) ?_
  refine lv_sipush (v := (1198 : Int32)) hx hb dX7_init_1559 (by decide) ?_
  refine pq_iastL C hh (pq_vin (by decide)) dX7_init_1562 (fun H locs hh => ?_)
  have hh : pq_H D A s (Wd ++ [(a, .inl (cI, 16, .inl aiX7_init_1544_2))]) H locs := hh
  refine lv_dup hx hb dX7_init_1563 rfl ?_
  refine lv_iconst (v := (3 : Int32)) hx hb dX7_init_1564 (by decide) ?_
  refine lv_sipush (v := (538 : Int32)) hx hb dX7_init_1565 (by decide) ?_
  refine pq_iastL C hh (pq_vin (by decide)) dX7_init_1568 (fun H locs hh => ?_)
  have hh : pq_H D A s (Wd ++ [(a, .inl (cI, 16, .inl aiX7_init_1544_3))]) H locs := hh
  refine lv_dup hx hb dX7_init_1569 rfl ?_
  refine lv_iconst (v := (4 : Int32)) hx hb dX7_init_1570 (by decide) ?_
  refine lv_sipush (v := (334 : Int32)) hx hb dX7_init_1571 (by decide) ?_
  refine pq_iastL C hh (pq_vin (by decide)) dX7_init_1574 (fun H locs hh => ?_)
  have hh : pq_H D A s (Wd ++ [(a, .inl (cI, 16, .inl aiX7_init_1544_4))]) H locs := hh
  refine lv_dup hx hb dX7_init_1575 rfl ?_
  refine lv_iconst (v := (5 : Int32)) hx hb dX7_init_1576 (by decide) ?_
  refine lv_sipush (v := (172 : Int32)) hx hb dX7_init_1577 (by decide) ?_
  refine pq_iastL C hh (pq_vin (by decide)) dX7_init_1580 (fun H locs hh => ?_)
  have hh : pq_H D A s (Wd ++ [(a, .inl (cI, 16, .inl aiX7_init_1544_5))]) H locs := hh
  refine lv_dup hx hb dX7_init_1581 rfl ?_
  refine lv_bipush (v := (6 : Int32)) hx hb dX7_init_1582 (by decide) ?_
  refine lv_bipush (v := (58 : Int32)) hx hb dX7_init_1584 (by decide) ?_
  refine pq_iastL C hh (pq_vin (by decide)) dX7_init_1586 (fun H locs hh => ?_)
  have hh : pq_H D A s (Wd ++ [(a, .inl (cI, 16, .inl aiX7_init_1544_6))]) H locs := hh
  refine lv_dup hx hb dX7_init_1587 rfl ?_
  refine lv_bipush (v := (7 : Int32)) hx hb dX7_init_1588 (by decide) ?_
  refine lv_bipush (v := (-30 : Int32)) hx hb dX7_init_1590 (by decide) ?_
  refine pq_iastL C hh (pq_vin (by decide)) dX7_init_1592 (fun H locs hh => ?_)
  have hh : pq_H D A s (Wd ++ [(a, .inl (cI, 16, .inl aiX7_init_1544_7))]) H locs := hh
  refine lv_dup hx hb dX7_init_1593 rfl ?_
  refine lv_bipush (v := (8 : Int32)) hx hb dX7_init_1594 (by decide) ?_
  refine lv_sipush (v := (3042 : Int32)) hx hb dX7_init_1596 (by decide) ?_
  refine pq_iastL C hh (pq_vin (by decide)) dX7_init_1599 (fun H locs hh => ?_)
  have hh : pq_H D A s (Wd ++ [(a, .inl (cI, 16, .inl aiX7_init_1544_8))]) H locs := hh
  refine lv_dup hx hb dX7_init_1600 rfl ?_
  refine lv_bipush (v := (9 : Int32)) hx hb dX7_init_1601 (by decide) ?_
  refine lv_sipush (v := (1198 : Int32)) hx hb dX7_init_1603 (by decide) ?_
  refine pq_iastL C hh (pq_vin (by decide)) dX7_init_1606 (fun H locs hh => ?_)
  have hh : pq_H D A s (Wd ++ [(a, .inl (cI, 16, .inl aiX7_init_1544_9))]) H locs := hh
  refine lv_dup hx hb dX7_init_1607 rfl ?_
  refine lv_bipush (v := (10 : Int32)) hx hb dX7_init_1608 (by decide) ?_
  refine lv_sipush (v := (538 : Int32)) hx hb dX7_init_1610 (by decide) ?_
  refine pq_iastL C hh (pq_vin (by decide)) dX7_init_1613 (fun H locs hh => ?_)
  have hh : pq_H D A s (Wd ++ [(a, .inl (cI, 16, .inl aiX7_init_1544_10))]) H locs := hh
  refine lv_dup hx hb dX7_init_1614 rfl ?_
  refine lv_bipush (v := (11 : Int32)) hx hb dX7_init_1615 (by decide) ?_
  refine lv_sipush (v := (334 : Int32)) hx hb dX7_init_1617 (by decide) ?_
  refine pq_iastL C hh (pq_vin (by decide)) dX7_init_1620 (fun H locs hh => ?_)
  have hh : pq_H D A s (Wd ++ [(a, .inl (cI, 16, .inl aiX7_init_1544_11))]) H locs := hh
  refine lv_dup hx hb dX7_init_1621 rfl ?_
  refine lv_bipush (v := (12 : Int32)) hx hb dX7_init_1622 (by decide) ?_
  refine lv_sipush (v := (172 : Int32)) hx hb dX7_init_1624 (by decide) ?_
  refine pq_iastL C hh (pq_vin (by decide)) dX7_init_1627 (fun H locs hh => ?_)
  have hh : pq_H D A s (Wd ++ [(a, .inl (cI, 16, .inl aiX7_init_1544_12))]) H locs := hh
  refine lv_dup hx hb dX7_init_1628 rfl ?_
  refine lv_bipush (v := (13 : Int32)) hx hb dX7_init_1629 (by decide) ?_
  refine lv_bipush (v := (58 : Int32)) hx hb dX7_init_1631 (by decide) ?_
  refine pq_iastL C hh (pq_vin (by decide)) dX7_init_1633 (fun H locs hh => ?_)
  have hh : pq_H D A s (Wd ++ [(a, .inl (cI, 16, .inl aiX7_init_1544_13))]) H locs := hh
  refine lv_dup hx hb dX7_init_1634 rfl ?_
  refine lv_bipush (v := (14 : Int32)) hx hb dX7_init_1635 (by decide) ?_
  refine lv_bipush (v := (-30 : Int32)) hx hb dX7_init_1637 (by decide) ?_
  refine pq_iastL C hh (pq_vin (by decide)) dX7_init_1639 (fun H locs hh => ?_)
  have hh : pq_H D A s (Wd ++ [(a, .inl (cI, 16, .inl aiX7_init_1544_14))]) H locs := hh
  refine lv_dup hx hb dX7_init_1640 rfl ?_
  refine lv_bipush (v := (15 : Int32)) hx hb dX7_init_1641 (by decide) ?_
  refine lv_bipush (v := (-60 : Int32)) hx hb dX7_init_1643 (by decide) ?_
  refine pq_iastL C hh (pq_vin (by decide)) dX7_init_1645 (fun H locs hh => ?_)
  have hh : pq_H D A s (Wd ++ [(a, .inl (cI, 16, .inl aiX7_init_1544_15))]) H locs := hh
  exact kk _ _ hh
set_option maxHeartbeats 4000000 in
set_option maxRecDepth 100000 in
theorem fiX7_init_1651 {p : Program} {l : Launch} {e : Env} {R : Room} {s : State} {m : MethodId} {args : Array Value} {below : List Frame} {meth : Method} {c : Code} {H : Heap} {locs : List Loc} {cells slots : Nat} {Q : State → Prop} {ls : Array Slot} {rest : List Value} {D : va_G} {A : Nat → Prop} {a : Nat} {Wd : va_W} {cI cL : ClassId} (C : pq_Cx p c m cX7_init 1 s args qsX7_init RX7 D cI cL A) (hh : pq_H D A s (Wd ++ [(a, .inl (cI, 4, .inl (fun _ => 0)))]) H locs)
    (kk : ∀ (H1 : Heap) (locs1 : List Loc), pq_H D A s (Wd ++ [(a, .inl (cI, 4, .inl aiX7_init_1651_3))]) H1 locs1 → W p l e R s m args below meth c H1 locs1 cells slots Q (F0 m 1677 ls (.ref a :: rest))) : W p l e R s m args below meth c H locs cells slots Q (F0 m 1653 ls (.ref a :: rest)) := by
  have hx := C.1
  have hb := C.2.1
  have hown : s.vm.findClass RX7 = some m.cls := C.2.2.2.1
  have htw : ∀ w ∈ wsL_law, w.before args s = true := fun w h => C.2.2.2.2.1 w (List.mem_cons_of_mem _ h)
  refine lv_dup hx hb dX7_init_1653 rfl ?_
  refine lv_iconst (v := (0 : Int32)) hx hb dX7_init_1654 (by decide) ?_
  refine lv_sipush (v := (798 : Int32)) hx hb dX7_init_1655 (by decide) ?_
  refine pq_iastL C hh (pq_vin (by decide)) dX7_init_1658 (fun H locs hh => ?_)
  have hh : pq_H D A s (Wd ++ [(a, .inl (cI, 4, .inl aiX7_init_1651_0))]) H locs := hh
  refine lv_dup hx hb dX7_init_1659 rfl ?_
  refine lv_iconst (v := (1 : Int32)) hx hb dX7_init_1660 (by decide) ?_
  refine lv_sipush (v := (-214 : Int32)) hx hb dX7_init_1661 (by decide) ?_
  refine pq_iastL C hh (pq_vin (by decide)) dX7_init_1664 (fun H locs hh => ?_)
  have hh : pq_H D A s (Wd ++ [(a, .inl (cI, 4, .inl aiX7_init_1651_1))]) H locs := hh
  refine lv_dup hx hb dX7_init_1665 rfl ?_
  refine lv_iconst (v := (2 : Int32)) hx hb dX7_init_1666 (by decide) ?_
  refine lv_sipush (v := (798 : Int32)) hx hb dX7_init_1667 (by decide) ?_
  refine pq_iastL C hh (pq_vin (by decide)) dX7_init_1670 (fun H locs hh => ?_)
  have hh : pq_H D A s (Wd ++ [(a, .inl (cI, 4, .inl aiX7_init_1651_2))]) H locs := hh
  refine lv_dup hx hb dX7_init_1671 rfl ?_
  refine lv_iconst (v := (3 : Int32)) hx hb dX7_init_1672 (by decide) ?_
  refine lv_sipush (v := (-214 : Int32)) hx hb dX7_init_1673 (by decide) ?_
  refine pq_iastL C hh (pq_vin (by decide)) dX7_init_1676 (fun H locs hh => ?_)
  have hh : pq_H D A s (Wd ++ [(a, .inl (cI, 4, .inl aiX7_init_1651_3))]) H locs := hh
  exact kk _ _ hh
set_option maxHeartbeats 4000000 in
set_option maxRecDepth 100000 in
theorem fiX7_init_1683 {p : Program} {l : Launch} {e : Env} {R : Room} {s : State} {m : MethodId} {args : Array Value} {below : List Frame} {meth : Method} {c : Code} {H : Heap} {locs : List Loc} {cells slots : Nat} {Q : State → Prop} {ls : Array Slot} {rest : List Value} {D : va_G} {A : Nat → Prop} {a : Nat} {Wd : va_W} {cI cL : ClassId} (C : pq_Cx p c m cX7_init 1 s args qsX7_init RX7 D cI cL A) (hh : pq_H D A s (Wd ++ [(a, .inl (cI, 16, .inl (fun _ => 0)))]) H locs)
    (kk : ∀ (H1 : Heap) (locs1 : List Loc), pq_H D A s (Wd ++ [(a, .inl (cI, 16, .inl aiX7_init_1683_15))]) H1 locs1 → W p l e R s m args below meth c H1 locs1 cells slots Q (F0 m 1791 ls (.ref a :: rest))) : W p l e R s m args below meth c H locs cells slots Q (F0 m 1685 ls (.ref a :: rest)) := by
  have hx := C.1
  have hb := C.2.1
  have hown : s.vm.findClass RX7 = some m.cls := C.2.2.2.1
  have htw : ∀ w ∈ wsL_law, w.before args s = true := fun w h => C.2.2.2.2.1 w (List.mem_cons_of_mem _ h)
  refine lv_dup hx hb dX7_init_1685 rfl ?_
  refine lv_iconst (v := (0 : Int32)) hx hb dX7_init_1686 (by decide) ?_
  refine lv_sipush (v := (-280 : Int32)) hx hb dX7_init_1687 (by decide) ?_
  refine pq_iastL C hh (pq_vin (by decide)) dX7_init_1690 (fun H locs hh => ?_)
  have hh : pq_H D A s (Wd ++ [(a, .inl (cI, 16, .inl aiX7_init_1683_0))]) H locs := hh
  refine lv_dup hx hb dX7_init_1691 rfl ?_
  refine lv_iconst (v := (1 : Int32)) hx hb dX7_init_1692 (by decide) ?_
  refine lv_sipush (v := (-280 : Int32)) hx hb dX7_init_1693 (by decide) ?_
  refine pq_iastL C hh (pq_vin (by decide)) dX7_init_1696 (fun H locs hh => ?_)
  have hh : pq_H D A s (Wd ++ [(a, .inl (cI, 16, .inl aiX7_init_1683_1))]) H locs := hh
  refine lv_dup hx hb dX7_init_1697 rfl ?_
  refine lv_iconst (v := (2 : Int32)) hx hb dX7_init_1698 (by decide) ?_
  refine lv_sipush (v := (-23352 : Int32)) hx hb dX7_init_1699 (by decide) ?_
  refine pq_iastL C hh (pq_vin (by decide)) dX7_init_1702 (fun H locs hh => ?_)
  have hh : pq_H D A s (Wd ++ [(a, .inl (cI, 16, .inl aiX7_init_1683_2))]) H locs := hh
  refine lv_dup hx hb dX7_init_1703 rfl ?_
  refine lv_iconst (v := (3 : Int32)) hx hb dX7_init_1704 (by decide) ?_
  refine lv_sipush (v := (-17560 : Int32)) hx hb dX7_init_1705 (by decide) ?_
  refine pq_iastL C hh (pq_vin (by decide)) dX7_init_1708 (fun H locs hh => ?_)
  have hh : pq_H D A s (Wd ++ [(a, .inl (cI, 16, .inl aiX7_init_1683_3))]) H locs := hh
  refine lv_dup hx hb dX7_init_1709 rfl ?_
  refine lv_iconst (v := (4 : Int32)) hx hb dX7_init_1710 (by decide) ?_
  refine lv_sipush (v := (-14120 : Int32)) hx hb dX7_init_1711 (by decide) ?_
  refine pq_iastL C hh (pq_vin (by decide)) dX7_init_1714 (fun H locs hh => ?_)
  have hh : pq_H D A s (Wd ++ [(a, .inl (cI, 16, .inl aiX7_init_1683_4))]) H locs := hh
  refine lv_dup hx hb dX7_init_1715 rfl ?_
  refine lv_iconst (v := (5 : Int32)) hx hb dX7_init_1716 (by decide) ?_
  refine lv_sipush (v := (-11664 : Int32)) hx hb dX7_init_1717 (by decide) ?_
  refine pq_iastL C hh (pq_vin (by decide)) dX7_init_1720 (fun H locs hh => ?_)
  have hh : pq_H D A s (Wd ++ [(a, .inl (cI, 16, .inl aiX7_init_1683_5))]) H locs := hh
  refine lv_dup hx hb dX7_init_1721 rfl ?_
  refine lv_bipush (v := (6 : Int32)) hx hb dX7_init_1722 (by decide) ?_
  refine lv_sipush (v := (-9752 : Int32)) hx hb dX7_init_1724 (by decide) ?_
  refine pq_iastL C hh (pq_vin (by decide)) dX7_init_1727 (fun H locs hh => ?_)
  have hh : pq_H D A s (Wd ++ [(a, .inl (cI, 16, .inl aiX7_init_1683_6))]) H locs := hh
  refine lv_dup hx hb dX7_init_1728 rfl ?_
  refine lv_bipush (v := (7 : Int32)) hx hb dX7_init_1729 (by decide) ?_
  refine lv_sipush (v := (-8184 : Int32)) hx hb dX7_init_1731 (by decide) ?_
  refine pq_iastL C hh (pq_vin (by decide)) dX7_init_1734 (fun H locs hh => ?_)
  have hh : pq_H D A s (Wd ++ [(a, .inl (cI, 16, .inl aiX7_init_1683_7))]) H locs := hh
  refine lv_dup hx hb dX7_init_1735 rfl ?_
  refine lv_bipush (v := (8 : Int32)) hx hb dX7_init_1736 (by decide) ?_
  refine lv_sipush (v := (-6864 : Int32)) hx hb dX7_init_1738 (by decide) ?_
  refine pq_iastL C hh (pq_vin (by decide)) dX7_init_1741 (fun H locs hh => ?_)
  have hh : pq_H D A s (Wd ++ [(a, .inl (cI, 16, .inl aiX7_init_1683_8))]) H locs := hh
  refine lv_dup hx hb dX7_init_1742 rfl ?_
  refine lv_bipush (v := (9 : Int32)) hx hb dX7_init_1743 (by decide) ?_
  refine lv_sipush (v := (-5712 : Int32)) hx hb dX7_init_1745 (by decide) ?_
  refine pq_iastL C hh (pq_vin (by decide)) dX7_init_1748 (fun H locs hh => ?_)
  have hh : pq_H D A s (Wd ++ [(a, .inl (cI, 16, .inl aiX7_init_1683_9))]) H locs := hh
  refine lv_dup hx hb dX7_init_1749 rfl ?_
  refine lv_bipush (v := (10 : Int32)) hx hb dX7_init_1750 (by decide) ?_
  refine lv_sipush (v := (-4696 : Int32)) hx hb dX7_init_1752 (by decide) ?_
  refine pq_iastL C hh (pq_vin (by decide)) dX7_init_1755 (fun H locs hh => ?_)
  have hh : pq_H D A s (Wd ++ [(a, .inl (cI, 16, .inl aiX7_init_1683_10))]) H locs := hh
  refine lv_dup hx hb dX7_init_1756 rfl ?_
  refine lv_bipush (v := (11 : Int32)) hx hb dX7_init_1757 (by decide) ?_
  refine lv_sipush (v := (-3784 : Int32)) hx hb dX7_init_1759 (by decide) ?_
  refine pq_iastL C hh (pq_vin (by decide)) dX7_init_1762 (fun H locs hh => ?_)
  have hh : pq_H D A s (Wd ++ [(a, .inl (cI, 16, .inl aiX7_init_1683_11))]) H locs := hh
  refine lv_dup hx hb dX7_init_1763 rfl ?_
  refine lv_bipush (v := (12 : Int32)) hx hb dX7_init_1764 (by decide) ?_
  refine lv_sipush (v := (-2960 : Int32)) hx hb dX7_init_1766 (by decide) ?_
  refine pq_iastL C hh (pq_vin (by decide)) dX7_init_1769 (fun H locs hh => ?_)
  have hh : pq_H D A s (Wd ++ [(a, .inl (cI, 16, .inl aiX7_init_1683_12))]) H locs := hh
  refine lv_dup hx hb dX7_init_1770 rfl ?_
  refine lv_bipush (v := (13 : Int32)) hx hb dX7_init_1771 (by decide) ?_
  refine lv_sipush (v := (-2208 : Int32)) hx hb dX7_init_1773 (by decide) ?_
  refine pq_iastL C hh (pq_vin (by decide)) dX7_init_1776 (fun H locs hh => ?_)
  have hh : pq_H D A s (Wd ++ [(a, .inl (cI, 16, .inl aiX7_init_1683_13))]) H locs := hh
  refine lv_dup hx hb dX7_init_1777 rfl ?_
  refine lv_bipush (v := (14 : Int32)) hx hb dX7_init_1778 (by decide) ?_
  refine lv_sipush (v := (-1520 : Int32)) hx hb dX7_init_1780 (by decide) ?_
  refine pq_iastL C hh (pq_vin (by decide)) dX7_init_1783 (fun H locs hh => ?_)
  have hh : pq_H D A s (Wd ++ [(a, .inl (cI, 16, .inl aiX7_init_1683_14))]) H locs := hh
  refine lv_dup hx hb dX7_init_1784 rfl ?_
  refine lv_bipush (v := (15 : Int32)) hx hb dX7_init_1785 (by decide) ?_
  refine lv_sipush (v := (-880 : Int32)) hx hb dX7_init_1787 (by decide) ?_
  refine pq_iastL C hh (pq_vin (by decide)) dX7_init_1790 (fun H locs hh => ?_)
  have hh : pq_H D A s (Wd ++ [(a, .inl (cI, 16, .inl aiX7_init_1683_15))]) H locs := hh
  exact kk _ _ hh
set_option maxHeartbeats 4000000 in
set_option maxRecDepth 100000 in
theorem fiX7_init_1797 {p : Program} {l : Launch} {e : Env} {R : Room} {s : State} {m : MethodId} {args : Array Value} {below : List Frame} {meth : Method} {c : Code} {H : Heap} {locs : List Loc} {cells slots : Nat} {Q : State → Prop} {ls : Array Slot} {rest : List Value} {D : va_G} {A : Nat → Prop} {a : Nat} {Wd : va_W} {cI cL : ClassId} (C : pq_Cx p c m cX7_init 1 s args qsX7_init RX7 D cI cL A) (hh : pq_H D A s (Wd ++ [(a, .inl (cI, 32, .inl (fun _ => 0)))]) H locs)
    (kk : ∀ (H1 : Heap) (locs1 : List Loc), pq_H D A s (Wd ++ [(a, .inl (cI, 32, .inl aiX7_init_1797_31))]) H1 locs1 → W p l e R s m args below meth c H1 locs1 cells slots Q (F0 m 2017 ls (.ref a :: rest))) : W p l e R s m args below meth c H locs cells slots Q (F0 m 1799 ls (.ref a :: rest)) := by
  have hx := C.1
  have hb := C.2.1
  have hown : s.vm.findClass RX7 = some m.cls := C.2.2.2.1
  have htw : ∀ w ∈ wsL_law, w.before args s = true := fun w h => C.2.2.2.2.1 w (List.mem_cons_of_mem _ h)
  refine lv_dup hx hb dX7_init_1799 rfl ?_
  refine lv_iconst (v := (0 : Int32)) hx hb dX7_init_1800 (by decide) ?_
  refine lv_sipush (v := (-136 : Int32)) hx hb dX7_init_1801 (by decide) ?_
  refine pq_iastL C hh (pq_vin (by decide)) dX7_init_1804 (fun H locs hh => ?_)
  have hh : pq_H D A s (Wd ++ [(a, .inl (cI, 32, .inl aiX7_init_1797_0))]) H locs := hh
  refine lv_dup hx hb dX7_init_1805 rfl ?_
  refine lv_iconst (v := (1 : Int32)) hx hb dX7_init_1806 (by decide) ?_
  refine lv_sipush (v := (-136 : Int32)) hx hb dX7_init_1807 (by decide) ?_
  refine pq_iastL C hh (pq_vin (by decide)) dX7_init_1810 (fun H locs hh => ?_)
  have hh : pq_H D A s (Wd ++ [(a, .inl (cI, 32, .inl aiX7_init_1797_1))]) H locs := hh
  refine lv_dup hx hb dX7_init_1811 rfl ?_
  refine lv_iconst (v := (2 : Int32)) hx hb dX7_init_1812 (by decide) ?_
  refine lv_sipush (v := (-136 : Int32)) hx hb dX7_init_1813 (by decide) ?_
  refine pq_iastL C hh (pq_vin (by decide)) dX7_init_1816 (fun H locs hh => ?_)
  have hh : pq_H D A s (Wd ++ [(a, .inl (cI, 32, .inl aiX7_init_1797_2))]) H locs := hh
  refine lv_dup hx hb dX7_init_1817 rfl ?_
  refine lv_iconst (v := (3 : Int32)) hx hb dX7_init_1818 (by decide) ?_
  refine lv_sipush (v := (-136 : Int32)) hx hb dX7_init_1819 (by decide) ?_
  refine pq_iastL C hh (pq_vin (by decide)) dX7_init_1822 (fun H locs hh => ?_)
  have hh : pq_H D A s (Wd ++ [(a, .inl (cI, 32, .inl aiX7_init_1797_3))]) H locs := hh
  refine lv_dup hx hb dX7_init_1823 rfl ?_
  refine lv_iconst (v := (4 : Int32)) hx hb dX7_init_1824 (by decide) ?_
  refine lv_sipush (v := (-24808 : Int32)) hx hb dX7_init_1825 (by decide) ?_
  refine pq_iastL C hh (pq_vin (by decide)) dX7_init_1828 (fun H locs hh => ?_)
  have hh : pq_H D A s (Wd ++ [(a, .inl (cI, 32, .inl aiX7_init_1797_4))]) H locs := hh
  refine lv_dup hx hb dX7_init_1829 rfl ?_
  refine lv_iconst (v := (5 : Int32)) hx hb dX7_init_1830 (by decide) ?_
  refine lv_sipush (v := (-21904 : Int32)) hx hb dX7_init_1831 (by decide) ?_
  refine pq_iastL C hh (pq_vin (by decide)) dX7_init_1834 (fun H locs hh => ?_)
  have hh : pq_H D A s (Wd ++ [(a, .inl (cI, 32, .inl aiX7_init_1797_5))]) H locs := hh
  refine lv_dup hx hb dX7_init_1835 rfl ?_
  refine lv_bipush (v := (6 : Int32)) hx hb dX7_init_1836 (by decide) ?_
  refine lv_sipush (v := (-19008 : Int32)) hx hb dX7_init_1838 (by decide) ?_
  refine pq_iastL C hh (pq_vin (by decide)) dX7_init_1841 (fun H locs hh => ?_)
  have hh : pq_H D A s (Wd ++ [(a, .inl (cI, 32, .inl aiX7_init_1797_6))]) H locs := hh
  refine lv_dup hx hb dX7_init_1842 rfl ?_
  refine lv_bipush (v := (7 : Int32)) hx hb dX7_init_1843 (by decide) ?_
  refine lv_sipush (v := (-16704 : Int32)) hx hb dX7_init_1845 (by decide) ?_
  refine pq_iastL C hh (pq_vin (by decide)) dX7_init_1848 (fun H locs hh => ?_)
  have hh : pq_H D A s (Wd ++ [(a, .inl (cI, 32, .inl aiX7_init_1797_7))]) H locs := hh
  refine lv_dup hx hb dX7_init_1849 rfl ?_
  refine lv_bipush (v := (8 : Int32)) hx hb dX7_init_1850 (by decide) ?_
  refine lv_sipush (v := (-14984 : Int32)) hx hb dX7_init_1852 (by decide) ?_
  refine pq_iastL C hh (pq_vin (by decide)) dX7_init_1855 (fun H locs hh => ?_)
  have hh : pq_H D A s (Wd ++ [(a, .inl (cI, 32, .inl aiX7_init_1797_8))]) H locs := hh
  refine lv_dup hx hb dX7_init_1856 rfl ?_
  refine lv_bipush (v := (9 : Int32)) hx hb dX7_init_1857 (by decide) ?_
  refine lv_sipush (v := (-13512 : Int32)) hx hb dX7_init_1859 (by decide) ?_
  refine pq_iastL C hh (pq_vin (by decide)) dX7_init_1862 (fun H locs hh => ?_)
  have hh : pq_H D A s (Wd ++ [(a, .inl (cI, 32, .inl aiX7_init_1797_9))]) H locs := hh
  refine lv_dup hx hb dX7_init_1863 rfl ?_
  refine lv_bipush (v := (10 : Int32)) hx hb dX7_init_1864 (by decide) ?_
  refine lv_sipush (v := (-12280 : Int32)) hx hb dX7_init_1866 (by decide) ?_
  refine pq_iastL C hh (pq_vin (by decide)) dX7_init_1869 (fun H locs hh => ?_)
  have hh : pq_H D A s (Wd ++ [(a, .inl (cI, 32, .inl aiX7_init_1797_10))]) H locs := hh
  refine lv_dup hx hb dX7_init_1870 rfl ?_
  refine lv_bipush (v := (11 : Int32)) hx hb dX7_init_1871 (by decide) ?_
  refine lv_sipush (v := (-11192 : Int32)) hx hb dX7_init_1873 (by decide) ?_
  refine pq_iastL C hh (pq_vin (by decide)) dX7_init_1876 (fun H locs hh => ?_)
  have hh : pq_H D A s (Wd ++ [(a, .inl (cI, 32, .inl aiX7_init_1797_11))]) H locs := hh
  refine lv_dup hx hb dX7_init_1877 rfl ?_
  refine lv_bipush (v := (12 : Int32)) hx hb dX7_init_1878 (by decide) ?_
  refine lv_sipush (v := (-10232 : Int32)) hx hb dX7_init_1880 (by decide) ?_
  refine pq_iastL C hh (pq_vin (by decide)) dX7_init_1883 (fun H locs hh => ?_)
  have hh : pq_H D A s (Wd ++ [(a, .inl (cI, 32, .inl aiX7_init_1797_12))]) H locs := hh
  refine lv_dup hx hb dX7_init_1884 rfl ?_
  refine lv_bipush (v := (13 : Int32)) hx hb dX7_init_1885 (by decide) ?_
  refine lv_sipush (v := (-9360 : Int32)) hx hb dX7_init_1887 (by decide) ?_
  refine pq_iastL C hh (pq_vin (by decide)) dX7_init_1890 (fun H locs hh => ?_)
  have hh : pq_H D A s (Wd ++ [(a, .inl (cI, 32, .inl aiX7_init_1797_13))]) H locs := hh
  refine lv_dup hx hb dX7_init_1891 rfl ?_
  refine lv_bipush (v := (14 : Int32)) hx hb dX7_init_1892 (by decide) ?_
  refine lv_sipush (v := (-8576 : Int32)) hx hb dX7_init_1894 (by decide) ?_
  refine pq_iastL C hh (pq_vin (by decide)) dX7_init_1897 (fun H locs hh => ?_)
  have hh : pq_H D A s (Wd ++ [(a, .inl (cI, 32, .inl aiX7_init_1797_14))]) H locs := hh
  refine lv_dup hx hb dX7_init_1898 rfl ?_
  refine lv_bipush (v := (15 : Int32)) hx hb dX7_init_1899 (by decide) ?_
  refine lv_sipush (v := (-7856 : Int32)) hx hb dX7_init_1901 (by decide) ?_
  refine pq_iastL C hh (pq_vin (by decide)) dX7_init_1904 (fun H locs hh => ?_)
  have hh : pq_H D A s (Wd ++ [(a, .inl (cI, 32, .inl aiX7_init_1797_15))]) H locs := hh
  refine lv_dup hx hb dX7_init_1905 rfl ?_
  refine lv_bipush (v := (16 : Int32)) hx hb dX7_init_1906 (by decide) ?_
  refine lv_sipush (v := (-7192 : Int32)) hx hb dX7_init_1908 (by decide) ?_
  refine pq_iastL C hh (pq_vin (by decide)) dX7_init_1911 (fun H locs hh => ?_)
  have hh : pq_H D A s (Wd ++ [(a, .inl (cI, 32, .inl aiX7_init_1797_16))]) H locs := hh
  refine lv_dup hx hb dX7_init_1912 rfl ?_
  refine lv_bipush (v := (17 : Int32)) hx hb dX7_init_1913 (by decide) ?_
  refine lv_sipush (v := (-6576 : Int32)) hx hb dX7_init_1915 (by decide) ?_
  refine pq_iastL C hh (pq_vin (by decide)) dX7_init_1918 (fun H locs hh => ?_)
  have hh : pq_H D A s (Wd ++ [(a, .inl (cI, 32, .inl aiX7_init_1797_17))]) H locs := hh
  refine lv_dup hx hb dX7_init_1919 rfl ?_
  refine lv_bipush (v := (18 : Int32)) hx hb dX7_init_1920 (by decide) ?_
  refine lv_sipush (v := (-6000 : Int32)) hx hb dX7_init_1922 (by decide) ?_
  refine pq_iastL C hh (pq_vin (by decide)) dX7_init_1925 (fun H locs hh => ?_)
  have hh : pq_H D A s (Wd ++ [(a, .inl (cI, 32, .inl aiX7_init_1797_18))]) H locs := hh
  refine lv_dup hx hb dX7_init_1926 rfl ?_
  refine lv_bipush (v := (19 : Int32)) hx hb dX7_init_1927 (by decide) ?_
  refine lv_sipush (v := (-5456 : Int32)) hx hb dX7_init_1929 (by decide) ?_
  refine pq_iastL C hh (pq_vin (by decide)) dX7_init_1932 (fun H locs hh => ?_)
  have hh : pq_H D A s (Wd ++ [(a, .inl (cI, 32, .inl aiX7_init_1797_19))]) H locs := hh
  refine lv_dup hx hb dX7_init_1933 rfl ?_
  refine lv_bipush (v := (20 : Int32)) hx hb dX7_init_1934 (by decide) ?_
  refine lv_sipush (v := (-4944 : Int32)) hx hb dX7_init_1936 (by decide) ?_
  refine pq_iastL C hh (pq_vin (by decide)) dX7_init_1939 (fun H locs hh => ?_)
  have hh : pq_H D A s (Wd ++ [(a, .inl (cI, 32, .inl aiX7_init_1797_20))]) H locs := hh
  refine lv_dup hx hb dX7_init_1940 rfl ?_
  refine lv_bipush (v := (21 : Int32)) hx hb dX7_init_1941 (by decide) ?_
  refine lv_sipush (v := (-4464 : Int32)) hx hb dX7_init_1943 (by decide) ?_
  refine pq_iastL C hh (pq_vin (by decide)) dX7_init_1946 (fun H locs hh => ?_)
  have hh : pq_H D A s (Wd ++ [(a, .inl (cI, 32, .inl aiX7_init_1797_21))]) H locs := hh
  refine lv_dup hx hb dX7_init_1947 rfl ?_
  refine lv_bipush (v := (22 : Int32)) hx hb dX7_init_1948 (by decide) ?_
  refine lv_sipush (v := (-4008 : Int32)) hx hb dX7_init_1950 (by decide) ?_
  refine pq_iastL C hh (pq_vin (by decide)) dX7_init_1953 (fun H locs hh => ?_)
  have hh : pq_H D A s (Wd ++ [(a, .inl (cI, 32, .inl aiX7_init_1797_22))]) H locs := hh
  refine lv_dup hx hb dX7_init_1954 rfl ?_
  refine lv_bipush (v := (23 : Int32)) hx hb dX7_init_1955 (by decide) ?_
  refine lv_sipush (v := (-3576 : Int32)) hx hb dX7_init_1957 (by decide) ?_
  refine pq_iastL C hh (pq_vin (by decide)) dX7_init_1960 (fun H locs hh => ?_)
  have hh : pq_H D A s (Wd ++ [(a, .inl (cI, 32, .inl aiX7_init_1797_23))]) H locs := hh
  refine lv_dup hx hb dX7_init_1961 rfl ?_
  refine lv_bipush (v := (24 : Int32)) hx hb dX7_init_1962 (by decide) ?_
  refine lv_sipush (v := (-3168 : Int32)) hx hb dX7_init_1964 (by decide) ?_
  refine pq_iastL C hh (pq_vin (by decide)) dX7_init_1967 (fun H locs hh => ?_)
  have hh : pq_H D A s (Wd ++ [(a, .inl (cI, 32, .inl aiX7_init_1797_24))]) H locs := hh
  refine lv_dup hx hb dX7_init_1968 rfl ?_
  refine lv_bipush (v := (25 : Int32)) hx hb dX7_init_1969 (by decide) ?_
  refine lv_sipush (v := (-2776 : Int32)) hx hb dX7_init_1971 (by decide) ?_
  refine pq_iastL C hh (pq_vin (by decide)) dX7_init_1974 (fun H locs hh => ?_)
  have hh : pq_H D A s (Wd ++ [(a, .inl (cI, 32, .inl aiX7_init_1797_25))]) H locs := hh
  refine lv_dup hx hb dX7_init_1975 rfl ?_
  refine lv_bipush (v := (26 : Int32)) hx hb dX7_init_1976 (by decide) ?_
  refine lv_sipush (v := (-2400 : Int32)) hx hb dX7_init_1978 (by decide) ?_
  refine pq_iastL C hh (pq_vin (by decide)) dX7_init_1981 (fun H locs hh => ?_)
  have hh : pq_H D A s (Wd ++ [(a, .inl (cI, 32, .inl aiX7_init_1797_26))]) H locs := hh
  refine lv_dup hx hb dX7_init_1982 rfl ?_
  refine lv_bipush (v := (27 : Int32)) hx hb dX7_init_1983 (by decide) ?_
  refine lv_sipush (v := (-2032 : Int32)) hx hb dX7_init_1985 (by decide) ?_
  refine pq_iastL C hh (pq_vin (by decide)) dX7_init_1988 (fun H locs hh => ?_)
  have hh : pq_H D A s (Wd ++ [(a, .inl (cI, 32, .inl aiX7_init_1797_27))]) H locs := hh
  refine lv_dup hx hb dX7_init_1989 rfl ?_
  refine lv_bipush (v := (28 : Int32)) hx hb dX7_init_1990 (by decide) ?_
  refine lv_sipush (v := (-1688 : Int32)) hx hb dX7_init_1992 (by decide) ?_
  refine pq_iastL C hh (pq_vin (by decide)) dX7_init_1995 (fun H locs hh => ?_)
  have hh : pq_H D A s (Wd ++ [(a, .inl (cI, 32, .inl aiX7_init_1797_28))]) H locs := hh
  refine lv_dup hx hb dX7_init_1996 rfl ?_
  refine lv_bipush (v := (29 : Int32)) hx hb dX7_init_1997 (by decide) ?_
  refine lv_sipush (v := (-1360 : Int32)) hx hb dX7_init_1999 (by decide) ?_
  refine pq_iastL C hh (pq_vin (by decide)) dX7_init_2002 (fun H locs hh => ?_)
  have hh : pq_H D A s (Wd ++ [(a, .inl (cI, 32, .inl aiX7_init_1797_29))]) H locs := hh
  refine lv_dup hx hb dX7_init_2003 rfl ?_
  refine lv_bipush (v := (30 : Int32)) hx hb dX7_init_2004 (by decide) ?_
  refine lv_sipush (v := (-1040 : Int32)) hx hb dX7_init_2006 (by decide) ?_
  refine pq_iastL C hh (pq_vin (by decide)) dX7_init_2009 (fun H locs hh => ?_)
  have hh : pq_H D A s (Wd ++ [(a, .inl (cI, 32, .inl aiX7_init_1797_30))]) H locs := hh
  refine lv_dup hx hb dX7_init_2010 rfl ?_
  refine lv_bipush (v := (31 : Int32)) hx hb dX7_init_2011 (by decide) ?_
  refine lv_sipush (v := (-728 : Int32)) hx hb dX7_init_2013 (by decide) ?_
  refine pq_iastL C hh (pq_vin (by decide)) dX7_init_2016 (fun H locs hh => ?_)
  have hh : pq_H D A s (Wd ++ [(a, .inl (cI, 32, .inl aiX7_init_1797_31))]) H locs := hh
  exact kk _ _ hh
set_option maxHeartbeats 4000000 in
set_option maxRecDepth 100000 in
theorem mdX7_4 {p : Program} {l : Launch} {e : Env} {s : State} {m : MethodId} {args : Array Value} {below : List Frame} {meth : Method} {c : Code} {H : Heap} {locs : List Loc} {Q : State → Prop} {ls : Array Slot} {D : va_G} {A : Nat → Prop} {th : Nat} {fs : List Value} {Wl : va_W} {cI cL : ClassId} (C : pq_Cx p c m cX7_init 1 s args qsX7_init RX7 D cI cL A) (hin : meth.name = "<init>") (hlen : 1 < fs.length) (hl : lv_has ls 1 [(0, .ref th)]) (hh : pq_H D A s ((th, .inr (6, fs)) :: Wl) H locs)
    (kk : ∀ (q : Nat) (H : Heap) (locs : List Loc), pq_H D A s ((th, .inr (6, fs.set 1 (.ref q))) :: (Wl ++ [(q, .inl (cI, 4, .inl aiX7_init_6_3))])) H locs → W p l e { frames := 1, cells := 34, slots := 5061, locals := 12 } s m args below meth c H locs 1 4 Q (F0 m 31 ls [])) : W p l e { frames := 1, cells := 34, slots := 5061, locals := 12 } s m args below meth c H locs 0 0 Q (F0 m 4 ls []) := by
  have hx := C.1
  have hb := C.2.1
  have hml := C.2.2.1
  have hown : s.vm.findClass RX7 = some m.cls := C.2.2.2.1
  have hs : ∀ w ∈ wsL_law, w ∈ qsX7_init := fun _ h => List.mem_cons_of_mem _ h
  have htw : ∀ w ∈ wsL_law, w.before args s = true := fun w h => C.2.2.2.2.1 w (hs w h)
  have i7 : ∀ w ∈ wsX70, w ∈ qsX7_init := fun w h => hs w (pq_i7 w h)
  have ka := htw (.arrayClass .int) (pq_m2 _ (List.mem_of_getElem? (i := 15) rfl))
  have kf10 := htw (.fieldLink RX7 10 "VoiceDeskModel" "kinds" "[I") (pq_m3 _ (List.mem_of_getElem? (i := 21) rfl))
  refine lv_aload_n hx hb dX7_init_4 rfl (lv_at hl 0 rfl) ?_
  refine lv_iconst (v := (4 : Int32)) hx hb dX7_init_5 (by decide) ?_
  refine pq_newa (N := 4) C hh ka (by decide) (by decide) (Nat.le_of_ble_eq_true rfl) (Nat.le_of_ble_eq_true rfl) (Nat.le_of_ble_eq_true rfl) dX7_init_6 (fun q H hh => ?_)
  refine fiX7_init_6 C hh (fun H locs hh => ?_)
  refine pq_putF (ty := (.array .int)) (v := .ref q) C hh i7 tyX7 tyX7_ok nmX7 0 6 rfl rfl 1 (by decide) kf10 rfl rfl hin rfl (by decide +kernel) rfl rfl hlen dX7_init_28 (fun H locs hh => ?_)
  exact kk q H locs hh
set_option maxHeartbeats 4000000 in
set_option maxRecDepth 100000 in
theorem mdX7_31 {p : Program} {l : Launch} {e : Env} {s : State} {m : MethodId} {args : Array Value} {below : List Frame} {meth : Method} {c : Code} {H : Heap} {locs : List Loc} {Q : State → Prop} {ls : Array Slot} {D : va_G} {A : Nat → Prop} {th : Nat} {fs : List Value} {Wl : va_W} {cI cL : ClassId} (C : pq_Cx p c m cX7_init 1 s args qsX7_init RX7 D cI cL A) (hin : meth.name = "<init>") (hlen : 2 < fs.length) (hl : lv_has ls 1 [(0, .ref th)]) (hh : pq_H D A s ((th, .inr (6, fs)) :: Wl) H locs)
    (kk : ∀ (q : Nat) (H : Heap) (locs : List Loc), pq_H D A s ((th, .inr (6, fs.set 2 (.ref q))) :: (Wl ++ [(q, .inl (cI, 4, .inl (fun _ => 0)))])) H locs → W p l e { frames := 1, cells := 34, slots := 5061, locals := 12 } s m args below meth c H locs 2 8 Q (F0 m 38 ls [])) : W p l e { frames := 1, cells := 34, slots := 5061, locals := 12 } s m args below meth c H locs 1 4 Q (F0 m 31 ls []) := by
  have hx := C.1
  have hb := C.2.1
  have hml := C.2.2.1
  have hown : s.vm.findClass RX7 = some m.cls := C.2.2.2.1
  have hs : ∀ w ∈ wsL_law, w ∈ qsX7_init := fun _ h => List.mem_cons_of_mem _ h
  have htw : ∀ w ∈ wsL_law, w.before args s = true := fun w h => C.2.2.2.2.1 w (hs w h)
  have i7 : ∀ w ∈ wsX70, w ∈ qsX7_init := fun w h => hs w (pq_i7 w h)
  have ka := htw (.arrayClass .int) (pq_m2 _ (List.mem_of_getElem? (i := 15) rfl))
  have kf14 := htw (.fieldLink RX7 14 "VoiceDeskModel" "seconds" "[I") (pq_m3 _ (List.mem_of_getElem? (i := 22) rfl))
  refine lv_aload_n hx hb dX7_init_31 rfl (lv_at hl 0 rfl) ?_
  refine lv_iconst (v := (4 : Int32)) hx hb dX7_init_32 (by decide) ?_
  refine pq_newa (N := 4) C hh ka (by decide) (by decide) (Nat.le_of_ble_eq_true rfl) (Nat.le_of_ble_eq_true rfl) (Nat.le_of_ble_eq_true rfl) dX7_init_33 (fun q H hh => ?_)
  refine pq_putF (ty := (.array .int)) (v := .ref q) C hh i7 tyX7 tyX7_ok nmX7 0 6 rfl rfl 2 (by decide) kf14 rfl rfl hin rfl (by decide +kernel) rfl rfl hlen dX7_init_35 (fun H locs hh => ?_)
  exact kk q H locs hh
set_option maxHeartbeats 4000000 in
set_option maxRecDepth 100000 in
theorem mdX7_38 {p : Program} {l : Launch} {e : Env} {s : State} {m : MethodId} {args : Array Value} {below : List Frame} {meth : Method} {c : Code} {H : Heap} {locs : List Loc} {Q : State → Prop} {ls : Array Slot} {D : va_G} {A : Nat → Prop} {th : Nat} {fs : List Value} {Wl : va_W} {cI cL : ClassId} (C : pq_Cx p c m cX7_init 1 s args qsX7_init RX7 D cI cL A) (hin : meth.name = "<init>") (hlen : 3 < fs.length) (hl : lv_has ls 1 [(0, .ref th)]) (hh : pq_H D A s ((th, .inr (6, fs)) :: Wl) H locs)
    (kk : ∀ (q : Nat) (H : Heap) (locs : List Loc), pq_H D A s ((th, .inr (6, fs.set 3 (.ref q))) :: (Wl ++ [(q, .inl (cI, 192, .inl (fun _ => 0)))])) H locs → W p l e { frames := 1, cells := 34, slots := 5061, locals := 12 } s m args below meth c H locs 3 200 Q (F0 m 47 ls [])) : W p l e { frames := 1, cells := 34, slots := 5061, locals := 12 } s m args below meth c H locs 2 8 Q (F0 m 38 ls []) := by
  have hx := C.1
  have hb := C.2.1
  have hml := C.2.2.1
  have hown : s.vm.findClass RX7 = some m.cls := C.2.2.2.1
  have hs : ∀ w ∈ wsL_law, w ∈ qsX7_init := fun _ h => List.mem_cons_of_mem _ h
  have htw : ∀ w ∈ wsL_law, w.before args s = true := fun w h => C.2.2.2.2.1 w (hs w h)
  have i7 : ∀ w ∈ wsX70, w ∈ qsX7_init := fun w h => hs w (pq_i7 w h)
  have ka := htw (.arrayClass .int) (pq_m2 _ (List.mem_of_getElem? (i := 15) rfl))
  have kf17 := htw (.fieldLink RX7 17 "VoiceDeskModel" "g" "[I") (pq_m3 _ (List.mem_of_getElem? (i := 23) rfl))
  refine lv_aload_n hx hb dX7_init_38 rfl (lv_at hl 0 rfl) ?_
  refine lv_sipush (v := (192 : Int32)) hx hb dX7_init_39 (by decide) ?_
  refine pq_newa (N := 192) C hh ka (by decide) (by decide) (Nat.le_of_ble_eq_true rfl) (Nat.le_of_ble_eq_true rfl) (Nat.le_of_ble_eq_true rfl) dX7_init_42 (fun q H hh => ?_)
  refine pq_putF (ty := (.array .int)) (v := .ref q) C hh i7 tyX7 tyX7_ok nmX7 0 6 rfl rfl 3 (by decide) kf17 rfl rfl hin rfl (by decide +kernel) rfl rfl hlen dX7_init_44 (fun H locs hh => ?_)
  exact kk q H locs hh
set_option maxHeartbeats 4000000 in
set_option maxRecDepth 100000 in
theorem mdX7_47 {p : Program} {l : Launch} {e : Env} {s : State} {m : MethodId} {args : Array Value} {below : List Frame} {meth : Method} {c : Code} {H : Heap} {locs : List Loc} {Q : State → Prop} {ls : Array Slot} {D : va_G} {A : Nat → Prop} {th : Nat} {fs : List Value} {Wl : va_W} {cI cL : ClassId} (C : pq_Cx p c m cX7_init 1 s args qsX7_init RX7 D cI cL A) (hin : meth.name = "<init>") (hlen : 4 < fs.length) (hl : lv_has ls 1 [(0, .ref th)]) (hh : pq_H D A s ((th, .inr (6, fs)) :: Wl) H locs)
    (kk : ∀ (q : Nat) (H : Heap) (locs : List Loc), pq_H D A s ((th, .inr (6, fs.set 4 (.ref q))) :: (Wl ++ [(q, .inl (cI, 1, .inl aiX7_init_49_0))])) H locs → W p l e { frames := 1, cells := 34, slots := 5061, locals := 12 } s m args below meth c H locs 4 201 Q (F0 m 60 ls [])) : W p l e { frames := 1, cells := 34, slots := 5061, locals := 12 } s m args below meth c H locs 3 200 Q (F0 m 47 ls []) := by
  have hx := C.1
  have hb := C.2.1
  have hml := C.2.2.1
  have hown : s.vm.findClass RX7 = some m.cls := C.2.2.2.1
  have hs : ∀ w ∈ wsL_law, w ∈ qsX7_init := fun _ h => List.mem_cons_of_mem _ h
  have htw : ∀ w ∈ wsL_law, w.before args s = true := fun w h => C.2.2.2.2.1 w (hs w h)
  have i7 : ∀ w ∈ wsX70, w ∈ qsX7_init := fun w h => hs w (pq_i7 w h)
  have ka := htw (.arrayClass .int) (pq_m2 _ (List.mem_of_getElem? (i := 15) rfl))
  have kf20 := htw (.fieldLink RX7 20 "VoiceDeskModel" "bounds2" "[I") (pq_m4 _ (List.mem_of_getElem? (i := 0) rfl))
  refine lv_aload_n hx hb dX7_init_47 rfl (lv_at hl 0 rfl) ?_
  refine lv_iconst (v := (1 : Int32)) hx hb dX7_init_48 (by decide) ?_
  refine pq_newa (N := 1) C hh ka (by decide) (by decide) (Nat.le_of_ble_eq_true rfl) (Nat.le_of_ble_eq_true rfl) (Nat.le_of_ble_eq_true rfl) dX7_init_49 (fun q H hh => ?_)
  refine fiX7_init_49 C hh (fun H locs hh => ?_)
  refine pq_putF (ty := (.array .int)) (v := .ref q) C hh i7 tyX7 tyX7_ok nmX7 0 6 rfl rfl 4 (by decide) kf20 rfl rfl hin rfl (by decide +kernel) rfl rfl hlen dX7_init_57 (fun H locs hh => ?_)
  exact kk q H locs hh
set_option maxHeartbeats 4000000 in
set_option maxRecDepth 100000 in
theorem mdX7_60 {p : Program} {l : Launch} {e : Env} {s : State} {m : MethodId} {args : Array Value} {below : List Frame} {meth : Method} {c : Code} {H : Heap} {locs : List Loc} {Q : State → Prop} {ls : Array Slot} {D : va_G} {A : Nat → Prop} {th : Nat} {fs : List Value} {Wl : va_W} {cI cL : ClassId} (C : pq_Cx p c m cX7_init 1 s args qsX7_init RX7 D cI cL A) (hin : meth.name = "<init>") (hlen : 5 < fs.length) (hl : lv_has ls 1 [(0, .ref th)]) (hh : pq_H D A s ((th, .inr (6, fs)) :: Wl) H locs)
    (kk : ∀ (q : Nat) (H : Heap) (locs : List Loc), pq_H D A s ((th, .inr (6, fs.set 5 (.ref q))) :: (Wl ++ [(q, .inl (cI, 3, .inl aiX7_init_62_2))])) H locs → W p l e { frames := 1, cells := 34, slots := 5061, locals := 12 } s m args below meth c H locs 5 204 Q (F0 m 84 ls [])) : W p l e { frames := 1, cells := 34, slots := 5061, locals := 12 } s m args below meth c H locs 4 201 Q (F0 m 60 ls []) := by
  have hx := C.1
  have hb := C.2.1
  have hml := C.2.2.1
  have hown : s.vm.findClass RX7 = some m.cls := C.2.2.2.1
  have hs : ∀ w ∈ wsL_law, w ∈ qsX7_init := fun _ h => List.mem_cons_of_mem _ h
  have htw : ∀ w ∈ wsL_law, w.before args s = true := fun w h => C.2.2.2.2.1 w (hs w h)
  have i7 : ∀ w ∈ wsX70, w ∈ qsX7_init := fun w h => hs w (pq_i7 w h)
  have ka := htw (.arrayClass .int) (pq_m2 _ (List.mem_of_getElem? (i := 15) rfl))
  have kf23 := htw (.fieldLink RX7 23 "VoiceDeskModel" "bounds3" "[I") (pq_m4 _ (List.mem_of_getElem? (i := 1) rfl))
  refine lv_aload_n hx hb dX7_init_60 rfl (lv_at hl 0 rfl) ?_
  refine lv_iconst (v := (3 : Int32)) hx hb dX7_init_61 (by decide) ?_
  refine pq_newa (N := 3) C hh ka (by decide) (by decide) (Nat.le_of_ble_eq_true rfl) (Nat.le_of_ble_eq_true rfl) (Nat.le_of_ble_eq_true rfl) dX7_init_62 (fun q H hh => ?_)
  refine fiX7_init_62 C hh (fun H locs hh => ?_)
  refine pq_putF (ty := (.array .int)) (v := .ref q) C hh i7 tyX7 tyX7_ok nmX7 0 6 rfl rfl 5 (by decide) kf23 rfl rfl hin rfl (by decide +kernel) rfl rfl hlen dX7_init_81 (fun H locs hh => ?_)
  exact kk q H locs hh
set_option maxHeartbeats 4000000 in
set_option maxRecDepth 100000 in
theorem mdX7_84 {p : Program} {l : Launch} {e : Env} {s : State} {m : MethodId} {args : Array Value} {below : List Frame} {meth : Method} {c : Code} {H : Heap} {locs : List Loc} {Q : State → Prop} {ls : Array Slot} {D : va_G} {A : Nat → Prop} {th : Nat} {fs : List Value} {Wl : va_W} {cI cL : ClassId} (C : pq_Cx p c m cX7_init 1 s args qsX7_init RX7 D cI cL A) (hin : meth.name = "<init>") (hlen : 6 < fs.length) (hl : lv_has ls 1 [(0, .ref th)]) (hh : pq_H D A s ((th, .inr (6, fs)) :: Wl) H locs)
    (kk : ∀ (q : Nat) (H : Heap) (locs : List Loc), pq_H D A s ((th, .inr (6, fs.set 6 (.ref q))) :: (Wl ++ [(q, .inl (cI, 7, .inl aiX7_init_87_6))])) H locs → W p l e { frames := 1, cells := 34, slots := 5061, locals := 12 } s m args below meth c H locs 6 211 Q (F0 m 133 ls [])) : W p l e { frames := 1, cells := 34, slots := 5061, locals := 12 } s m args below meth c H locs 5 204 Q (F0 m 84 ls []) := by
  have hx := C.1
  have hb := C.2.1
  have hml := C.2.2.1
  have hown : s.vm.findClass RX7 = some m.cls := C.2.2.2.1
  have hs : ∀ w ∈ wsL_law, w ∈ qsX7_init := fun _ h => List.mem_cons_of_mem _ h
  have htw : ∀ w ∈ wsL_law, w.before args s = true := fun w h => C.2.2.2.2.1 w (hs w h)
  have i7 : ∀ w ∈ wsX70, w ∈ qsX7_init := fun w h => hs w (pq_i7 w h)
  have ka := htw (.arrayClass .int) (pq_m2 _ (List.mem_of_getElem? (i := 15) rfl))
  have kf26 := htw (.fieldLink RX7 26 "VoiceDeskModel" "bounds4" "[I") (pq_m4 _ (List.mem_of_getElem? (i := 2) rfl))
  refine lv_aload_n hx hb dX7_init_84 rfl (lv_at hl 0 rfl) ?_
  refine lv_bipush (v := (7 : Int32)) hx hb dX7_init_85 (by decide) ?_
  refine pq_newa (N := 7) C hh ka (by decide) (by decide) (Nat.le_of_ble_eq_true rfl) (Nat.le_of_ble_eq_true rfl) (Nat.le_of_ble_eq_true rfl) dX7_init_87 (fun q H hh => ?_)
  refine fiX7_init_87 C hh (fun H locs hh => ?_)
  refine pq_putF (ty := (.array .int)) (v := .ref q) C hh i7 tyX7 tyX7_ok nmX7 0 6 rfl rfl 6 (by decide) kf26 rfl rfl hin rfl (by decide +kernel) rfl rfl hlen dX7_init_130 (fun H locs hh => ?_)
  exact kk q H locs hh
set_option maxHeartbeats 4000000 in
set_option maxRecDepth 100000 in
theorem mdX7_133 {p : Program} {l : Launch} {e : Env} {s : State} {m : MethodId} {args : Array Value} {below : List Frame} {meth : Method} {c : Code} {H : Heap} {locs : List Loc} {Q : State → Prop} {ls : Array Slot} {D : va_G} {A : Nat → Prop} {th : Nat} {fs : List Value} {Wl : va_W} {cI cL : ClassId} (C : pq_Cx p c m cX7_init 1 s args qsX7_init RX7 D cI cL A) (hin : meth.name = "<init>") (hlen : 7 < fs.length) (hl : lv_has ls 1 [(0, .ref th)]) (hh : pq_H D A s ((th, .inr (6, fs)) :: Wl) H locs)
    (kk : ∀ (q : Nat) (H : Heap) (locs : List Loc), pq_H D A s ((th, .inr (6, fs.set 7 (.ref q))) :: (Wl ++ [(q, .inl (cI, 15, .inl aiX7_init_136_14))])) H locs → W p l e { frames := 1, cells := 34, slots := 5061, locals := 12 } s m args below meth c H locs 7 226 Q (F0 m 237 ls [])) : W p l e { frames := 1, cells := 34, slots := 5061, locals := 12 } s m args below meth c H locs 6 211 Q (F0 m 133 ls []) := by
  have hx := C.1
  have hb := C.2.1
  have hml := C.2.2.1
  have hown : s.vm.findClass RX7 = some m.cls := C.2.2.2.1
  have hs : ∀ w ∈ wsL_law, w ∈ qsX7_init := fun _ h => List.mem_cons_of_mem _ h
  have htw : ∀ w ∈ wsL_law, w.before args s = true := fun w h => C.2.2.2.2.1 w (hs w h)
  have i7 : ∀ w ∈ wsX70, w ∈ qsX7_init := fun w h => hs w (pq_i7 w h)
  have ka := htw (.arrayClass .int) (pq_m2 _ (List.mem_of_getElem? (i := 15) rfl))
  have kf29 := htw (.fieldLink RX7 29 "VoiceDeskModel" "bounds5" "[I") (pq_m4 _ (List.mem_of_getElem? (i := 3) rfl))
  refine lv_aload_n hx hb dX7_init_133 rfl (lv_at hl 0 rfl) ?_
  refine lv_bipush (v := (15 : Int32)) hx hb dX7_init_134 (by decide) ?_
  refine pq_newa (N := 15) C hh ka (by decide) (by decide) (Nat.le_of_ble_eq_true rfl) (Nat.le_of_ble_eq_true rfl) (Nat.le_of_ble_eq_true rfl) dX7_init_136 (fun q H hh => ?_)
  refine fiX7_init_136 C hh (fun H locs hh => ?_)
  refine pq_putF (ty := (.array .int)) (v := .ref q) C hh i7 tyX7 tyX7_ok nmX7 0 6 rfl rfl 7 (by decide) kf29 rfl rfl hin rfl (by decide +kernel) rfl rfl hlen dX7_init_234 (fun H locs hh => ?_)
  exact kk q H locs hh
set_option maxHeartbeats 4000000 in
set_option maxRecDepth 100000 in
theorem mdX7_237 {p : Program} {l : Launch} {e : Env} {s : State} {m : MethodId} {args : Array Value} {below : List Frame} {meth : Method} {c : Code} {H : Heap} {locs : List Loc} {Q : State → Prop} {ls : Array Slot} {D : va_G} {A : Nat → Prop} {th : Nat} {fs : List Value} {Wl : va_W} {cI cL : ClassId} (C : pq_Cx p c m cX7_init 1 s args qsX7_init RX7 D cI cL A) (hin : meth.name = "<init>") (hlen : 8 < fs.length) (hl : lv_has ls 1 [(0, .ref th)]) (hh : pq_H D A s ((th, .inr (6, fs)) :: Wl) H locs)
    (kk : ∀ (q : Nat) (H : Heap) (locs : List Loc), pq_H D A s ((th, .inr (6, fs.set 8 (.ref q))) :: (Wl ++ [(q, .inl (cI, 2, .inl aiX7_init_239_1))])) H locs → W p l e { frames := 1, cells := 34, slots := 5061, locals := 12 } s m args below meth c H locs 8 228 Q (F0 m 255 ls [])) : W p l e { frames := 1, cells := 34, slots := 5061, locals := 12 } s m args below meth c H locs 7 226 Q (F0 m 237 ls []) := by
  have hx := C.1
  have hb := C.2.1
  have hml := C.2.2.1
  have hown : s.vm.findClass RX7 = some m.cls := C.2.2.2.1
  have hs : ∀ w ∈ wsL_law, w ∈ qsX7_init := fun _ h => List.mem_cons_of_mem _ h
  have htw : ∀ w ∈ wsL_law, w.before args s = true := fun w h => C.2.2.2.2.1 w (hs w h)
  have i7 : ∀ w ∈ wsX70, w ∈ qsX7_init := fun w h => hs w (pq_i7 w h)
  have ka := htw (.arrayClass .int) (pq_m2 _ (List.mem_of_getElem? (i := 15) rfl))
  have kf32 := htw (.fieldLink RX7 32 "VoiceDeskModel" "table2" "[I") (pq_m4 _ (List.mem_of_getElem? (i := 4) rfl))
  refine lv_aload_n hx hb dX7_init_237 rfl (lv_at hl 0 rfl) ?_
  refine lv_iconst (v := (2 : Int32)) hx hb dX7_init_238 (by decide) ?_
  refine pq_newa (N := 2) C hh ka (by decide) (by decide) (Nat.le_of_ble_eq_true rfl) (Nat.le_of_ble_eq_true rfl) (Nat.le_of_ble_eq_true rfl) dX7_init_239 (fun q H hh => ?_)
  refine fiX7_init_239 C hh (fun H locs hh => ?_)
  refine pq_putF (ty := (.array .int)) (v := .ref q) C hh i7 tyX7 tyX7_ok nmX7 0 6 rfl rfl 8 (by decide) kf32 rfl rfl hin rfl (by decide +kernel) rfl rfl hlen dX7_init_252 (fun H locs hh => ?_)
  exact kk q H locs hh
set_option maxHeartbeats 4000000 in
set_option maxRecDepth 100000 in
theorem mdX7_255 {p : Program} {l : Launch} {e : Env} {s : State} {m : MethodId} {args : Array Value} {below : List Frame} {meth : Method} {c : Code} {H : Heap} {locs : List Loc} {Q : State → Prop} {ls : Array Slot} {D : va_G} {A : Nat → Prop} {th : Nat} {fs : List Value} {Wl : va_W} {cI cL : ClassId} (C : pq_Cx p c m cX7_init 1 s args qsX7_init RX7 D cI cL A) (hin : meth.name = "<init>") (hlen : 9 < fs.length) (hl : lv_has ls 1 [(0, .ref th)]) (hh : pq_H D A s ((th, .inr (6, fs)) :: Wl) H locs)
    (kk : ∀ (q : Nat) (H : Heap) (locs : List Loc), pq_H D A s ((th, .inr (6, fs.set 9 (.ref q))) :: (Wl ++ [(q, .inl (cI, 4, .inl aiX7_init_257_3))])) H locs → W p l e { frames := 1, cells := 34, slots := 5061, locals := 12 } s m args below meth c H locs 9 232 Q (F0 m 286 ls [])) : W p l e { frames := 1, cells := 34, slots := 5061, locals := 12 } s m args below meth c H locs 8 228 Q (F0 m 255 ls []) := by
  have hx := C.1
  have hb := C.2.1
  have hml := C.2.2.1
  have hown : s.vm.findClass RX7 = some m.cls := C.2.2.2.1
  have hs : ∀ w ∈ wsL_law, w ∈ qsX7_init := fun _ h => List.mem_cons_of_mem _ h
  have htw : ∀ w ∈ wsL_law, w.before args s = true := fun w h => C.2.2.2.2.1 w (hs w h)
  have i7 : ∀ w ∈ wsX70, w ∈ qsX7_init := fun w h => hs w (pq_i7 w h)
  have ka := htw (.arrayClass .int) (pq_m2 _ (List.mem_of_getElem? (i := 15) rfl))
  have kf35 := htw (.fieldLink RX7 35 "VoiceDeskModel" "table3" "[I") (pq_m4 _ (List.mem_of_getElem? (i := 5) rfl))
  refine lv_aload_n hx hb dX7_init_255 rfl (lv_at hl 0 rfl) ?_
  refine lv_iconst (v := (4 : Int32)) hx hb dX7_init_256 (by decide) ?_
  refine pq_newa (N := 4) C hh ka (by decide) (by decide) (Nat.le_of_ble_eq_true rfl) (Nat.le_of_ble_eq_true rfl) (Nat.le_of_ble_eq_true rfl) dX7_init_257 (fun q H hh => ?_)
  refine fiX7_init_257 C hh (fun H locs hh => ?_)
  refine pq_putF (ty := (.array .int)) (v := .ref q) C hh i7 tyX7 tyX7_ok nmX7 0 6 rfl rfl 9 (by decide) kf35 rfl rfl hin rfl (by decide +kernel) rfl rfl hlen dX7_init_283 (fun H locs hh => ?_)
  exact kk q H locs hh
set_option maxHeartbeats 4000000 in
set_option maxRecDepth 100000 in
theorem mdX7_286 {p : Program} {l : Launch} {e : Env} {s : State} {m : MethodId} {args : Array Value} {below : List Frame} {meth : Method} {c : Code} {H : Heap} {locs : List Loc} {Q : State → Prop} {ls : Array Slot} {D : va_G} {A : Nat → Prop} {th : Nat} {fs : List Value} {Wl : va_W} {cI cL : ClassId} (C : pq_Cx p c m cX7_init 1 s args qsX7_init RX7 D cI cL A) (hin : meth.name = "<init>") (hlen : 10 < fs.length) (hl : lv_has ls 1 [(0, .ref th)]) (hh : pq_H D A s ((th, .inr (6, fs)) :: Wl) H locs)
    (kk : ∀ (q : Nat) (H : Heap) (locs : List Loc), pq_H D A s ((th, .inr (6, fs.set 10 (.ref q))) :: (Wl ++ [(q, .inl (cI, 8, .inl aiX7_init_289_7))])) H locs → W p l e { frames := 1, cells := 34, slots := 5061, locals := 12 } s m args below meth c H locs 10 240 Q (F0 m 342 ls [])) : W p l e { frames := 1, cells := 34, slots := 5061, locals := 12 } s m args below meth c H locs 9 232 Q (F0 m 286 ls []) := by
  have hx := C.1
  have hb := C.2.1
  have hml := C.2.2.1
  have hown : s.vm.findClass RX7 = some m.cls := C.2.2.2.1
  have hs : ∀ w ∈ wsL_law, w ∈ qsX7_init := fun _ h => List.mem_cons_of_mem _ h
  have htw : ∀ w ∈ wsL_law, w.before args s = true := fun w h => C.2.2.2.2.1 w (hs w h)
  have i7 : ∀ w ∈ wsX70, w ∈ qsX7_init := fun w h => hs w (pq_i7 w h)
  have ka := htw (.arrayClass .int) (pq_m2 _ (List.mem_of_getElem? (i := 15) rfl))
  have kf38 := htw (.fieldLink RX7 38 "VoiceDeskModel" "table4" "[I") (pq_m4 _ (List.mem_of_getElem? (i := 6) rfl))
  refine lv_aload_n hx hb dX7_init_286 rfl (lv_at hl 0 rfl) ?_
  refine lv_bipush (v := (8 : Int32)) hx hb dX7_init_287 (by decide) ?_
  refine pq_newa (N := 8) C hh ka (by decide) (by decide) (Nat.le_of_ble_eq_true rfl) (Nat.le_of_ble_eq_true rfl) (Nat.le_of_ble_eq_true rfl) dX7_init_289 (fun q H hh => ?_)
  refine fiX7_init_289 C hh (fun H locs hh => ?_)
  refine pq_putF (ty := (.array .int)) (v := .ref q) C hh i7 tyX7 tyX7_ok nmX7 0 6 rfl rfl 10 (by decide) kf38 rfl rfl hin rfl (by decide +kernel) rfl rfl hlen dX7_init_339 (fun H locs hh => ?_)
  exact kk q H locs hh
set_option maxHeartbeats 4000000 in
set_option maxRecDepth 100000 in
theorem mdX7_342 {p : Program} {l : Launch} {e : Env} {s : State} {m : MethodId} {args : Array Value} {below : List Frame} {meth : Method} {c : Code} {H : Heap} {locs : List Loc} {Q : State → Prop} {ls : Array Slot} {D : va_G} {A : Nat → Prop} {th : Nat} {fs : List Value} {Wl : va_W} {cI cL : ClassId} (C : pq_Cx p c m cX7_init 1 s args qsX7_init RX7 D cI cL A) (hin : meth.name = "<init>") (hlen : 11 < fs.length) (hl : lv_has ls 1 [(0, .ref th)]) (hh : pq_H D A s ((th, .inr (6, fs)) :: Wl) H locs)
    (kk : ∀ (q : Nat) (H : Heap) (locs : List Loc), pq_H D A s ((th, .inr (6, fs.set 11 (.ref q))) :: (Wl ++ [(q, .inl (cI, 16, .inl aiX7_init_345_15))])) H locs → W p l e { frames := 1, cells := 34, slots := 5061, locals := 12 } s m args below meth c H locs 11 256 Q (F0 m 453 ls [])) : W p l e { frames := 1, cells := 34, slots := 5061, locals := 12 } s m args below meth c H locs 10 240 Q (F0 m 342 ls []) := by
  have hx := C.1
  have hb := C.2.1
  have hml := C.2.2.1
  have hown : s.vm.findClass RX7 = some m.cls := C.2.2.2.1
  have hs : ∀ w ∈ wsL_law, w ∈ qsX7_init := fun _ h => List.mem_cons_of_mem _ h
  have htw : ∀ w ∈ wsL_law, w.before args s = true := fun w h => C.2.2.2.2.1 w (hs w h)
  have i7 : ∀ w ∈ wsX70, w ∈ qsX7_init := fun w h => hs w (pq_i7 w h)
  have ka := htw (.arrayClass .int) (pq_m2 _ (List.mem_of_getElem? (i := 15) rfl))
  have kf41 := htw (.fieldLink RX7 41 "VoiceDeskModel" "table5" "[I") (pq_m4 _ (List.mem_of_getElem? (i := 7) rfl))
  refine lv_aload_n hx hb dX7_init_342 rfl (lv_at hl 0 rfl) ?_
  refine lv_bipush (v := (16 : Int32)) hx hb dX7_init_343 (by decide) ?_
  refine pq_newa (N := 16) C hh ka (by decide) (by decide) (Nat.le_of_ble_eq_true rfl) (Nat.le_of_ble_eq_true rfl) (Nat.le_of_ble_eq_true rfl) dX7_init_345 (fun q H hh => ?_)
  refine fiX7_init_345 C hh (fun H locs hh => ?_)
  refine pq_putF (ty := (.array .int)) (v := .ref q) C hh i7 tyX7 tyX7_ok nmX7 0 6 rfl rfl 11 (by decide) kf41 rfl rfl hin rfl (by decide +kernel) rfl rfl hlen dX7_init_450 (fun H locs hh => ?_)
  exact kk q H locs hh
set_option maxHeartbeats 4000000 in
set_option maxRecDepth 100000 in
theorem mdX7_453 {p : Program} {l : Launch} {e : Env} {s : State} {m : MethodId} {args : Array Value} {below : List Frame} {meth : Method} {c : Code} {H : Heap} {locs : List Loc} {Q : State → Prop} {ls : Array Slot} {D : va_G} {A : Nat → Prop} {th : Nat} {fs : List Value} {Wl : va_W} {cI cL : ClassId} (C : pq_Cx p c m cX7_init 1 s args qsX7_init RX7 D cI cL A) (hin : meth.name = "<init>") (hlen : 12 < fs.length) (hl : lv_has ls 1 [(0, .ref th)]) (hh : pq_H D A s ((th, .inr (6, fs)) :: Wl) H locs)
    (kk : ∀ (q : Nat) (H : Heap) (locs : List Loc), pq_H D A s ((th, .inr (6, fs.set 12 (.ref q))) :: (Wl ++ [(q, .inl (cI, 2, .inl aiX7_init_455_1))])) H locs → W p l e { frames := 1, cells := 34, slots := 5061, locals := 12 } s m args below meth c H locs 12 258 Q (F0 m 472 ls [])) : W p l e { frames := 1, cells := 34, slots := 5061, locals := 12 } s m args below meth c H locs 11 256 Q (F0 m 453 ls []) := by
  have hx := C.1
  have hb := C.2.1
  have hml := C.2.2.1
  have hown : s.vm.findClass RX7 = some m.cls := C.2.2.2.1
  have hs : ∀ w ∈ wsL_law, w ∈ qsX7_init := fun _ h => List.mem_cons_of_mem _ h
  have htw : ∀ w ∈ wsL_law, w.before args s = true := fun w h => C.2.2.2.2.1 w (hs w h)
  have i7 : ∀ w ∈ wsX70, w ∈ qsX7_init := fun w h => hs w (pq_i7 w h)
  have ka := htw (.arrayClass .int) (pq_m2 _ (List.mem_of_getElem? (i := 15) rfl))
  have kf44 := htw (.fieldLink RX7 44 "VoiceDeskModel" "weight2" "[I") (pq_m4 _ (List.mem_of_getElem? (i := 8) rfl))
  refine lv_aload_n hx hb dX7_init_453 rfl (lv_at hl 0 rfl) ?_
  refine lv_iconst (v := (2 : Int32)) hx hb dX7_init_454 (by decide) ?_
  refine pq_newa (N := 2) C hh ka (by decide) (by decide) (Nat.le_of_ble_eq_true rfl) (Nat.le_of_ble_eq_true rfl) (Nat.le_of_ble_eq_true rfl) dX7_init_455 (fun q H hh => ?_)
  refine fiX7_init_455 C hh (fun H locs hh => ?_)
  refine pq_putF (ty := (.array .int)) (v := .ref q) C hh i7 tyX7 tyX7_ok nmX7 0 6 rfl rfl 12 (by decide) kf44 rfl rfl hin rfl (by decide +kernel) rfl rfl hlen dX7_init_469 (fun H locs hh => ?_)
  exact kk q H locs hh
set_option maxHeartbeats 4000000 in
set_option maxRecDepth 100000 in
theorem mdX7_472 {p : Program} {l : Launch} {e : Env} {s : State} {m : MethodId} {args : Array Value} {below : List Frame} {meth : Method} {c : Code} {H : Heap} {locs : List Loc} {Q : State → Prop} {ls : Array Slot} {D : va_G} {A : Nat → Prop} {th : Nat} {fs : List Value} {Wl : va_W} {cI cL : ClassId} (C : pq_Cx p c m cX7_init 1 s args qsX7_init RX7 D cI cL A) (hin : meth.name = "<init>") (hlen : 13 < fs.length) (hl : lv_has ls 1 [(0, .ref th)]) (hh : pq_H D A s ((th, .inr (6, fs)) :: Wl) H locs)
    (kk : ∀ (q : Nat) (H : Heap) (locs : List Loc), pq_H D A s ((th, .inr (6, fs.set 13 (.ref q))) :: (Wl ++ [(q, .inl (cI, 4, .inl aiX7_init_474_3))])) H locs → W p l e { frames := 1, cells := 34, slots := 5061, locals := 12 } s m args below meth c H locs 13 262 Q (F0 m 502 ls [])) : W p l e { frames := 1, cells := 34, slots := 5061, locals := 12 } s m args below meth c H locs 12 258 Q (F0 m 472 ls []) := by
  have hx := C.1
  have hb := C.2.1
  have hml := C.2.2.1
  have hown : s.vm.findClass RX7 = some m.cls := C.2.2.2.1
  have hs : ∀ w ∈ wsL_law, w ∈ qsX7_init := fun _ h => List.mem_cons_of_mem _ h
  have htw : ∀ w ∈ wsL_law, w.before args s = true := fun w h => C.2.2.2.2.1 w (hs w h)
  have i7 : ∀ w ∈ wsX70, w ∈ qsX7_init := fun w h => hs w (pq_i7 w h)
  have ka := htw (.arrayClass .int) (pq_m2 _ (List.mem_of_getElem? (i := 15) rfl))
  have kf47 := htw (.fieldLink RX7 47 "VoiceDeskModel" "weight3" "[I") (pq_m4 _ (List.mem_of_getElem? (i := 9) rfl))
  refine lv_aload_n hx hb dX7_init_472 rfl (lv_at hl 0 rfl) ?_
  refine lv_iconst (v := (4 : Int32)) hx hb dX7_init_473 (by decide) ?_
  refine pq_newa (N := 4) C hh ka (by decide) (by decide) (Nat.le_of_ble_eq_true rfl) (Nat.le_of_ble_eq_true rfl) (Nat.le_of_ble_eq_true rfl) dX7_init_474 (fun q H hh => ?_)
  refine fiX7_init_474 C hh (fun H locs hh => ?_)
  refine pq_putF (ty := (.array .int)) (v := .ref q) C hh i7 tyX7 tyX7_ok nmX7 0 6 rfl rfl 13 (by decide) kf47 rfl rfl hin rfl (by decide +kernel) rfl rfl hlen dX7_init_499 (fun H locs hh => ?_)
  exact kk q H locs hh
set_option maxHeartbeats 4000000 in
set_option maxRecDepth 100000 in
theorem mdX7_502 {p : Program} {l : Launch} {e : Env} {s : State} {m : MethodId} {args : Array Value} {below : List Frame} {meth : Method} {c : Code} {H : Heap} {locs : List Loc} {Q : State → Prop} {ls : Array Slot} {D : va_G} {A : Nat → Prop} {th : Nat} {fs : List Value} {Wl : va_W} {cI cL : ClassId} (C : pq_Cx p c m cX7_init 1 s args qsX7_init RX7 D cI cL A) (hin : meth.name = "<init>") (hlen : 14 < fs.length) (hl : lv_has ls 1 [(0, .ref th)]) (hh : pq_H D A s ((th, .inr (6, fs)) :: Wl) H locs)
    (kk : ∀ (q : Nat) (H : Heap) (locs : List Loc), pq_H D A s ((th, .inr (6, fs.set 14 (.ref q))) :: (Wl ++ [(q, .inl (cI, 8, .inl aiX7_init_505_7))])) H locs → W p l e { frames := 1, cells := 34, slots := 5061, locals := 12 } s m args below meth c H locs 14 270 Q (F0 m 559 ls [])) : W p l e { frames := 1, cells := 34, slots := 5061, locals := 12 } s m args below meth c H locs 13 262 Q (F0 m 502 ls []) := by
  have hx := C.1
  have hb := C.2.1
  have hml := C.2.2.1
  have hown : s.vm.findClass RX7 = some m.cls := C.2.2.2.1
  have hs : ∀ w ∈ wsL_law, w ∈ qsX7_init := fun _ h => List.mem_cons_of_mem _ h
  have htw : ∀ w ∈ wsL_law, w.before args s = true := fun w h => C.2.2.2.2.1 w (hs w h)
  have i7 : ∀ w ∈ wsX70, w ∈ qsX7_init := fun w h => hs w (pq_i7 w h)
  have ka := htw (.arrayClass .int) (pq_m2 _ (List.mem_of_getElem? (i := 15) rfl))
  have kf51 := htw (.fieldLink RX7 51 "VoiceDeskModel" "weight4" "[I") (pq_m4 _ (List.mem_of_getElem? (i := 11) rfl))
  refine lv_aload_n hx hb dX7_init_502 rfl (lv_at hl 0 rfl) ?_
  refine lv_bipush (v := (8 : Int32)) hx hb dX7_init_503 (by decide) ?_
  refine pq_newa (N := 8) C hh ka (by decide) (by decide) (Nat.le_of_ble_eq_true rfl) (Nat.le_of_ble_eq_true rfl) (Nat.le_of_ble_eq_true rfl) dX7_init_505 (fun q H hh => ?_)
  refine fiX7_init_505 C hh (fun H locs hh => ?_)
  refine pq_putF (ty := (.array .int)) (v := .ref q) C hh i7 tyX7 tyX7_ok nmX7 0 6 rfl rfl 14 (by decide) kf51 rfl rfl hin rfl (by decide +kernel) rfl rfl hlen dX7_init_556 (fun H locs hh => ?_)
  exact kk q H locs hh
set_option maxHeartbeats 4000000 in
set_option maxRecDepth 100000 in
theorem mdX7_559 {p : Program} {l : Launch} {e : Env} {s : State} {m : MethodId} {args : Array Value} {below : List Frame} {meth : Method} {c : Code} {H : Heap} {locs : List Loc} {Q : State → Prop} {ls : Array Slot} {D : va_G} {A : Nat → Prop} {th : Nat} {fs : List Value} {Wl : va_W} {cI cL : ClassId} (C : pq_Cx p c m cX7_init 1 s args qsX7_init RX7 D cI cL A) (hin : meth.name = "<init>") (hlen : 15 < fs.length) (hl : lv_has ls 1 [(0, .ref th)]) (hh : pq_H D A s ((th, .inr (6, fs)) :: Wl) H locs)
    (kk : ∀ (q : Nat) (H : Heap) (locs : List Loc), pq_H D A s ((th, .inr (6, fs.set 15 (.ref q))) :: (Wl ++ [(q, .inl (cI, 16, .inl aiX7_init_562_15))])) H locs → W p l e { frames := 1, cells := 34, slots := 5061, locals := 12 } s m args below meth c H locs 15 286 Q (F0 m 673 ls [])) : W p l e { frames := 1, cells := 34, slots := 5061, locals := 12 } s m args below meth c H locs 14 270 Q (F0 m 559 ls []) := by
  have hx := C.1
  have hb := C.2.1
  have hml := C.2.2.1
  have hown : s.vm.findClass RX7 = some m.cls := C.2.2.2.1
  have hs : ∀ w ∈ wsL_law, w ∈ qsX7_init := fun _ h => List.mem_cons_of_mem _ h
  have htw : ∀ w ∈ wsL_law, w.before args s = true := fun w h => C.2.2.2.2.1 w (hs w h)
  have i7 : ∀ w ∈ wsX70, w ∈ qsX7_init := fun w h => hs w (pq_i7 w h)
  have ka := htw (.arrayClass .int) (pq_m2 _ (List.mem_of_getElem? (i := 15) rfl))
  have kf54 := htw (.fieldLink RX7 54 "VoiceDeskModel" "weight5" "[I") (pq_m4 _ (List.mem_of_getElem? (i := 12) rfl))
  refine lv_aload_n hx hb dX7_init_559 rfl (lv_at hl 0 rfl) ?_
  refine lv_bipush (v := (16 : Int32)) hx hb dX7_init_560 (by decide) ?_
  refine pq_newa (N := 16) C hh ka (by decide) (by decide) (Nat.le_of_ble_eq_true rfl) (Nat.le_of_ble_eq_true rfl) (Nat.le_of_ble_eq_true rfl) dX7_init_562 (fun q H hh => ?_)
  refine fiX7_init_562 C hh (fun H locs hh => ?_)
  refine pq_putF (ty := (.array .int)) (v := .ref q) C hh i7 tyX7 tyX7_ok nmX7 0 6 rfl rfl 15 (by decide) kf54 rfl rfl hin rfl (by decide +kernel) rfl rfl hlen dX7_init_670 (fun H locs hh => ?_)
  exact kk q H locs hh
set_option maxHeartbeats 4000000 in
set_option maxRecDepth 100000 in
theorem mdX7_673 {p : Program} {l : Launch} {e : Env} {s : State} {m : MethodId} {args : Array Value} {below : List Frame} {meth : Method} {c : Code} {H : Heap} {locs : List Loc} {Q : State → Prop} {ls : Array Slot} {D : va_G} {A : Nat → Prop} {th : Nat} {fs : List Value} {Wl : va_W} {cI cL : ClassId} (C : pq_Cx p c m cX7_init 1 s args qsX7_init RX7 D cI cL A) (hin : meth.name = "<init>") (hlen : 16 < fs.length) (hl : lv_has ls 1 [(0, .ref th)]) (hh : pq_H D A s ((th, .inr (6, fs)) :: Wl) H locs)
    (kk : ∀ (q : Nat) (H : Heap) (locs : List Loc), pq_H D A s ((th, .inr (6, fs.set 16 (.ref q))) :: (Wl ++ [(q, .inl (cI, 2, .inl aiX7_init_675_1))])) H locs → W p l e { frames := 1, cells := 34, slots := 5061, locals := 12 } s m args below meth c H locs 16 288 Q (F0 m 690 ls [])) : W p l e { frames := 1, cells := 34, slots := 5061, locals := 12 } s m args below meth c H locs 15 286 Q (F0 m 673 ls []) := by
  have hx := C.1
  have hb := C.2.1
  have hml := C.2.2.1
  have hown : s.vm.findClass RX7 = some m.cls := C.2.2.2.1
  have hs : ∀ w ∈ wsL_law, w ∈ qsX7_init := fun _ h => List.mem_cons_of_mem _ h
  have htw : ∀ w ∈ wsL_law, w.before args s = true := fun w h => C.2.2.2.2.1 w (hs w h)
  have i7 : ∀ w ∈ wsX70, w ∈ qsX7_init := fun w h => hs w (pq_i7 w h)
  have ka := htw (.arrayClass .int) (pq_m2 _ (List.mem_of_getElem? (i := 15) rfl))
  have kf57 := htw (.fieldLink RX7 57 "VoiceDeskModel" "pace2" "[I") (pq_m4 _ (List.mem_of_getElem? (i := 13) rfl))
  refine lv_aload_n hx hb dX7_init_673 rfl (lv_at hl 0 rfl) ?_
  refine lv_iconst (v := (2 : Int32)) hx hb dX7_init_674 (by decide) ?_
  refine pq_newa (N := 2) C hh ka (by decide) (by decide) (Nat.le_of_ble_eq_true rfl) (Nat.le_of_ble_eq_true rfl) (Nat.le_of_ble_eq_true rfl) dX7_init_675 (fun q H hh => ?_)
  refine fiX7_init_675 C hh (fun H locs hh => ?_)
  refine pq_putF (ty := (.array .int)) (v := .ref q) C hh i7 tyX7 tyX7_ok nmX7 0 6 rfl rfl 16 (by decide) kf57 rfl rfl hin rfl (by decide +kernel) rfl rfl hlen dX7_init_687 (fun H locs hh => ?_)
  exact kk q H locs hh
set_option maxHeartbeats 4000000 in
set_option maxRecDepth 100000 in
theorem mdX7_690 {p : Program} {l : Launch} {e : Env} {s : State} {m : MethodId} {args : Array Value} {below : List Frame} {meth : Method} {c : Code} {H : Heap} {locs : List Loc} {Q : State → Prop} {ls : Array Slot} {D : va_G} {A : Nat → Prop} {th : Nat} {fs : List Value} {Wl : va_W} {cI cL : ClassId} (C : pq_Cx p c m cX7_init 1 s args qsX7_init RX7 D cI cL A) (hin : meth.name = "<init>") (hlen : 17 < fs.length) (hl : lv_has ls 1 [(0, .ref th)]) (hh : pq_H D A s ((th, .inr (6, fs)) :: Wl) H locs)
    (kk : ∀ (q : Nat) (H : Heap) (locs : List Loc), pq_H D A s ((th, .inr (6, fs.set 17 (.ref q))) :: (Wl ++ [(q, .inl (cI, 4, .inl aiX7_init_692_3))])) H locs → W p l e { frames := 1, cells := 34, slots := 5061, locals := 12 } s m args below meth c H locs 17 292 Q (F0 m 719 ls [])) : W p l e { frames := 1, cells := 34, slots := 5061, locals := 12 } s m args below meth c H locs 16 288 Q (F0 m 690 ls []) := by
  have hx := C.1
  have hb := C.2.1
  have hml := C.2.2.1
  have hown : s.vm.findClass RX7 = some m.cls := C.2.2.2.1
  have hs : ∀ w ∈ wsL_law, w ∈ qsX7_init := fun _ h => List.mem_cons_of_mem _ h
  have htw : ∀ w ∈ wsL_law, w.before args s = true := fun w h => C.2.2.2.2.1 w (hs w h)
  have i7 : ∀ w ∈ wsX70, w ∈ qsX7_init := fun w h => hs w (pq_i7 w h)
  have ka := htw (.arrayClass .int) (pq_m2 _ (List.mem_of_getElem? (i := 15) rfl))
  have kf60 := htw (.fieldLink RX7 60 "VoiceDeskModel" "pace3" "[I") (pq_m4 _ (List.mem_of_getElem? (i := 14) rfl))
  refine lv_aload_n hx hb dX7_init_690 rfl (lv_at hl 0 rfl) ?_
  refine lv_iconst (v := (4 : Int32)) hx hb dX7_init_691 (by decide) ?_
  refine pq_newa (N := 4) C hh ka (by decide) (by decide) (Nat.le_of_ble_eq_true rfl) (Nat.le_of_ble_eq_true rfl) (Nat.le_of_ble_eq_true rfl) dX7_init_692 (fun q H hh => ?_)
  refine fiX7_init_692 C hh (fun H locs hh => ?_)
  refine pq_putF (ty := (.array .int)) (v := .ref q) C hh i7 tyX7 tyX7_ok nmX7 0 6 rfl rfl 17 (by decide) kf60 rfl rfl hin rfl (by decide +kernel) rfl rfl hlen dX7_init_716 (fun H locs hh => ?_)
  exact kk q H locs hh
set_option maxHeartbeats 4000000 in
set_option maxRecDepth 100000 in
theorem mdX7_719 {p : Program} {l : Launch} {e : Env} {s : State} {m : MethodId} {args : Array Value} {below : List Frame} {meth : Method} {c : Code} {H : Heap} {locs : List Loc} {Q : State → Prop} {ls : Array Slot} {D : va_G} {A : Nat → Prop} {th : Nat} {fs : List Value} {Wl : va_W} {cI cL : ClassId} (C : pq_Cx p c m cX7_init 1 s args qsX7_init RX7 D cI cL A) (hin : meth.name = "<init>") (hlen : 18 < fs.length) (hl : lv_has ls 1 [(0, .ref th)]) (hh : pq_H D A s ((th, .inr (6, fs)) :: Wl) H locs)
    (kk : ∀ (q : Nat) (H : Heap) (locs : List Loc), pq_H D A s ((th, .inr (6, fs.set 18 (.ref q))) :: (Wl ++ [(q, .inl (cI, 8, .inl aiX7_init_722_7))])) H locs → W p l e { frames := 1, cells := 34, slots := 5061, locals := 12 } s m args below meth c H locs 18 300 Q (F0 m 771 ls [])) : W p l e { frames := 1, cells := 34, slots := 5061, locals := 12 } s m args below meth c H locs 17 292 Q (F0 m 719 ls []) := by
  have hx := C.1
  have hb := C.2.1
  have hml := C.2.2.1
  have hown : s.vm.findClass RX7 = some m.cls := C.2.2.2.1
  have hs : ∀ w ∈ wsL_law, w ∈ qsX7_init := fun _ h => List.mem_cons_of_mem _ h
  have htw : ∀ w ∈ wsL_law, w.before args s = true := fun w h => C.2.2.2.2.1 w (hs w h)
  have i7 : ∀ w ∈ wsX70, w ∈ qsX7_init := fun w h => hs w (pq_i7 w h)
  have ka := htw (.arrayClass .int) (pq_m2 _ (List.mem_of_getElem? (i := 15) rfl))
  have kf63 := htw (.fieldLink RX7 63 "VoiceDeskModel" "pace4" "[I") (pq_m4 _ (List.mem_of_getElem? (i := 15) rfl))
  refine lv_aload_n hx hb dX7_init_719 rfl (lv_at hl 0 rfl) ?_
  refine lv_bipush (v := (8 : Int32)) hx hb dX7_init_720 (by decide) ?_
  refine pq_newa (N := 8) C hh ka (by decide) (by decide) (Nat.le_of_ble_eq_true rfl) (Nat.le_of_ble_eq_true rfl) (Nat.le_of_ble_eq_true rfl) dX7_init_722 (fun q H hh => ?_)
  refine fiX7_init_722 C hh (fun H locs hh => ?_)
  refine pq_putF (ty := (.array .int)) (v := .ref q) C hh i7 tyX7 tyX7_ok nmX7 0 6 rfl rfl 18 (by decide) kf63 rfl rfl hin rfl (by decide +kernel) rfl rfl hlen dX7_init_768 (fun H locs hh => ?_)
  exact kk q H locs hh
set_option maxHeartbeats 4000000 in
set_option maxRecDepth 100000 in
theorem mdX7_771 {p : Program} {l : Launch} {e : Env} {s : State} {m : MethodId} {args : Array Value} {below : List Frame} {meth : Method} {c : Code} {H : Heap} {locs : List Loc} {Q : State → Prop} {ls : Array Slot} {D : va_G} {A : Nat → Prop} {th : Nat} {fs : List Value} {Wl : va_W} {cI cL : ClassId} (C : pq_Cx p c m cX7_init 1 s args qsX7_init RX7 D cI cL A) (hin : meth.name = "<init>") (hlen : 19 < fs.length) (hl : lv_has ls 1 [(0, .ref th)]) (hh : pq_H D A s ((th, .inr (6, fs)) :: Wl) H locs)
    (kk : ∀ (q : Nat) (H : Heap) (locs : List Loc), pq_H D A s ((th, .inr (6, fs.set 19 (.ref q))) :: (Wl ++ [(q, .inl (cI, 16, .inl aiX7_init_774_15))])) H locs → W p l e { frames := 1, cells := 34, slots := 5061, locals := 12 } s m args below meth c H locs 19 316 Q (F0 m 875 ls [])) : W p l e { frames := 1, cells := 34, slots := 5061, locals := 12 } s m args below meth c H locs 18 300 Q (F0 m 771 ls []) := by
  have hx := C.1
  have hb := C.2.1
  have hml := C.2.2.1
  have hown : s.vm.findClass RX7 = some m.cls := C.2.2.2.1
  have hs : ∀ w ∈ wsL_law, w ∈ qsX7_init := fun _ h => List.mem_cons_of_mem _ h
  have htw : ∀ w ∈ wsL_law, w.before args s = true := fun w h => C.2.2.2.2.1 w (hs w h)
  have i7 : ∀ w ∈ wsX70, w ∈ qsX7_init := fun w h => hs w (pq_i7 w h)
  have ka := htw (.arrayClass .int) (pq_m2 _ (List.mem_of_getElem? (i := 15) rfl))
  have kf66 := htw (.fieldLink RX7 66 "VoiceDeskModel" "pace5" "[I") (pq_m4 _ (List.mem_of_getElem? (i := 16) rfl))
  refine lv_aload_n hx hb dX7_init_771 rfl (lv_at hl 0 rfl) ?_
  refine lv_bipush (v := (16 : Int32)) hx hb dX7_init_772 (by decide) ?_
  refine pq_newa (N := 16) C hh ka (by decide) (by decide) (Nat.le_of_ble_eq_true rfl) (Nat.le_of_ble_eq_true rfl) (Nat.le_of_ble_eq_true rfl) dX7_init_774 (fun q H hh => ?_)
  refine fiX7_init_774 C hh (fun H locs hh => ?_)
  refine pq_putF (ty := (.array .int)) (v := .ref q) C hh i7 tyX7 tyX7_ok nmX7 0 6 rfl rfl 19 (by decide) kf66 rfl rfl hin rfl (by decide +kernel) rfl rfl hlen dX7_init_872 (fun H locs hh => ?_)
  exact kk q H locs hh
set_option maxHeartbeats 4000000 in
set_option maxRecDepth 100000 in
theorem mdX7_875 {p : Program} {l : Launch} {e : Env} {s : State} {m : MethodId} {args : Array Value} {below : List Frame} {meth : Method} {c : Code} {H : Heap} {locs : List Loc} {Q : State → Prop} {ls : Array Slot} {D : va_G} {A : Nat → Prop} {th : Nat} {fs : List Value} {Wl : va_W} {cI cL : ClassId} (C : pq_Cx p c m cX7_init 1 s args qsX7_init RX7 D cI cL A) (hin : meth.name = "<init>") (hlen : 23 < fs.length) (hl : lv_has ls 1 [(0, .ref th)]) (hh : pq_H D A s ((th, .inr (6, fs)) :: Wl) H locs)
    (kk : ∀ (q : Nat) (H : Heap) (locs : List Loc), pq_H D A s ((th, .inr (6, fs.set 23 (.ref q))) :: (Wl ++ [(q, .inl (cI, 368, .inl (fun _ => 0)))])) H locs → W p l e { frames := 1, cells := 34, slots := 5061, locals := 12 } s m args below meth c H locs 20 684 Q (F0 m 884 ls [])) : W p l e { frames := 1, cells := 34, slots := 5061, locals := 12 } s m args below meth c H locs 19 316 Q (F0 m 875 ls []) := by
  have hx := C.1
  have hb := C.2.1
  have hml := C.2.2.1
  have hown : s.vm.findClass RX7 = some m.cls := C.2.2.2.1
  have hs : ∀ w ∈ wsL_law, w ∈ qsX7_init := fun _ h => List.mem_cons_of_mem _ h
  have htw : ∀ w ∈ wsL_law, w.before args s = true := fun w h => C.2.2.2.2.1 w (hs w h)
  have i7 : ∀ w ∈ wsX70, w ∈ qsX7_init := fun w h => hs w (pq_i7 w h)
  have ka := htw (.arrayClass .int) (pq_m2 _ (List.mem_of_getElem? (i := 15) rfl))
  have kf69 := htw (.fieldLink RX7 69 "VoiceDeskModel" "bands" "[I") (pq_m4 _ (List.mem_of_getElem? (i := 17) rfl))
  refine lv_aload_n hx hb dX7_init_875 rfl (lv_at hl 0 rfl) ?_
  refine lv_sipush (v := (368 : Int32)) hx hb dX7_init_876 (by decide) ?_
  refine pq_newa (N := 368) C hh ka (by decide) (by decide) (Nat.le_of_ble_eq_true rfl) (Nat.le_of_ble_eq_true rfl) (Nat.le_of_ble_eq_true rfl) dX7_init_879 (fun q H hh => ?_)
  refine pq_putF (ty := (.array .int)) (v := .ref q) C hh i7 tyX7 tyX7_ok nmX7 0 6 rfl rfl 23 (by decide) kf69 rfl rfl hin rfl (by decide +kernel) rfl rfl hlen dX7_init_881 (fun H locs hh => ?_)
  exact kk q H locs hh
set_option maxHeartbeats 4000000 in
set_option maxRecDepth 100000 in
theorem mdX7_884 {p : Program} {l : Launch} {e : Env} {s : State} {m : MethodId} {args : Array Value} {below : List Frame} {meth : Method} {c : Code} {H : Heap} {locs : List Loc} {Q : State → Prop} {ls : Array Slot} {D : va_G} {A : Nat → Prop} {th : Nat} {fs : List Value} {Wl : va_W} {cI cL : ClassId} (C : pq_Cx p c m cX7_init 1 s args qsX7_init RX7 D cI cL A) (hin : meth.name = "<init>") (hlen : 24 < fs.length) (hl : lv_has ls 1 [(0, .ref th)]) (hh : pq_H D A s ((th, .inr (6, fs)) :: Wl) H locs)
    (kk : ∀ (q : Nat) (H : Heap) (locs : List Loc), pq_H D A s ((th, .inr (6, fs.set 24 (.ref q))) :: (Wl ++ [(q, .inl (cI, 192, .inl (fun _ => 0)))])) H locs → W p l e { frames := 1, cells := 34, slots := 5061, locals := 12 } s m args below meth c H locs 21 876 Q (F0 m 893 ls [])) : W p l e { frames := 1, cells := 34, slots := 5061, locals := 12 } s m args below meth c H locs 20 684 Q (F0 m 884 ls []) := by
  have hx := C.1
  have hb := C.2.1
  have hml := C.2.2.1
  have hown : s.vm.findClass RX7 = some m.cls := C.2.2.2.1
  have hs : ∀ w ∈ wsL_law, w ∈ qsX7_init := fun _ h => List.mem_cons_of_mem _ h
  have htw : ∀ w ∈ wsL_law, w.before args s = true := fun w h => C.2.2.2.2.1 w (hs w h)
  have i7 : ∀ w ∈ wsX70, w ∈ qsX7_init := fun w h => hs w (pq_i7 w h)
  have ka := htw (.arrayClass .int) (pq_m2 _ (List.mem_of_getElem? (i := 15) rfl))
  have kf72 := htw (.fieldLink RX7 72 "VoiceDeskModel" "sieve" "[I") (pq_m4 _ (List.mem_of_getElem? (i := 18) rfl))
  refine lv_aload_n hx hb dX7_init_884 rfl (lv_at hl 0 rfl) ?_
  refine lv_sipush (v := (192 : Int32)) hx hb dX7_init_885 (by decide) ?_
  refine pq_newa (N := 192) C hh ka (by decide) (by decide) (Nat.le_of_ble_eq_true rfl) (Nat.le_of_ble_eq_true rfl) (Nat.le_of_ble_eq_true rfl) dX7_init_888 (fun q H hh => ?_)
  refine pq_putF (ty := (.array .int)) (v := .ref q) C hh i7 tyX7 tyX7_ok nmX7 0 6 rfl rfl 24 (by decide) kf72 rfl rfl hin rfl (by decide +kernel) rfl rfl hlen dX7_init_890 (fun H locs hh => ?_)
  exact kk q H locs hh
set_option maxHeartbeats 4000000 in
set_option maxRecDepth 100000 in
theorem mdX7_893 {p : Program} {l : Launch} {e : Env} {s : State} {m : MethodId} {args : Array Value} {below : List Frame} {meth : Method} {c : Code} {H : Heap} {locs : List Loc} {Q : State → Prop} {ls : Array Slot} {D : va_G} {A : Nat → Prop} {th : Nat} {fs : List Value} {Wl : va_W} {cI cL : ClassId} (C : pq_Cx p c m cX7_init 1 s args qsX7_init RX7 D cI cL A) (hin : meth.name = "<init>") (hlen : 25 < fs.length) (hl : lv_has ls 1 [(0, .ref th)]) (hh : pq_H D A s ((th, .inr (6, fs)) :: Wl) H locs)
    (kk : ∀ (q : Nat) (H : Heap) (locs : List Loc), pq_H D A s ((th, .inr (6, fs.set 25 (.ref q))) :: (Wl ++ [(q, .inl (cI, 12, .inl aiX7_init_896_11))])) H locs → W p l e { frames := 1, cells := 34, slots := 5061, locals := 12 } s m args below meth c H locs 22 888 Q (F0 m 972 ls [])) : W p l e { frames := 1, cells := 34, slots := 5061, locals := 12 } s m args below meth c H locs 21 876 Q (F0 m 893 ls []) := by
  have hx := C.1
  have hb := C.2.1
  have hml := C.2.2.1
  have hown : s.vm.findClass RX7 = some m.cls := C.2.2.2.1
  have hs : ∀ w ∈ wsL_law, w ∈ qsX7_init := fun _ h => List.mem_cons_of_mem _ h
  have htw : ∀ w ∈ wsL_law, w.before args s = true := fun w h => C.2.2.2.2.1 w (hs w h)
  have i7 : ∀ w ∈ wsX70, w ∈ qsX7_init := fun w h => hs w (pq_i7 w h)
  have ka := htw (.arrayClass .int) (pq_m2 _ (List.mem_of_getElem? (i := 15) rfl))
  have kf75 := htw (.fieldLink RX7 75 "VoiceDeskModel" "coefficients" "[I") (pq_m4 _ (List.mem_of_getElem? (i := 19) rfl))
  refine lv_aload_n hx hb dX7_init_893 rfl (lv_at hl 0 rfl) ?_
  refine lv_bipush (v := (12 : Int32)) hx hb dX7_init_894 (by decide) ?_
  refine pq_newa (N := 12) C hh ka (by decide) (by decide) (Nat.le_of_ble_eq_true rfl) (Nat.le_of_ble_eq_true rfl) (Nat.le_of_ble_eq_true rfl) dX7_init_896 (fun q H hh => ?_)
  refine fiX7_init_896 C hh (fun H locs hh => ?_)
  refine pq_putF (ty := (.array .int)) (v := .ref q) C hh i7 tyX7 tyX7_ok nmX7 0 6 rfl rfl 25 (by decide) kf75 rfl rfl hin rfl (by decide +kernel) rfl rfl hlen dX7_init_969 (fun H locs hh => ?_)
  exact kk q H locs hh
set_option maxHeartbeats 4000000 in
set_option maxRecDepth 100000 in
theorem mdX7_972 {p : Program} {l : Launch} {e : Env} {s : State} {m : MethodId} {args : Array Value} {below : List Frame} {meth : Method} {c : Code} {H : Heap} {locs : List Loc} {Q : State → Prop} {ls : Array Slot} {D : va_G} {A : Nat → Prop} {th : Nat} {fs : List Value} {Wl : va_W} {cI cL : ClassId} (C : pq_Cx p c m cX7_init 1 s args qsX7_init RX7 D cI cL A) (hin : meth.name = "<init>") (hlen : 26 < fs.length) (hl : lv_has ls 1 [(0, .ref th)]) (hh : pq_H D A s ((th, .inr (6, fs)) :: Wl) H locs)
    (kk : ∀ (q : Nat) (H : Heap) (locs : List Loc), pq_H D A s ((th, .inr (6, fs.set 26 (.ref q))) :: (Wl ++ [(q, .inl (cI, 29, .inl aiX7_init_975_28))])) H locs → W p l e { frames := 1, cells := 34, slots := 5061, locals := 12 } s m args below meth c H locs 23 917 Q (F0 m 1174 ls [])) : W p l e { frames := 1, cells := 34, slots := 5061, locals := 12 } s m args below meth c H locs 22 888 Q (F0 m 972 ls []) := by
  have hx := C.1
  have hb := C.2.1
  have hml := C.2.2.1
  have hown : s.vm.findClass RX7 = some m.cls := C.2.2.2.1
  have hs : ∀ w ∈ wsL_law, w ∈ qsX7_init := fun _ h => List.mem_cons_of_mem _ h
  have htw : ∀ w ∈ wsL_law, w.before args s = true := fun w h => C.2.2.2.2.1 w (hs w h)
  have i7 : ∀ w ∈ wsX70, w ∈ qsX7_init := fun w h => hs w (pq_i7 w h)
  have ka := htw (.arrayClass .int) (pq_m2 _ (List.mem_of_getElem? (i := 15) rfl))
  have kf78 := htw (.fieldLink RX7 78 "VoiceDeskModel" "steps" "[I") (pq_m4 _ (List.mem_of_getElem? (i := 20) rfl))
  refine lv_aload_n hx hb dX7_init_972 rfl (lv_at hl 0 rfl) ?_
  refine lv_bipush (v := (29 : Int32)) hx hb dX7_init_973 (by decide) ?_
  refine pq_newa (N := 29) C hh ka (by decide) (by decide) (Nat.le_of_ble_eq_true rfl) (Nat.le_of_ble_eq_true rfl) (Nat.le_of_ble_eq_true rfl) dX7_init_975 (fun q H hh => ?_)
  refine fiX7_init_975 C hh (fun H locs hh => ?_)
  refine pq_putF (ty := (.array .int)) (v := .ref q) C hh i7 tyX7 tyX7_ok nmX7 0 6 rfl rfl 26 (by decide) kf78 rfl rfl hin rfl (by decide +kernel) rfl rfl hlen dX7_init_1171 (fun H locs hh => ?_)
  exact kk q H locs hh
set_option maxHeartbeats 4000000 in
set_option maxRecDepth 100000 in
theorem mdX7_1174 {p : Program} {l : Launch} {e : Env} {s : State} {m : MethodId} {args : Array Value} {below : List Frame} {meth : Method} {c : Code} {H : Heap} {locs : List Loc} {Q : State → Prop} {ls : Array Slot} {D : va_G} {A : Nat → Prop} {th : Nat} {fs : List Value} {Wl : va_W} {cI cL : ClassId} (C : pq_Cx p c m cX7_init 1 s args qsX7_init RX7 D cI cL A) (hin : meth.name = "<init>") (hlen : 27 < fs.length) (hl : lv_has ls 1 [(0, .ref th)]) (hh : pq_H D A s ((th, .inr (6, fs)) :: Wl) H locs)
    (kk : ∀ (q : Nat) (H : Heap) (locs : List Loc), pq_H D A s ((th, .inr (6, fs.set 27 (.ref q))) :: (Wl ++ [(q, .inl (cI, 32, .inl aiX7_init_1177_31))])) H locs → W p l e { frames := 1, cells := 34, slots := 5061, locals := 12 } s m args below meth c H locs 24 949 Q (F0 m 1400 ls [])) : W p l e { frames := 1, cells := 34, slots := 5061, locals := 12 } s m args below meth c H locs 23 917 Q (F0 m 1174 ls []) := by
  have hx := C.1
  have hb := C.2.1
  have hml := C.2.2.1
  have hown : s.vm.findClass RX7 = some m.cls := C.2.2.2.1
  have hs : ∀ w ∈ wsL_law, w ∈ qsX7_init := fun _ h => List.mem_cons_of_mem _ h
  have htw : ∀ w ∈ wsL_law, w.before args s = true := fun w h => C.2.2.2.2.1 w (hs w h)
  have i7 : ∀ w ∈ wsX70, w ∈ qsX7_init := fun w h => hs w (pq_i7 w h)
  have ka := htw (.arrayClass .int) (pq_m2 _ (List.mem_of_getElem? (i := 15) rfl))
  have kf81 := htw (.fieldLink RX7 81 "VoiceDeskModel" "roots" "[I") (pq_m4 _ (List.mem_of_getElem? (i := 21) rfl))
  refine lv_aload_n hx hb dX7_init_1174 rfl (lv_at hl 0 rfl) ?_
  refine lv_bipush (v := (32 : Int32)) hx hb dX7_init_1175 (by decide) ?_
  refine pq_newa (N := 32) C hh ka (by decide) (by decide) (Nat.le_of_ble_eq_true rfl) (Nat.le_of_ble_eq_true rfl) (Nat.le_of_ble_eq_true rfl) dX7_init_1177 (fun q H hh => ?_)
  refine fiX7_init_1177 C hh (fun H locs hh => ?_)
  refine pq_putF (ty := (.array .int)) (v := .ref q) C hh i7 tyX7 tyX7_ok nmX7 0 6 rfl rfl 27 (by decide) kf81 rfl rfl hin rfl (by decide +kernel) rfl rfl hlen dX7_init_1397 (fun H locs hh => ?_)
  exact kk q H locs hh
set_option maxHeartbeats 4000000 in
set_option maxRecDepth 100000 in
theorem mdX7_1400 {p : Program} {l : Launch} {e : Env} {s : State} {m : MethodId} {args : Array Value} {below : List Frame} {meth : Method} {c : Code} {H : Heap} {locs : List Loc} {Q : State → Prop} {ls : Array Slot} {D : va_G} {A : Nat → Prop} {th : Nat} {fs : List Value} {Wl : va_W} {cI cL : ClassId} (C : pq_Cx p c m cX7_init 1 s args qsX7_init RX7 D cI cL A) (hin : meth.name = "<init>") (hlen : 28 < fs.length) (hl : lv_has ls 1 [(0, .ref th)]) (hh : pq_H D A s ((th, .inr (6, fs)) :: Wl) H locs)
    (kk : ∀ (q : Nat) (H : Heap) (locs : List Loc), pq_H D A s ((th, .inr (6, fs.set 28 (.ref q))) :: (Wl ++ [(q, .inl (cI, 16, .inl aiX7_init_1403_15))])) H locs → W p l e { frames := 1, cells := 34, slots := 5061, locals := 12 } s m args below meth c H locs 25 965 Q (F0 m 1510 ls [])) : W p l e { frames := 1, cells := 34, slots := 5061, locals := 12 } s m args below meth c H locs 24 949 Q (F0 m 1400 ls []) := by
  have hx := C.1
  have hb := C.2.1
  have hml := C.2.2.1
  have hown : s.vm.findClass RX7 = some m.cls := C.2.2.2.1
  have hs : ∀ w ∈ wsL_law, w ∈ qsX7_init := fun _ h => List.mem_cons_of_mem _ h
  have htw : ∀ w ∈ wsL_law, w.before args s = true := fun w h => C.2.2.2.2.1 w (hs w h)
  have i7 : ∀ w ∈ wsX70, w ∈ qsX7_init := fun w h => hs w (pq_i7 w h)
  have ka := htw (.arrayClass .int) (pq_m2 _ (List.mem_of_getElem? (i := 15) rfl))
  have kf84 := htw (.fieldLink RX7 84 "VoiceDeskModel" "ups" "[I") (pq_m4 _ (List.mem_of_getElem? (i := 22) rfl))
  refine lv_aload_n hx hb dX7_init_1400 rfl (lv_at hl 0 rfl) ?_
  refine lv_bipush (v := (16 : Int32)) hx hb dX7_init_1401 (by decide) ?_
  refine pq_newa (N := 16) C hh ka (by decide) (by decide) (Nat.le_of_ble_eq_true rfl) (Nat.le_of_ble_eq_true rfl) (Nat.le_of_ble_eq_true rfl) dX7_init_1403 (fun q H hh => ?_)
  refine fiX7_init_1403 C hh (fun H locs hh => ?_)
  refine pq_putF (ty := (.array .int)) (v := .ref q) C hh i7 tyX7 tyX7_ok nmX7 0 6 rfl rfl 28 (by decide) kf84 rfl rfl hin rfl (by decide +kernel) rfl rfl hlen dX7_init_1507 (fun H locs hh => ?_)
  exact kk q H locs hh
set_option maxHeartbeats 4000000 in
set_option maxRecDepth 100000 in
theorem mdX7_1510 {p : Program} {l : Launch} {e : Env} {s : State} {m : MethodId} {args : Array Value} {below : List Frame} {meth : Method} {c : Code} {H : Heap} {locs : List Loc} {Q : State → Prop} {ls : Array Slot} {D : va_G} {A : Nat → Prop} {th : Nat} {fs : List Value} {Wl : va_W} {cI cL : ClassId} (C : pq_Cx p c m cX7_init 1 s args qsX7_init RX7 D cI cL A) (hin : meth.name = "<init>") (hlen : 29 < fs.length) (hl : lv_has ls 1 [(0, .ref th)]) (hh : pq_H D A s ((th, .inr (6, fs)) :: Wl) H locs)
    (kk : ∀ (q : Nat) (H : Heap) (locs : List Loc), pq_H D A s ((th, .inr (6, fs.set 29 (.ref q))) :: (Wl ++ [(q, .inl (cI, 4, .inl aiX7_init_1512_3))])) H locs → W p l e { frames := 1, cells := 34, slots := 5061, locals := 12 } s m args below meth c H locs 26 969 Q (F0 m 1541 ls [])) : W p l e { frames := 1, cells := 34, slots := 5061, locals := 12 } s m args below meth c H locs 25 965 Q (F0 m 1510 ls []) := by
  have hx := C.1
  have hb := C.2.1
  have hml := C.2.2.1
  have hown : s.vm.findClass RX7 = some m.cls := C.2.2.2.1
  have hs : ∀ w ∈ wsL_law, w ∈ qsX7_init := fun _ h => List.mem_cons_of_mem _ h
  have htw : ∀ w ∈ wsL_law, w.before args s = true := fun w h => C.2.2.2.2.1 w (hs w h)
  have i7 : ∀ w ∈ wsX70, w ∈ qsX7_init := fun w h => hs w (pq_i7 w h)
  have ka := htw (.arrayClass .int) (pq_m2 _ (List.mem_of_getElem? (i := 15) rfl))
  have kf87 := htw (.fieldLink RX7 87 "VoiceDeskModel" "highs" "[I") (pq_m4 _ (List.mem_of_getElem? (i := 23) rfl))
  refine lv_aload_n hx hb dX7_init_1510 rfl (lv_at hl 0 rfl) ?_
  refine lv_iconst (v := (4 : Int32)) hx hb dX7_init_1511 (by decide) ?_
  refine pq_newa (N := 4) C hh ka (by decide) (by decide) (Nat.le_of_ble_eq_true rfl) (Nat.le_of_ble_eq_true rfl) (Nat.le_of_ble_eq_true rfl) dX7_init_1512 (fun q H hh => ?_)
  refine fiX7_init_1512 C hh (fun H locs hh => ?_)
  refine pq_putF (ty := (.array .int)) (v := .ref q) C hh i7 tyX7 tyX7_ok nmX7 0 6 rfl rfl 29 (by decide) kf87 rfl rfl hin rfl (by decide +kernel) rfl rfl hlen dX7_init_1538 (fun H locs hh => ?_)
  exact kk q H locs hh
set_option maxHeartbeats 4000000 in
set_option maxRecDepth 100000 in
theorem mdX7_1541 {p : Program} {l : Launch} {e : Env} {s : State} {m : MethodId} {args : Array Value} {below : List Frame} {meth : Method} {c : Code} {H : Heap} {locs : List Loc} {Q : State → Prop} {ls : Array Slot} {D : va_G} {A : Nat → Prop} {th : Nat} {fs : List Value} {Wl : va_W} {cI cL : ClassId} (C : pq_Cx p c m cX7_init 1 s args qsX7_init RX7 D cI cL A) (hin : meth.name = "<init>") (hlen : 30 < fs.length) (hl : lv_has ls 1 [(0, .ref th)]) (hh : pq_H D A s ((th, .inr (6, fs)) :: Wl) H locs)
    (kk : ∀ (q : Nat) (H : Heap) (locs : List Loc), pq_H D A s ((th, .inr (6, fs.set 30 (.ref q))) :: (Wl ++ [(q, .inl (cI, 16, .inl aiX7_init_1544_15))])) H locs → W p l e { frames := 1, cells := 34, slots := 5061, locals := 12 } s m args below meth c H locs 27 985 Q (F0 m 1649 ls [])) : W p l e { frames := 1, cells := 34, slots := 5061, locals := 12 } s m args below meth c H locs 26 969 Q (F0 m 1541 ls []) := by
  have hx := C.1
  have hb := C.2.1
  have hml := C.2.2.1
  have hown : s.vm.findClass RX7 = some m.cls := C.2.2.2.1
  have hs : ∀ w ∈ wsL_law, w ∈ qsX7_init := fun _ h => List.mem_cons_of_mem _ h
  have htw : ∀ w ∈ wsL_law, w.before args s = true := fun w h => C.2.2.2.2.1 w (hs w h)
  have i7 : ∀ w ∈ wsX70, w ∈ qsX7_init := fun w h => hs w (pq_i7 w h)
  have ka := htw (.arrayClass .int) (pq_m2 _ (List.mem_of_getElem? (i := 15) rfl))
  have kf90 := htw (.fieldLink RX7 90 "VoiceDeskModel" "lowWeights" "[I") (pq_m5 _ (List.mem_of_getElem? (i := 0) rfl))
  refine lv_aload_n hx hb dX7_init_1541 rfl (lv_at hl 0 rfl) ?_
  refine lv_bipush (v := (16 : Int32)) hx hb dX7_init_1542 (by decide) ?_
  refine pq_newa (N := 16) C hh ka (by decide) (by decide) (Nat.le_of_ble_eq_true rfl) (Nat.le_of_ble_eq_true rfl) (Nat.le_of_ble_eq_true rfl) dX7_init_1544 (fun q H hh => ?_)
  refine fiX7_init_1544 C hh (fun H locs hh => ?_)
  refine pq_putF (ty := (.array .int)) (v := .ref q) C hh i7 tyX7 tyX7_ok nmX7 0 6 rfl rfl 30 (by decide) kf90 rfl rfl hin rfl (by decide +kernel) rfl rfl hlen dX7_init_1646 (fun H locs hh => ?_)
  exact kk q H locs hh
set_option maxHeartbeats 4000000 in
set_option maxRecDepth 100000 in
theorem mdX7_1649 {p : Program} {l : Launch} {e : Env} {s : State} {m : MethodId} {args : Array Value} {below : List Frame} {meth : Method} {c : Code} {H : Heap} {locs : List Loc} {Q : State → Prop} {ls : Array Slot} {D : va_G} {A : Nat → Prop} {th : Nat} {fs : List Value} {Wl : va_W} {cI cL : ClassId} (C : pq_Cx p c m cX7_init 1 s args qsX7_init RX7 D cI cL A) (hin : meth.name = "<init>") (hlen : 31 < fs.length) (hl : lv_has ls 1 [(0, .ref th)]) (hh : pq_H D A s ((th, .inr (6, fs)) :: Wl) H locs)
    (kk : ∀ (q : Nat) (H : Heap) (locs : List Loc), pq_H D A s ((th, .inr (6, fs.set 31 (.ref q))) :: (Wl ++ [(q, .inl (cI, 4, .inl aiX7_init_1651_3))])) H locs → W p l e { frames := 1, cells := 34, slots := 5061, locals := 12 } s m args below meth c H locs 28 989 Q (F0 m 1680 ls [])) : W p l e { frames := 1, cells := 34, slots := 5061, locals := 12 } s m args below meth c H locs 27 985 Q (F0 m 1649 ls []) := by
  have hx := C.1
  have hb := C.2.1
  have hml := C.2.2.1
  have hown : s.vm.findClass RX7 = some m.cls := C.2.2.2.1
  have hs : ∀ w ∈ wsL_law, w ∈ qsX7_init := fun _ h => List.mem_cons_of_mem _ h
  have htw : ∀ w ∈ wsL_law, w.before args s = true := fun w h => C.2.2.2.2.1 w (hs w h)
  have i7 : ∀ w ∈ wsX70, w ∈ qsX7_init := fun w h => hs w (pq_i7 w h)
  have ka := htw (.arrayClass .int) (pq_m2 _ (List.mem_of_getElem? (i := 15) rfl))
  have kf93 := htw (.fieldLink RX7 93 "VoiceDeskModel" "highWeights" "[I") (pq_m5 _ (List.mem_of_getElem? (i := 1) rfl))
  refine lv_aload_n hx hb dX7_init_1649 rfl (lv_at hl 0 rfl) ?_
  refine lv_iconst (v := (4 : Int32)) hx hb dX7_init_1650 (by decide) ?_
  refine pq_newa (N := 4) C hh ka (by decide) (by decide) (Nat.le_of_ble_eq_true rfl) (Nat.le_of_ble_eq_true rfl) (Nat.le_of_ble_eq_true rfl) dX7_init_1651 (fun q H hh => ?_)
  refine fiX7_init_1651 C hh (fun H locs hh => ?_)
  refine pq_putF (ty := (.array .int)) (v := .ref q) C hh i7 tyX7 tyX7_ok nmX7 0 6 rfl rfl 31 (by decide) kf93 rfl rfl hin rfl (by decide +kernel) rfl rfl hlen dX7_init_1677 (fun H locs hh => ?_)
  exact kk q H locs hh
set_option maxHeartbeats 4000000 in
set_option maxRecDepth 100000 in
theorem mdX7_1680 {p : Program} {l : Launch} {e : Env} {s : State} {m : MethodId} {args : Array Value} {below : List Frame} {meth : Method} {c : Code} {H : Heap} {locs : List Loc} {Q : State → Prop} {ls : Array Slot} {D : va_G} {A : Nat → Prop} {th : Nat} {fs : List Value} {Wl : va_W} {cI cL : ClassId} (C : pq_Cx p c m cX7_init 1 s args qsX7_init RX7 D cI cL A) (hin : meth.name = "<init>") (hlen : 32 < fs.length) (hl : lv_has ls 1 [(0, .ref th)]) (hh : pq_H D A s ((th, .inr (6, fs)) :: Wl) H locs)
    (kk : ∀ (q : Nat) (H : Heap) (locs : List Loc), pq_H D A s ((th, .inr (6, fs.set 32 (.ref q))) :: (Wl ++ [(q, .inl (cI, 16, .inl aiX7_init_1683_15))])) H locs → W p l e { frames := 1, cells := 34, slots := 5061, locals := 12 } s m args below meth c H locs 29 1005 Q (F0 m 1794 ls [])) : W p l e { frames := 1, cells := 34, slots := 5061, locals := 12 } s m args below meth c H locs 28 989 Q (F0 m 1680 ls []) := by
  have hx := C.1
  have hb := C.2.1
  have hml := C.2.2.1
  have hown : s.vm.findClass RX7 = some m.cls := C.2.2.2.1
  have hs : ∀ w ∈ wsL_law, w ∈ qsX7_init := fun _ h => List.mem_cons_of_mem _ h
  have htw : ∀ w ∈ wsL_law, w.before args s = true := fun w h => C.2.2.2.2.1 w (hs w h)
  have i7 : ∀ w ∈ wsX70, w ∈ qsX7_init := fun w h => hs w (pq_i7 w h)
  have ka := htw (.arrayClass .int) (pq_m2 _ (List.mem_of_getElem? (i := 15) rfl))
  have kf96 := htw (.fieldLink RX7 96 "VoiceDeskModel" "heard56" "[I") (pq_m5 _ (List.mem_of_getElem? (i := 2) rfl))
  refine lv_aload_n hx hb dX7_init_1680 rfl (lv_at hl 0 rfl) ?_
  refine lv_bipush (v := (16 : Int32)) hx hb dX7_init_1681 (by decide) ?_
  refine pq_newa (N := 16) C hh ka (by decide) (by decide) (Nat.le_of_ble_eq_true rfl) (Nat.le_of_ble_eq_true rfl) (Nat.le_of_ble_eq_true rfl) dX7_init_1683 (fun q H hh => ?_)
  refine fiX7_init_1683 C hh (fun H locs hh => ?_)
  refine pq_putF (ty := (.array .int)) (v := .ref q) C hh i7 tyX7 tyX7_ok nmX7 0 6 rfl rfl 32 (by decide) kf96 rfl rfl hin rfl (by decide +kernel) rfl rfl hlen dX7_init_1791 (fun H locs hh => ?_)
  exact kk q H locs hh
set_option maxHeartbeats 4000000 in
set_option maxRecDepth 100000 in
theorem mdX7_1794 {p : Program} {l : Launch} {e : Env} {s : State} {m : MethodId} {args : Array Value} {below : List Frame} {meth : Method} {c : Code} {H : Heap} {locs : List Loc} {Q : State → Prop} {ls : Array Slot} {D : va_G} {A : Nat → Prop} {th : Nat} {fs : List Value} {Wl : va_W} {cI cL : ClassId} (C : pq_Cx p c m cX7_init 1 s args qsX7_init RX7 D cI cL A) (hin : meth.name = "<init>") (hlen : 33 < fs.length) (hl : lv_has ls 1 [(0, .ref th)]) (hh : pq_H D A s ((th, .inr (6, fs)) :: Wl) H locs)
    (kk : ∀ (q : Nat) (H : Heap) (locs : List Loc), pq_H D A s ((th, .inr (6, fs.set 33 (.ref q))) :: (Wl ++ [(q, .inl (cI, 32, .inl aiX7_init_1797_31))])) H locs → W p l e { frames := 1, cells := 34, slots := 5061, locals := 12 } s m args below meth c H locs 30 1037 Q (F0 m 2020 ls [])) : W p l e { frames := 1, cells := 34, slots := 5061, locals := 12 } s m args below meth c H locs 29 1005 Q (F0 m 1794 ls []) := by
  have hx := C.1
  have hb := C.2.1
  have hml := C.2.2.1
  have hown : s.vm.findClass RX7 = some m.cls := C.2.2.2.1
  have hs : ∀ w ∈ wsL_law, w ∈ qsX7_init := fun _ h => List.mem_cons_of_mem _ h
  have htw : ∀ w ∈ wsL_law, w.before args s = true := fun w h => C.2.2.2.2.1 w (hs w h)
  have i7 : ∀ w ∈ wsX70, w ∈ qsX7_init := fun w h => hs w (pq_i7 w h)
  have ka := htw (.arrayClass .int) (pq_m2 _ (List.mem_of_getElem? (i := 15) rfl))
  have kf99 := htw (.fieldLink RX7 99 "VoiceDeskModel" "heard64" "[I") (pq_m5 _ (List.mem_of_getElem? (i := 3) rfl))
  refine lv_aload_n hx hb dX7_init_1794 rfl (lv_at hl 0 rfl) ?_
  refine lv_bipush (v := (32 : Int32)) hx hb dX7_init_1795 (by decide) ?_
  refine pq_newa (N := 32) C hh ka (by decide) (by decide) (Nat.le_of_ble_eq_true rfl) (Nat.le_of_ble_eq_true rfl) (Nat.le_of_ble_eq_true rfl) dX7_init_1797 (fun q H hh => ?_)
  refine fiX7_init_1797 C hh (fun H locs hh => ?_)
  refine pq_putF (ty := (.array .int)) (v := .ref q) C hh i7 tyX7 tyX7_ok nmX7 0 6 rfl rfl 33 (by decide) kf99 rfl rfl hin rfl (by decide +kernel) rfl rfl hlen dX7_init_2017 (fun H locs hh => ?_)
  exact kk q H locs hh
set_option maxHeartbeats 4000000 in
set_option maxRecDepth 100000 in
theorem mdX7_2020 {p : Program} {l : Launch} {e : Env} {s : State} {m : MethodId} {args : Array Value} {below : List Frame} {meth : Method} {c : Code} {H : Heap} {locs : List Loc} {Q : State → Prop} {ls : Array Slot} {D : va_G} {A : Nat → Prop} {th : Nat} {fs : List Value} {Wl : va_W} {cI cL : ClassId} (C : pq_Cx p c m cX7_init 1 s args qsX7_init RX7 D cI cL A) (hin : meth.name = "<init>") (hlen : 36 < fs.length) (hl : lv_has ls 1 [(0, .ref th)]) (hh : pq_H D A s ((th, .inr (6, fs)) :: Wl) H locs)
    (kk : ∀ (q : Nat) (H : Heap) (locs : List Loc), pq_H D A s ((th, .inr (6, fs.set 36 (.ref q))) :: (Wl ++ [(q, .inl (cI, 1000, .inl (fun _ => 0)))])) H locs → W p l e { frames := 1, cells := 34, slots := 5061, locals := 12 } s m args below meth c H locs 31 2037 Q (F0 m 2029 ls [])) : W p l e { frames := 1, cells := 34, slots := 5061, locals := 12 } s m args below meth c H locs 30 1037 Q (F0 m 2020 ls []) := by
  have hx := C.1
  have hb := C.2.1
  have hml := C.2.2.1
  have hown : s.vm.findClass RX7 = some m.cls := C.2.2.2.1
  have hs : ∀ w ∈ wsL_law, w ∈ qsX7_init := fun _ h => List.mem_cons_of_mem _ h
  have htw : ∀ w ∈ wsL_law, w.before args s = true := fun w h => C.2.2.2.2.1 w (hs w h)
  have i7 : ∀ w ∈ wsX70, w ∈ qsX7_init := fun w h => hs w (pq_i7 w h)
  have ka := htw (.arrayClass .int) (pq_m2 _ (List.mem_of_getElem? (i := 15) rfl))
  have kf102 := htw (.fieldLink RX7 102 "VoiceDeskModel" "tape" "[I") (pq_m5 _ (List.mem_of_getElem? (i := 4) rfl))
  refine lv_aload_n hx hb dX7_init_2020 rfl (lv_at hl 0 rfl) ?_
  refine lv_sipush (v := (1000 : Int32)) hx hb dX7_init_2021 (by decide) ?_
  refine pq_newa (N := 1000) C hh ka (by decide) (by decide) (Nat.le_of_ble_eq_true rfl) (Nat.le_of_ble_eq_true rfl) (Nat.le_of_ble_eq_true rfl) dX7_init_2024 (fun q H hh => ?_)
  refine pq_putF (ty := (.array .int)) (v := .ref q) C hh i7 tyX7 tyX7_ok nmX7 0 6 rfl rfl 36 (by decide) kf102 rfl rfl hin rfl (by decide +kernel) rfl rfl hlen dX7_init_2026 (fun H locs hh => ?_)
  exact kk q H locs hh
set_option maxHeartbeats 4000000 in
set_option maxRecDepth 100000 in
theorem mdX7_2029 {p : Program} {l : Launch} {e : Env} {s : State} {m : MethodId} {args : Array Value} {below : List Frame} {meth : Method} {c : Code} {H : Heap} {locs : List Loc} {Q : State → Prop} {ls : Array Slot} {D : va_G} {A : Nat → Prop} {th : Nat} {fs : List Value} {Wl : va_W} {cI cL : ClassId} (C : pq_Cx p c m cX7_init 1 s args qsX7_init RX7 D cI cL A) (hin : meth.name = "<init>") (hlen : 38 < fs.length) (hl : lv_has ls 1 [(0, .ref th)]) (hh : pq_H D A s ((th, .inr (6, fs)) :: Wl) H locs)
    (kk : ∀ (q : Nat) (H : Heap) (locs : List Loc), pq_H D A s ((th, .inr (6, fs.set 38 (.ref q))) :: (Wl ++ [(q, .inl (cI, 2000, .inl (fun _ => 0)))])) H locs → W p l e { frames := 1, cells := 34, slots := 5061, locals := 12 } s m args below meth c H locs 32 4037 Q (F0 m 2038 ls [])) : W p l e { frames := 1, cells := 34, slots := 5061, locals := 12 } s m args below meth c H locs 31 2037 Q (F0 m 2029 ls []) := by
  have hx := C.1
  have hb := C.2.1
  have hml := C.2.2.1
  have hown : s.vm.findClass RX7 = some m.cls := C.2.2.2.1
  have hs : ∀ w ∈ wsL_law, w ∈ qsX7_init := fun _ h => List.mem_cons_of_mem _ h
  have htw : ∀ w ∈ wsL_law, w.before args s = true := fun w h => C.2.2.2.2.1 w (hs w h)
  have i7 : ∀ w ∈ wsX70, w ∈ qsX7_init := fun w h => hs w (pq_i7 w h)
  have ka := htw (.arrayClass .int) (pq_m2 _ (List.mem_of_getElem? (i := 15) rfl))
  have kf105 := htw (.fieldLink RX7 105 "VoiceDeskModel" "out" "[I") (pq_m5 _ (List.mem_of_getElem? (i := 5) rfl))
  refine lv_aload_n hx hb dX7_init_2029 rfl (lv_at hl 0 rfl) ?_
  refine lv_sipush (v := (2000 : Int32)) hx hb dX7_init_2030 (by decide) ?_
  refine pq_newa (N := 2000) C hh ka (by decide) (by decide) (Nat.le_of_ble_eq_true rfl) (Nat.le_of_ble_eq_true rfl) (Nat.le_of_ble_eq_true rfl) dX7_init_2033 (fun q H hh => ?_)
  refine pq_putF (ty := (.array .int)) (v := .ref q) C hh i7 tyX7 tyX7_ok nmX7 0 6 rfl rfl 38 (by decide) kf105 rfl rfl hin rfl (by decide +kernel) rfl rfl hlen dX7_init_2035 (fun H locs hh => ?_)
  exact kk q H locs hh
set_option maxHeartbeats 4000000 in
set_option maxRecDepth 100000 in
theorem mdX7_2038 {p : Program} {l : Launch} {e : Env} {s : State} {m : MethodId} {args : Array Value} {below : List Frame} {meth : Method} {c : Code} {H : Heap} {locs : List Loc} {Q : State → Prop} {ls : Array Slot} {D : va_G} {A : Nat → Prop} {th : Nat} {fs : List Value} {Wl : va_W} {cI cL : ClassId} (C : pq_Cx p c m cX7_init 1 s args qsX7_init RX7 D cI cL A) (hin : meth.name = "<init>") (hlen : 41 < fs.length) (hl : lv_has ls 1 [(0, .ref th)]) (hh : pq_H D A s ((th, .inr (6, fs)) :: Wl) H locs)
    (kk : ∀ (q : Nat) (H : Heap) (locs : List Loc), pq_H D A s ((th, .inr (6, fs.set 41 (.ref q))) :: (Wl ++ [(q, .inl (cI, 512, .inl (fun _ => 0)))])) H locs → W p l e { frames := 1, cells := 34, slots := 5061, locals := 12 } s m args below meth c H locs 33 4549 Q (F0 m 2047 ls [])) : W p l e { frames := 1, cells := 34, slots := 5061, locals := 12 } s m args below meth c H locs 32 4037 Q (F0 m 2038 ls []) := by
  have hx := C.1
  have hb := C.2.1
  have hml := C.2.2.1
  have hown : s.vm.findClass RX7 = some m.cls := C.2.2.2.1
  have hs : ∀ w ∈ wsL_law, w ∈ qsX7_init := fun _ h => List.mem_cons_of_mem _ h
  have htw : ∀ w ∈ wsL_law, w.before args s = true := fun w h => C.2.2.2.2.1 w (hs w h)
  have i7 : ∀ w ∈ wsX70, w ∈ qsX7_init := fun w h => hs w (pq_i7 w h)
  have ka := htw (.arrayClass .int) (pq_m2 _ (List.mem_of_getElem? (i := 15) rfl))
  have kf108 := htw (.fieldLink RX7 108 "VoiceDeskModel" "least" "[I") (pq_m5 _ (List.mem_of_getElem? (i := 6) rfl))
  refine lv_aload_n hx hb dX7_init_2038 rfl (lv_at hl 0 rfl) ?_
  refine lv_sipush (v := (512 : Int32)) hx hb dX7_init_2039 (by decide) ?_
  refine pq_newa (N := 512) C hh ka (by decide) (by decide) (Nat.le_of_ble_eq_true rfl) (Nat.le_of_ble_eq_true rfl) (Nat.le_of_ble_eq_true rfl) dX7_init_2042 (fun q H hh => ?_)
  refine pq_putF (ty := (.array .int)) (v := .ref q) C hh i7 tyX7 tyX7_ok nmX7 0 6 rfl rfl 41 (by decide) kf108 rfl rfl hin rfl (by decide +kernel) rfl rfl hlen dX7_init_2044 (fun H locs hh => ?_)
  exact kk q H locs hh
set_option maxHeartbeats 4000000 in
set_option maxRecDepth 100000 in
theorem mdX7_2047 {p : Program} {l : Launch} {e : Env} {s : State} {m : MethodId} {args : Array Value} {below : List Frame} {meth : Method} {c : Code} {H : Heap} {locs : List Loc} {Q : State → Prop} {ls : Array Slot} {D : va_G} {A : Nat → Prop} {th : Nat} {fs : List Value} {Wl : va_W} {cI cL : ClassId} (C : pq_Cx p c m cX7_init 1 s args qsX7_init RX7 D cI cL A) (hin : meth.name = "<init>") (hlen : 42 < fs.length) (hl : lv_has ls 1 [(0, .ref th)]) (hh : pq_H D A s ((th, .inr (6, fs)) :: Wl) H locs)
    (kk : ∀ (q : Nat) (H : Heap) (locs : List Loc), pq_H D A s ((th, .inr (6, fs.set 42 (.ref q))) :: (Wl ++ [(q, .inl (cI, 512, .inl (fun _ => 0)))])) H locs → W p l e { frames := 1, cells := 34, slots := 5061, locals := 12 } s m args below meth c H locs 34 5061 Q (F0 m 2056 ls [])) : W p l e { frames := 1, cells := 34, slots := 5061, locals := 12 } s m args below meth c H locs 33 4549 Q (F0 m 2047 ls []) := by
  have hx := C.1
  have hb := C.2.1
  have hml := C.2.2.1
  have hown : s.vm.findClass RX7 = some m.cls := C.2.2.2.1
  have hs : ∀ w ∈ wsL_law, w ∈ qsX7_init := fun _ h => List.mem_cons_of_mem _ h
  have htw : ∀ w ∈ wsL_law, w.before args s = true := fun w h => C.2.2.2.2.1 w (hs w h)
  have i7 : ∀ w ∈ wsX70, w ∈ qsX7_init := fun w h => hs w (pq_i7 w h)
  have ka := htw (.arrayClass .int) (pq_m2 _ (List.mem_of_getElem? (i := 15) rfl))
  have kf111 := htw (.fieldLink RX7 111 "VoiceDeskModel" "greatest" "[I") (pq_m5 _ (List.mem_of_getElem? (i := 7) rfl))
  refine lv_aload_n hx hb dX7_init_2047 rfl (lv_at hl 0 rfl) ?_
  refine lv_sipush (v := (512 : Int32)) hx hb dX7_init_2048 (by decide) ?_
  refine pq_newa (N := 512) C hh ka (by decide) (by decide) (Nat.le_of_ble_eq_true rfl) (Nat.le_of_ble_eq_true rfl) (Nat.le_of_ble_eq_true rfl) dX7_init_2051 (fun q H hh => ?_)
  refine pq_putF (ty := (.array .int)) (v := .ref q) C hh i7 tyX7 tyX7_ok nmX7 0 6 rfl rfl 42 (by decide) kf111 rfl rfl hin rfl (by decide +kernel) rfl rfl hlen dX7_init_2053 (fun H locs hh => ?_)
  exact kk q H locs hh
