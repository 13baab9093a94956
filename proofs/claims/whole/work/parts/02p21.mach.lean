/-! what every method of the class may take as given: nest mates' links, static tables -/
abbrev pq_nestM : List (String × Nat × MethodName × String) := [("VoiceDesk", 15, yX4_init, "VoiceDesk"), ("VoiceDesk$Line", 11, yX0_init, "VoiceDesk"), ("VoiceDesk$Line", 23, yX5_init, "VoiceDesk"), ("VoiceDesk$Wideband", 11, yX1_init, "VoiceDesk"), ("VoiceDesk", 18, yX2_init, "VoiceDesk"), ("VoiceDesk$Band", 16, yX6_limited, "VoiceDesk"), ("VoiceDesk$Band", 23, yX6_cut, "VoiceDesk"), ("VoiceDesk$Band", 48, yX6_sign, "VoiceDesk"), ("VoiceDesk$Adpcm", 47, yX6_wrapped, "VoiceDesk"), ("VoiceDesk$Adpcm", 115, yX6_cut, "VoiceDesk"), ("VoiceDesk$Adpcm", 102, yX6_sign, "VoiceDesk"), ("VoiceDesk$Wideband", 71, yX6_limited, "VoiceDesk"), ("VoiceDesk$Adpcm", 40, yX6_limited, "VoiceDesk"), ("VoiceDesk$Bytes", 28, yX6_wrapped, "VoiceDesk")]
abbrev pq_nestF : List (String × Nat × String × String × String × String) := [("VoiceDesk$Line", 79, "VoiceDesk$Wideband", "secondHeard", "I", "VoiceDesk"), ("VoiceDesk", 35, "VoiceDesk$Line", "kind", "I", "VoiceDesk"), ("VoiceDesk", 66, "VoiceDesk$Bytes", "length", "I", "VoiceDesk")]
def pq_t_COEFFICIENTS : Nat → Int32 := fun j => ([3, -11, 12, 32, -210, 951, 3876, -805, 362, -156, 53, -11] : List Int32).getD j 0
def pq_t_Q : Nat → Int32 := fun j => ([35, 72, 110, 150, 190, 233, 276, 323, 370, 422, 473, 530, 587, 650, 714, 786, 858, 940, 1023, 1121, 1219, 1339, 1458, 1612, 1765, 1980, 2195, 2557, 2919] : List Int32).getD j 0
def pq_t_U : Nat → Int32 := fun j => ([0, -20456, -12896, -8968, -6288, -4240, -2584, -1200, 20456, 12896, 8968, 6288, 4240, 2584, 1200, 0] : List Int32).getD j 0
def pq_t_WL : Nat → Int32 := fun j => ([-60, 3042, 1198, 538, 334, 172, 58, -30, 3042, 1198, 538, 334, 172, 58, -30, -60] : List Int32).getD j 0
def pq_t_ROOTS : Nat → Int32 := fun j => ([2048, 2093, 2139, 2186, 2233, 2282, 2332, 2383, 2435, 2489, 2543, 2599, 2656, 2714, 2774, 2834, 2896, 2960, 3025, 3091, 3158, 3228, 3298, 3371, 3444, 3520, 3597, 3676, 3756, 3838, 3922, 4008] : List Int32).getD j 0
def pq_t_V : Nat → Int32 := fun j => ([-7408, -1616, 7408, 1616] : List Int32).getD j 0
def pq_t_WH : Nat → Int32 := fun j => ([798, -214, 798, -214] : List Int32).getD j 0
def pq_t_BOUNDS : Nat → Int32 := fun j => ([261, 8, 218, 331, -124, 80, 178, 246, 300, 349, 400, -122, -16, 68, 139, 198, 250, 298, 339, 378, 413, 445, 475, 502, 528, 553] : List Int32).getD j 0
def pq_t_TABLE : Nat → Int32 := fun j => ([116, 365, -2048, 135, 273, 373, -2048, 4, 135, 213, 273, 323, 373, 425, -2048, -66, 28, 104, 169, 224, 274, 318, 358, 395, 429, 459, 488, 514, 539, 566] : List Int32).getD j 0
def pq_t_WEIGHT : Nat → Int32 := fun j => ([-704, 14048, -128, 960, 4384, 18624, -384, 576, 1312, 2048, 3584, 6336, 11360, 35904, 448, 448, 768, 1248, 1280, 1312, 1856, 3200, 4512, 5728, 7008, 8960, 11456, 14080, 16928, 22272] : List Int32).getD j 0
def pq_t_PACE : Nat → Int32 := fun j => ([0, 3584, 0, 512, 1024, 3584, 0, 0, 0, 512, 512, 512, 1536, 3584, 0, 0, 0, 0, 0, 512, 512, 512, 512, 512, 1024, 1536, 2048, 2560, 3072, 3072] : List Int32).getD j 0
def pq_t_X_64 : Nat → Int32 := fun j => ([-136, -136, -136, -136, -24808, -21904, -19008, -16704, -14984, -13512, -12280, -11192, -10232, -9360, -8576, -7856, -7192, -6576, -6000, -5456, -4944, -4464, -4008, -3576, -3168, -2776, -2400, -2032, -1688, -1360, -1040, -728, 24808, 21904, 19008, 16704, 14984, 13512, 12280, 11192, 10232, 9360, 8576, 7856, 7192, 6576, 6000, 5456, 4944, 4464, 4008, 3576, 3168, 2776, 2400, 2032, 1688, 1360, 1040, 728, 432, 136, -432, -136] : List Int32).getD j 0
def pq_t_X_56 : Nat → Int32 := fun j => ([-280, -280, -23352, -17560, -14120, -11664, -9752, -8184, -6864, -5712, -4696, -3784, -2960, -2208, -1520, -880, 23352, 17560, 14120, 11664, 9752, 8184, 6864, 5712, 4696, 3784, 2960, 2208, 1520, 880, 280, -280] : List Int32).getD j 0
abbrev pq_oM (ad : Nat → Nat) (c_told : Int32) (c_sumZ : Int32) (c_sumE : Int32) (c_stepY : Int32) (c_odd : Int32) (c_even : Int32) (c_taped : Int32) (c_outs : Int32) (c_isFound : Int32) : List Value := [.int c_told, .ref (ad 1), .ref (ad 2), .ref (ad 3), .ref (ad 4), .ref (ad 5), .ref (ad 6), .ref (ad 7), .ref (ad 8), .ref (ad 9), .ref (ad 10), .ref (ad 11), .ref (ad 12), .ref (ad 13), .ref (ad 14), .ref (ad 15), .ref (ad 16), .ref (ad 17), .ref (ad 18), .ref (ad 19), .int c_sumZ, .int c_sumE, .int c_stepY, .ref (ad 23), .ref (ad 24), .ref (ad 25), .ref (ad 26), .ref (ad 27), .ref (ad 28), .ref (ad 29), .ref (ad 30), .ref (ad 31), .ref (ad 32), .ref (ad 33), .int c_odd, .int c_even, .ref (ad 36), .int c_taped, .ref (ad 38), .int c_outs, .int c_isFound, .ref (ad 41), .ref (ad 42)]
abbrev pq_tabs : List (String × String × Nat × (Nat → Int32)) := [("VoiceDesk$Wideband", "COEFFICIENTS", 12, pq_t_COEFFICIENTS), ("VoiceDesk$Wideband", "Q", 29, pq_t_Q), ("VoiceDesk$Wideband", "U", 16, pq_t_U), ("VoiceDesk$Wideband", "WL", 16, pq_t_WL), ("VoiceDesk$Band", "ROOTS", 32, pq_t_ROOTS), ("VoiceDesk$Wideband", "V", 4, pq_t_V), ("VoiceDesk$Wideband", "WH", 4, pq_t_WH), ("VoiceDesk$Adpcm", "BOUNDS", 26, pq_t_BOUNDS), ("VoiceDesk$Adpcm", "TABLE", 30, pq_t_TABLE), ("VoiceDesk$Adpcm", "WEIGHT", 30, pq_t_WEIGHT), ("VoiceDesk$Adpcm", "PACE", 30, pq_t_PACE), ("VoiceDesk$Wideband", "X_64", 64, pq_t_X_64), ("VoiceDesk$Wideband", "X_56", 32, pq_t_X_56)]
def pq_G (A : Nat → Prop) (U : State) (H : Heap) : Prop :=
  (∀ w ∈ pq_nestM, va_Nw (.methodLinkNest w.1 w.2.1 w.2.2.1 w.2.2.2) U) ∧ (∀ w ∈ pq_nestF, va_Nw (.fieldLinkNest w.1 w.2.1 w.2.2.1 w.2.2.2.1 w.2.2.2.2.1 w.2.2.2.2.2) U) ∧ (∀ q ∈ pq_tabs, ∃ t : Nat, va_Z q.1 q.2.1 "[I" (.ref t) A U H ∧ va_T .int t q.2.2.1 (fun j => .int (q.2.2.2 j)) A U H) ∧ va_AO RX4 U
theorem pq_G.go {A B : Nat → Prop} {s U : State} {locs : List Loc} (h : pq_G A s s.heap) (hW : s.WarmedH U.vm) (hS : va_S A s.heap U.heap locs) (hAB : ∀ q, B q → A q) : pq_G B U U.heap := by
  refine ⟨fun w hw => va_Nw.warmM hW (h.1 w hw), fun w hw => va_Nw.warmF hW (h.2.1 w hw), fun q hq => ?_, va_AO.moved hW.alike h.2.2.2⟩
  obtain ⟨t, h1, h2⟩ := h.2.2.1 q hq
  exact ⟨t, ((va_Z.moved hW.alike h1).kept (fun a h3 h4 => hS.2.1 a h3 h4)).narrow hAB, ((va_T.moved hW.alike h2).kept (fun a h3 h4 => hS.2.1 a h3 h4)).narrow hAB⟩
theorem pq_G.call {A : Nat → Prop} {U : State} {g : JFrame} {mk : MethodId} {a : Array Value} (h : pq_G A U U.heap) : pq_G A (U.calling g mk a) (U.calling g mk a).heap := by
  refine ⟨fun w hw => va_Nw.same rfl (by rfl) (h.1 w hw), fun w hw => va_Nw.same rfl (by rfl) (h.2.1 w hw), fun q hq => ?_, va_AO.moved (u := U) (U := U.calling g mk a) (Vm.Alike.refl U.vm) h.2.2.2⟩
  obtain ⟨t, h1, h2⟩ := h.2.2.1 q hq
  exact ⟨t, va_Z.moved (u := U) (U := U.calling g mk a) (Vm.Alike.refl U.vm) h1, va_T.moved (u := U) (U := U.calling g mk a) (Vm.Alike.refl U.vm) h2⟩
abbrev pq_tys (cI cL : ClassId) : List (ClassId × FieldType) := [(cI, .int), (cL, .object RX4)]
/-- the fixed things of a walk -/
def pq_Cx (p : Program) (c : Code) (m : MethodId) (cc : ByteArray) (nL : Nat) (s : State) (args : Array Value) (Ts : List Cond) (own : String) (D : va_G) (cI cL : ClassId) (A : Nat → Prop) : Prop :=
  p.tables.exec = Jvm.exec ∧ c.code = cc ∧ c.maxLocals = nL ∧ s.vm.findClass own = some m.cls ∧ (∀ w ∈ Ts, w.before args s = true) ∧ va_K D vwCl (pq_tys cI cL) s ∧ pq_G A s s.heap ∧ ∀ q, s.heap.size ≤ q → A q
/-- the heap of a walk: the cells Wd -/
def pq_H (D : va_G) (A : Nat → Prop) (s : State) (Wd : va_W) (H : Heap) (locs : List Loc) : Prop := va_P D vwCl Wd H ∧ va_D A Wd ∧ va_S A s.heap H locs
def pq_Pre (D : va_G) (cI cL : ClassId) (Wd : va_W) (sz : Nat) : State → Prop := fun U => U.heap.size = sz ∧ va_P D vwCl Wd U.heap ∧ va_K D vwCl (pq_tys cI cL) U ∧ va_D (fun _ => True) Wd ∧ pq_G (va_A Wd sz) U U.heap
def pq_Post (D : va_G) (A : Nat → Prop) (Wd : va_W) : Unit → State → Prop := fun _ t => va_P D vwCl Wd t.heap ∧ va_D A Wd
abbrev pq_rm (fr lo : Nat) : Room := { frames := fr, cells := 0, slots := 0, locals := lo }
/-- contracts: a method that makes nothing, on the cells W0, leaves the cells W1; it answers an int r; nothing; a reference or null -/
def pq_CI (l : Launch) (y : MethodName) (ws : List Cond) (fr lo : Nat) (D : va_G) (cI cL : ClassId) (As : List Value) (W0 W1 : va_W) (r : Int32) : Prop :=
  ∀ sz, Met l y ws (pq_rm fr lo) (va_Pc As (pq_Pre D cI cL W0 sz)) (va_Qi (fun (r' : Int32) (_ : Unit) => r' = r) (pq_Post D (va_A W0 sz) W1) (va_A W0 sz)) 0 0 (va_A W0 sz)
def pq_CV (l : Launch) (y : MethodName) (ws : List Cond) (fr lo : Nat) (D : va_G) (cI cL : ClassId) (As : List Value) (W0 W1 : va_W) : Prop :=
  ∀ sz, Met l y ws (pq_rm fr lo) (va_Pc As (pq_Pre D cI cL W0 sz)) (va_Qv (fun (_ : Unit) => True) (pq_Post D (va_A W0 sz) W1) (va_A W0 sz)) 0 0 (va_A W0 sz)
def pq_CQ (l : Launch) (y : MethodName) (ws : List Cond) (fr lo : Nat) (D : va_G) (cI cL : ClassId) (As : List Value) (W0 W1 : va_W) (r : Option Nat) : Prop :=
  ∀ sz, Met l y ws (pq_rm fr lo) (va_Pc As (pq_Pre D cI cL W0 sz)) (va_Qq (fun (r' : Option Nat) (_ : Unit) => r' = r) (pq_Post D (va_A W0 sz) W1) (va_A W0 sz)) 0 0 (va_A W0 sz)
theorem pq_blind {D : va_G} {cI cL : ClassId} {Wd : va_W} {sz : Nat} {As : List Value} : FrameBlind (va_Pc As (pq_Pre D cI cL Wd sz)) := by
  intro a U g mk q
  obtain ⟨q0, q1, qP, qK, qD, qG⟩ := q
  exact ⟨q0, q1, qP, va_K.moved (u := U) (U := U.calling g mk a) (Vm.Alike.refl U.vm) qK, qD, qG.call⟩
section PQM
variable {p : Program} {l : Launch} {e : Env} {R : Room} {s : State} {m : MethodId} {args : Array Value} {below : List Frame} {meth : Method} {c : Code} {H : Heap} {locs : List Loc} {cells slots : Nat} {Q : State → Prop}
variable {cc : ByteArray} {pc : Nat} {ls : Array Slot} {rest : List Value} {D : va_G} {A : Nat → Prop} {a nL : Nat} {Wd : va_W} {Ts : List Cond} {own : String} {cI cL : ClassId}
set_option maxHeartbeats 1000000 in
theorem pq_mkI {y : MethodName} {ws ws' : List Cond} {maxL fr lo : Nat} {RT : FieldType} {As : List Value} {W0 W1 : va_W} {r : Int32} (hy : plainName y.cls = true) (hw : ws = Cond.code y cc maxL (some RT) :: ws') (hlen : (lg_sl As).length ≤ maxL)
    (body : ∀ (p : Program) (e : Env) (s : State) (m : MethodId) (args : Array Value) (below : List Frame) (meth : Method) (c : Code) (Q : State → Prop) (A : Nat → Prop), pq_Cx p c m cc maxL s args ws y.cls D cI cL A → pq_H D A s W0 s.heap [] →
      (∀ (H : Heap) (locs : List Loc) (pc : Nat) (ls : Array Slot), pq_H D A s W1 H locs → decode cc pc = .ok (.ireturn, 1) → narrow RT (.int r) = .int r → W p l e (pq_rm fr lo) s m args below meth c H locs 0 0 Q (F0 m pc ls [.int r])) →
      ∀ ls : Array Slot, lv_has ls maxL (lv_args 0 As) → W p l e (pq_rm fr lo) s m args below meth c s.heap [] 0 0 Q (F0 m 0 ls [])) : pq_CI l y ws fr lo D cI cL As W0 W1 r := by
  intro sz
  refine Met.ofW (cc := cc) (maxL := maxL) (ret := some RT) hy hw ?_
  intro p e s m args below meth c s₁ B hml hv
  obtain ⟨rfl, hsz, hP, hK, hD0, hG⟩ := hv
  have hx := B.exec
  have hb := B.bytes
  have hr := B.returns
  have hts := atoms_spec (ws := ws) B.pre
  have hown : s.vm.findClass y.cls = some m.cls := findClass_of_methodNamed B.named
  have hlocks := B.notSynchronized
  subst hsz
  have hD := hD0.self (sz := s.heap.size)
  generalize hAe : va_A W0 s.heap.size = A at hD hG ⊢
  have hA : ∀ q : Nat, s.heap.size ≤ q → A q := fun q h => by rw [← hAe]; exact Or.inr h
  have hl := lv_entry As (n := maxL) hlen
  rw [lg_entry_eq]
  generalize (lg_sl As ++ List.replicate (maxL - (lg_sl As).length) Slot.unset).toArray = ls at hl ⊢
  exact body p e s m _ below meth c _ A ⟨hx, hb, hml, hown, hts, hK, hG, hA⟩ ⟨hP, hD, va_S.rf⟩ (fun H locs pc ls hh hd hn => W.zret (v := r) hx hb hr hn (fun t ht hW => ⟨⟨r, (), rfl, rfl, by rw [ht]; exact hh.1, hh.2.1⟩, hh.2.2.F ht⟩) hh.2.2.2.2 hd) ls hl
set_option maxHeartbeats 1000000 in
theorem pq_mkV {y : MethodName} {ws ws' : List Cond} {maxL fr lo : Nat} {As : List Value} {W0 W1 : va_W} (hy : plainName y.cls = true) (hw : ws = Cond.code y cc maxL none :: ws') (hlen : (lg_sl As).length ≤ maxL)
    (body : ∀ (p : Program) (e : Env) (s : State) (m : MethodId) (args : Array Value) (below : List Frame) (meth : Method) (c : Code) (Q : State → Prop) (A : Nat → Prop), pq_Cx p c m cc maxL s args ws y.cls D cI cL A → pq_H D A s W0 s.heap [] →
      (∀ (H : Heap) (locs : List Loc) (pc : Nat) (ls : Array Slot), pq_H D A s W1 H locs → decode cc pc = .ok (.return_, 1) → W p l e (pq_rm fr lo) s m args below meth c H locs 0 0 Q (F0 m pc ls [])) →
      ∀ ls : Array Slot, lv_has ls maxL (lv_args 0 As) → W p l e (pq_rm fr lo) s m args below meth c s.heap [] 0 0 Q (F0 m 0 ls [])) : pq_CV l y ws fr lo D cI cL As W0 W1 := by
  intro sz
  refine Met.ofW (cc := cc) (maxL := maxL) (ret := none) hy hw ?_
  intro p e s m args below meth c s₁ B hml hv
  obtain ⟨rfl, hsz, hP, hK, hD0, hG⟩ := hv
  have hx := B.exec
  have hb := B.bytes
  have hr := B.returns
  have hts := atoms_spec (ws := ws) B.pre
  have hown : s.vm.findClass y.cls = some m.cls := findClass_of_methodNamed B.named
  have hlocks := B.notSynchronized
  subst hsz
  have hD := hD0.self (sz := s.heap.size)
  generalize hAe : va_A W0 s.heap.size = A at hD hG ⊢
  have hA : ∀ q : Nat, s.heap.size ≤ q → A q := fun q h => by rw [← hAe]; exact Or.inr h
  have hl := lv_entry As (n := maxL) hlen
  rw [lg_entry_eq]
  generalize (lg_sl As ++ List.replicate (maxL - (lg_sl As).length) Slot.unset).toArray = ls at hl ⊢
  exact body p e s m _ below meth c _ A ⟨hx, hb, hml, hown, hts, hK, hG, hA⟩ ⟨hP, hD, va_S.rf⟩ (fun H locs pc ls hh hd => W.vret hx hb hr (fun t ht hW => ⟨⟨(), rfl, trivial, by rw [ht]; exact hh.1, hh.2.1⟩, hh.2.2.F ht⟩) hh.2.2.2.2 hd) ls hl
set_option maxHeartbeats 1000000 in
theorem pq_mkQ {y : MethodName} {ws ws' : List Cond} {maxL fr lo : Nat} {RT : FieldType} {As : List Value} {W0 W1 : va_W} {r : Option Nat} (hy : plainName y.cls = true) (hw : ws = Cond.code y cc maxL (some RT) :: ws') (hrt : ∃ n, RT = .object n) (hlen : (lg_sl As).length ≤ maxL)
    (body : ∀ (p : Program) (e : Env) (s : State) (m : MethodId) (args : Array Value) (below : List Frame) (meth : Method) (c : Code) (Q : State → Prop) (A : Nat → Prop), pq_Cx p c m cc maxL s args ws y.cls D cI cL A → pq_H D A s W0 s.heap [] →
      (∀ (H : Heap) (locs : List Loc) (pc : Nat) (ls : Array Slot) (v : Value), pq_H D A s W1 H locs → decode cc pc = .ok (.areturn, 1) → v = va_rf r → W p l e (pq_rm fr lo) s m args below meth c H locs 0 0 Q (F0 m pc ls [v])) →
      ∀ ls : Array Slot, lv_has ls maxL (lv_args 0 As) → W p l e (pq_rm fr lo) s m args below meth c s.heap [] 0 0 Q (F0 m 0 ls [])) : pq_CQ l y ws fr lo D cI cL As W0 W1 r := by
  intro sz
  refine Met.ofW (cc := cc) (maxL := maxL) (ret := some RT) hy hw ?_
  intro p e s m args below meth c s₁ B hml hv
  obtain ⟨rfl, hsz, hP, hK, hD0, hG⟩ := hv
  have hx := B.exec
  have hb := B.bytes
  have hr := B.returns
  have hts := atoms_spec (ws := ws) B.pre
  have hown : s.vm.findClass y.cls = some m.cls := findClass_of_methodNamed B.named
  have hlocks := B.notSynchronized
  subst hsz
  have hD := hD0.self (sz := s.heap.size)
  generalize hAe : va_A W0 s.heap.size = A at hD hG ⊢
  have hA : ∀ q : Nat, s.heap.size ≤ q → A q := fun q h => by rw [← hAe]; exact Or.inr h
  have hl := lv_entry As (n := maxL) hlen
  rw [lg_entry_eq]
  generalize (lg_sl As ++ List.replicate (maxL - (lg_sl As).length) Slot.unset).toArray = ls at hl ⊢
  exact body p e s m _ below meth c _ A ⟨hx, hb, hml, hown, hts, hK, hG, hA⟩ ⟨hP, hD, va_S.rf⟩ (fun H locs pc ls v hh hd hv => by subst hv; exact W.aret (v := va_rf r) hx hb hr (Or.inl hrt) (va_rf_or r) (fun t ht hW => ⟨⟨r, (), rfl, rfl, by rw [ht]; exact hh.1, hh.2.1⟩, hh.2.2.F ht⟩) hh.2.2.2.2 hd) ls hl
theorem pq_aald (C : pq_Cx p c m cc nL s args Ts own D cI cL A) (hh : pq_H D A s Wd H locs) (q0 : Nat) {La : Nat → Nat} {ln : Nat} (ha : Wd[q0]? = some (a, .inl (cL, 4, .inr (.inr (.inr (.inr (fun j => some (La j)))))))) {i : Int32} (hin : vp_in i 4) (hLa : La i.toNatClampNeg = ln) (hdg : decode cc pc = .ok (.aaload, 1))
    (kk : W p l e R s m args below meth c H locs cells slots Q (F0 m (pc + 1) ls (.ref ln :: rest))) : W p l e R s m args below meth c H locs cells slots Q (F0 m pc ls (.int i :: .ref a :: rest)) :=
  va_aldq C.1 C.2.1 C.2.2.2.2.2.1 hh.1 q0 1 ha rfl hin hdg (by subst hLa; exact kk)
theorem pq_tsOut {x : Int32} {hi : Nat} (hh : hi < 2 ^ 31) (h : ∀ k : Nat, k ≤ hi → ¬ x = nI k) : x.toInt < ((0 : Nat) : Int) ∨ (hi : Int) < x.toInt := by
  by_cases h0 : x < 0
  · left; have := Int32.lt_iff_toInt_lt.mp h0; simpa using this
  · right
    obtain ⟨j, hj, rfl⟩ := nI_of h0
    rcases Nat.lt_or_ge hi j with q | q
    · rw [nI_toInt hj]; omega
    · exact absurd rfl (h j q)
theorem pq_iald (C : pq_Cx p c m cc nL s args Ts own D cI cL A) (hh : pq_H D A s Wd H locs) (q0 : Nat) {n : Nat} {f : Nat → Int32} (ha : Wd[q0]? = some (a, .inl (cI, n, .inl f))) {i : Int32} (hin : vp_in i n) (hdg : decode cc pc = .ok (.iaload, 1))
    (kk : ∀ v : Int32, v = f i.toNatClampNeg → W p l e R s m args below meth c H locs cells slots Q (F0 m (pc + 1) ls (.int v :: rest))) : W p l e R s m args below meth c H locs cells slots Q (F0 m pc ls (.int i :: .ref a :: rest)) :=
  va_iald C.1 C.2.1 C.2.2.2.2.2.1 hh.1 q0 0 ha rfl hin hdg (kk _ rfl)
theorem pq_iast (C : pq_Cx p c m cc nL s args Ts own D cI cL A) (hh : pq_H D A s Wd H locs) (q0 : Nat) {n : Nat} {f : Nat → Int32} (ha : Wd[q0]? = some (a, .inl (cI, n, .inl f))) {i x : Int32} (hin : vp_in i n) (hdg : decode cc pc = .ok (.iastore, 1))
    (kk : ∀ (H1 : Heap) (locs1 : List Loc) (f1 : Nat → Int32), f1 = upd f i.toNatClampNeg x → pq_H D A s (Wd.set q0 (a, .inl (cI, n, .inl f1))) H1 locs1 → W p l e R s m args below meth c H1 locs1 cells slots Q (F0 m (pc + 1) ls rest)) : W p l e R s m args below meth c H locs cells slots Q (F0 m pc ls (.int x :: .int i :: .ref a :: rest)) :=
  va_iast C.1 C.2.1 C.2.2.2.2.2.1 hh.1 hh.2.1 hh.2.2 q0 0 ha rfl hin hdg (fun H1 locs1 h1 h2 h3 => kk H1 locs1 _ rfl ⟨h1, h2, h3⟩)
theorem pq_get (C : pq_Cx p c m cc nL s args Ts own D cI cL A) (hh : pq_H D A s Wd H locs) {ref K : String} {T : u_T} {N index : Nat} (hin : ∀ w ∈ u_ws K T N, w ∈ Ts) (q0 ci : Nat) {fs : List Value} (he : Wd[q0]? = some (a, .inr (ci, fs))) (hc : vwCl[ci]? = some (K, T, N)) (k : Nat) (hk : k < N) (hlink : (Cond.fieldLink own index ref (T k).2.1 (T k).2.2.1).before args s = true) (hsame : (T k).1 = ref) {v : Value} (hv : fs[k]? = some v) (hdg : decode cc pc = .ok (.getfield index, 3))
    (kk : W p l e R s m args below meth c H locs cells slots Q (F0 m (pc + 3) ls (v :: rest))) : W p l e R s m args below meth c H locs cells slots Q (F0 m pc ls (.ref a :: rest)) :=
  va_get C.1 C.2.1 C.2.2.2.2.1 hin C.2.2.2.1 C.2.2.2.2.2.1 hh.1 q0 he hc k hk hlink (fun x h => by rw [← hsame]; exact h) hv hdg kk
theorem pq_getN (C : pq_Cx p c m cc nL s args Ts own D cI cL A) (hh : pq_H D A s Wd H locs) {ref K host : String} {T : u_T} {N index : Nat} (hin : ∀ w ∈ u_ws K T N, w ∈ Ts) (q0 ci : Nat) {fs : List Value} (he : Wd[q0]? = some (a, .inr (ci, fs))) (hc : vwCl[ci]? = some (K, T, N)) (k : Nat) (hk : k < N) (hlink : (own, index, ref, (T k).2.1, (T k).2.2.1, host) ∈ pq_nestF) (hsame : (T k).1 = ref) {v : Value} (hv : fs[k]? = some v) (hdg : decode cc pc = .ok (.getfield index, 3))
    (kk : W p l e R s m args below meth c H locs cells slots Q (F0 m (pc + 3) ls (v :: rest))) : W p l e R s m args below meth c H locs cells slots Q (F0 m pc ls (.ref a :: rest)) :=
  va_getN C.1 C.2.1 C.2.2.2.2.1 hin C.2.2.2.1 C.2.2.2.2.2.1 hh.1 q0 he hc k hk (va_Nw.use rfl (C.2.2.2.2.2.2.1.2.1 _ hlink)) (fun x h => by rw [← hsame]; exact h) hv hdg kk
theorem pq_put (C : pq_Cx p c m cc nL s args Ts own D cI cL A) (hh : pq_H D A s Wd H locs) {ref K : String} {T : u_T} {N index : Nat} (hin : ∀ w ∈ u_ws K T N, w ∈ Ts) (ty0 : Nat → FieldType) (hty : ∀ k, k < N → parseFieldDescriptor (T k).2.2.1 = some (ty0 k)) (hnm : ∀ a, a < N → ∀ b, b < N → a ≠ b → (T a).2.1 ≠ (T b).2.1) (q0 ci : Nat) {fs : List Value} (he : Wd[q0]? = some (a, .inr (ci, fs))) (hc : vwCl[ci]? = some (K, T, N)) (k : Nat) (hk : k < N) (hlink : (Cond.fieldLink own index ref (T k).2.1 (T k).2.2.1).before args s = true) (hsame : (T k).1 = ref) (hfin : (T k).2.2.2 = false) {ty : FieldType} {v : Value} (hd : parseFieldDescriptor (T k).2.2.1 = some ty) (hn : narrow ty v = v) (hfit : fits ty v = true) (hl : k < fs.length) (hdg : decode cc pc = .ok (.putfield index, 3))
    (kk : ∀ (H1 : Heap) (locs1 : List Loc), pq_H D A s (Wd.set q0 (a, .inr (ci, fs.set k v))) H1 locs1 → W p l e R s m args below meth c H1 locs1 cells slots Q (F0 m (pc + 3) ls rest)) : W p l e R s m args below meth c H locs cells slots Q (F0 m pc ls (v :: .ref a :: rest)) :=
  va_put C.1 C.2.1 C.2.2.2.2.1 hin ty0 hty hnm C.2.2.2.1 C.2.2.2.2.2.1 hh.1 hh.2.1 hh.2.2 q0 he hc k hk hlink (fun x h => by rw [← hsame]; exact h) hfin hd hn hfit hl hdg (fun H1 locs1 h1 h2 h3 => kk H1 locs1 ⟨h1, h2, h3⟩)
theorem pq_putN (C : pq_Cx p c m cc nL s args Ts own D cI cL A) (hh : pq_H D A s Wd H locs) {ref K host : String} {T : u_T} {N index : Nat} (hin : ∀ w ∈ u_ws K T N, w ∈ Ts) (ty0 : Nat → FieldType) (hty : ∀ k, k < N → parseFieldDescriptor (T k).2.2.1 = some (ty0 k)) (hnm : ∀ a, a < N → ∀ b, b < N → a ≠ b → (T a).2.1 ≠ (T b).2.1) (q0 ci : Nat) {fs : List Value} (he : Wd[q0]? = some (a, .inr (ci, fs))) (hc : vwCl[ci]? = some (K, T, N)) (k : Nat) (hk : k < N) (hlink : (own, index, ref, (T k).2.1, (T k).2.2.1, host) ∈ pq_nestF) (hsame : (T k).1 = ref) (hfin : (T k).2.2.2 = false) {ty : FieldType} {v : Value} (hd : parseFieldDescriptor (T k).2.2.1 = some ty) (hn : narrow ty v = v) (hfit : fits ty v = true) (hl : k < fs.length) (hdg : decode cc pc = .ok (.putfield index, 3))
    (kk : ∀ (H1 : Heap) (locs1 : List Loc), pq_H D A s (Wd.set q0 (a, .inr (ci, fs.set k v))) H1 locs1 → W p l e R s m args below meth c H1 locs1 cells slots Q (F0 m (pc + 3) ls rest)) : W p l e R s m args below meth c H locs cells slots Q (F0 m pc ls (v :: .ref a :: rest)) :=
  va_putN C.1 C.2.1 C.2.2.2.2.1 hin ty0 hty hnm C.2.2.2.1 C.2.2.2.2.2.1 hh.1 hh.2.1 hh.2.2 q0 he hc k hk (va_Nw.use rfl (C.2.2.2.2.2.2.1.2.1 _ hlink)) (fun x h => by rw [← hsame]; exact h) hfin hd hn hfit hl hdg (fun H1 locs1 h1 h2 h3 => kk H1 locs1 ⟨h1, h2, h3⟩)
/-- a static table is there -/
theorem pq_tab (C : pq_Cx p c m cc nL s args Ts own D cI cL A) (k : Nat) {q : String × String × Nat × (Nat → Int32)} (hk : pq_tabs[k]? = some q) : ∃ t : Nat, va_Z q.1 q.2.1 "[I" (.ref t) A s s.heap ∧ va_T .int t q.2.2.1 (fun j => .int (q.2.2.2 j)) A s s.heap := C.2.2.2.2.2.2.1.2.2.1 q (List.mem_of_getElem? hk)
theorem pq_gets (C : pq_Cx p c m cc nL s args Ts own D cI cL A) (hh : pq_H D A s Wd H locs) {K n d : String} {v : Value} {index : Nat} (hZ : va_Z K n d v A s s.heap) (hlink : (Cond.fieldLink own index K n d).before args s = true) (hdg : decode cc pc = .ok (.getstatic index, 3))
    (kk : W p l e R s m args below meth c H locs cells slots Q (F0 m (pc + 3) ls (v :: rest))) : W p l e R s m args below meth c H locs cells slots Q (F0 m pc ls rest) :=
  va_gets C.1 C.2.1 hZ hh.2.2 C.2.2.2.1 hlink (fun _ h => h) hdg kk
theorem pq_ti (C : pq_Cx p c m cc nL s args Ts own D cI cL A) (hh : pq_H D A s Wd H locs) {t N : Nat} {f : Nat → Int32} (hT : va_T .int t N (fun j => .int (f j)) A s s.heap) {i : Int32} (hin : vp_in i N) (hdg : decode cc pc = .ok (.iaload, 1))
    (kk : ∀ v : Int32, v = f i.toNatClampNeg → W p l e R s m args below meth c H locs cells slots Q (F0 m (pc + 1) ls (.int v :: rest))) : W p l e R s m args below meth c H locs cells slots Q (F0 m pc ls (.int i :: .ref t :: rest)) :=
  va_ti C.1 C.2.1 hT hh.2.2 hin rfl hdg (kk _ rfl)
end PQM
