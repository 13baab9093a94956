/-! contracts on fewer cells hold on more; constructors -/
theorem pq_weak {l : Launch} {y : MethodName} {ws : List Cond} {rm : Room} {Pc Pc' : Array Value → State → Prop} {Qc Qc' : Array Value → State → Outcome → State → Prop} {mc ms : Nat} {free free' : Addr → Prop} (hM : Met l y ws rm Pc Qc mc ms free) (hP : ∀ a s, Pc' a s → Pc a s) (hQ : ∀ a s o t, Pc' a s → Qc a s o t → Qc' a s o t) (hF : ∀ q, free q → free' q) : Met l y ws rm Pc' Qc' mc ms free' := by
  intro p e ha hc hk s m args below hf happ hPc hK
  obtain ⟨n, o, h1, h2, h3, hQ1, L, h4, h5⟩ := hM p e ha hc hk s m args below hf happ (hP _ _ hPc) hK
  exact ⟨n, o, h1, h2, h3, hQ _ _ _ _ hPc hQ1, L, h4, fun q hq => hF _ (h5 q hq)⟩
theorem pq_Asub {Wd wc : va_W} {sz : Nat} (isC : List Nat) (hC : isC.map (fun i => Wd[i]?) = wc.map some) : ∀ q, va_A wc sz q → va_A Wd sz q := by
  intro q h
  rcases h with ⟨k, e, h⟩ | h
  · have h1 : (wc.map some)[k]? = some (some (q, e)) := by rw [List.getElem?_map, h]; rfl
    rw [← hC, List.getElem?_map] at h1
    cases h2 : isC[k]? with
    | none => rw [h2] at h1; cases h1
    | some i =>
      rw [h2] at h1
      exact Or.inl ⟨i, e, by simpa using h1⟩
  · exact Or.inr h
theorem pq_Pre.sub {D : va_G} {cI cL : ClassId} {Wd wc : va_W} {sz : Nat} {U : State} (isC : List Nat) (hC : isC.map (fun i => Wd[i]?) = wc.map some) (hnC : va_nd isC = true) (h : pq_Pre D cI cL Wd sz U) : pq_Pre D cI cL wc sz U := by
  obtain ⟨h1, h2, h3, h4, h5⟩ := h
  refine ⟨h1, h2.sub isC (pq_fm hC), h3, h4.sub isC hnC hC, ?_⟩
  refine ⟨h5.1, h5.2.1, fun q hq => ?_, h5.2.2.2⟩
  obtain ⟨t, z, T⟩ := h5.2.2.1 q hq
  exact ⟨t, z.narrow (pq_Asub isC hC), T.narrow (pq_Asub isC hC)⟩
theorem pq_up {D : va_G} {cI cL : ClassId} {Wd wc w1 : va_W} {sz : Nat} {st t : State} (isC isR isN : List Nat) (hC : isC.map (fun i => Wd[i]?) = wc.map some) (hR : isR.map (fun i => Wd[i]?) = (isR.filterMap (fun i => Wd[i]?)).map some) (hnd : va_nd isR = true ∧ ∀ i ∈ isR, i ∉ isC) (hnN : va_nd isN = true) (hN : isN.map (fun i => (isR.filterMap (fun i => Wd[i]?) ++ w1)[i]?) = (isN.filterMap (fun i => (isR.filterMap (fun i => Wd[i]?) ++ w1)[i]?)).map some)
    (hpre : pq_Pre D cI cL Wd sz st) (hpost : pq_Post D (va_A wc sz) w1 () t) (hF : va_F (va_A wc sz) st t) : pq_Post D (va_A Wd sz) (isN.filterMap (fun i => (isR.filterMap (fun i => Wd[i]?) ++ w1)[i]?)) () t ∧ va_F (va_A Wd sz) st t := by
  obtain ⟨h1, h2, h3, h4, h5⟩ := hpre
  subst h1
  have hD0 := h4.self (sz := st.heap.size)
  have hFc := pq_Asub (sz := st.heap.size) isC hC
  obtain ⟨hP, hD⟩ := va_join (A0 := va_A Wd st.heap.size) (wr := isR.filterMap (fun i => Wd[i]?)) (w1 := w1) h2 hD0 isC isR hC hR hnd.1 hnd.2 (fun q g1 g2 => hF.2 q g1 g2) hFc hpost.1 hpost.2
  exact ⟨⟨hP.sub isN rfl, hD.sub isN hnN hN⟩, hF.1, fun q g1 g2 => hF.2 q g1 (fun h => g2 (hFc q h))⟩
theorem pq_CI.up {l : Launch} {y : MethodName} {ws : List Cond} {fr lo : Nat} {D : va_G} {cI cL : ClassId} {As : List Value} {Wd wc w1 : va_W} {r : Int32} (hM : pq_CI l y ws fr lo D cI cL As wc w1 r) (isC isR isN : List Nat) (hC : isC.map (fun i => Wd[i]?) = wc.map some) (hR : isR.map (fun i => Wd[i]?) = (isR.filterMap (fun i => Wd[i]?)).map some) (hnC : va_nd isC = true) (hnd : va_nd isR = true ∧ ∀ i ∈ isR, i ∉ isC) (hnN : va_nd isN = true) (hN : isN.map (fun i => (isR.filterMap (fun i => Wd[i]?) ++ w1)[i]?) = (isN.filterMap (fun i => (isR.filterMap (fun i => Wd[i]?) ++ w1)[i]?)).map some) :
    pq_CI l y ws fr lo D cI cL As Wd (isN.filterMap (fun i => (isR.filterMap (fun i => Wd[i]?) ++ w1)[i]?)) r := by
  intro sz
  refine pq_weak (hM sz) (fun a s h => ⟨h.1, h.2.sub isC hC hnC⟩) (fun a s o t h q => ?_) (pq_Asub isC hC)
  obtain ⟨⟨r1, u, h1, h2, h3⟩, hF⟩ := q
  obtain ⟨h4, h5⟩ := pq_up isC isR isN hC hR hnd hnN hN h.2 h3 hF
  exact ⟨⟨r1, u, h1, h2, h4⟩, h5⟩
def pq_CC (l : Launch) (y : MethodName) (ws : List Cond) (fr lo mc ms : Nat) (D : va_G) (cI cL : ClassId) (h0 : Nat) (W0 : va_W) (Wn : (Nat → Nat) → va_W) : Prop :=
  ∀ sz, Met l y ws { frames := fr, cells := mc, slots := ms, locals := lo } (va_Pc [.ref h0] (pq_Pre D cI cL W0 sz)) (va_Qv (fun (_ : Unit) => True) (fun _ t => ∃ as : Nat → Nat, pq_Post D (va_A W0 sz) (Wn as) () t) (va_A W0 sz)) mc ms (va_A W0 sz)
section PQN
variable {p : Program} {l : Launch} {e : Env} {R : Room} {s : State} {m : MethodId} {args : Array Value} {below : List Frame} {meth : Method} {c : Code} {H : Heap} {locs : List Loc} {cells slots : Nat} {Q : State → Prop}
variable {cc : ByteArray} {pc : Nat} {ls : Array Slot} {rest st0 : List Value} {D : va_G} {A : Nat → Prop} {a nL : Nat} {Wd wc w1 : va_W} {Ts : List Cond} {own : String} {cI cL : ClassId}
set_option maxHeartbeats 1000000 in
theorem pq_mkC {y : MethodName} {ws ws' : List Cond} {maxL fr lo mc ms h0 : Nat} {W0 : va_W} {Wn : (Nat → Nat) → va_W} (hy : plainName y.cls = true) (hw : ws = Cond.code y cc maxL none :: ws') (hlen : (lg_sl [.ref h0]).length ≤ maxL)
    (body : ∀ (p : Program) (e : Env) (s : State) (m : MethodId) (args : Array Value) (below : List Frame) (meth : Method) (c : Code) (Q : State → Prop) (A : Nat → Prop), pq_Cx p c m cc maxL s args ws y.cls D cI cL A → pq_H D A s W0 s.heap [] → meth.name = y.name →
      (∀ (H : Heap) (locs : List Loc) (pc : Nat) (ls : Array Slot) (as : Nat → Nat), pq_H D A s (Wn as) H locs → decode cc pc = .ok (.return_, 1) → W p l e { frames := fr, cells := mc, slots := ms, locals := lo } s m args below meth c H locs mc ms Q (F0 m pc ls [])) →
      ∀ ls : Array Slot, lv_has ls maxL (lv_args 0 [.ref h0]) → W p l e { frames := fr, cells := mc, slots := ms, locals := lo } s m args below meth c s.heap [] 0 0 Q (F0 m 0 ls [])) : pq_CC l y ws fr lo mc ms D cI cL h0 W0 Wn := by
  intro sz
  refine Met.ofW (cc := cc) (maxL := maxL) (ret := none) hy hw ?_
  intro p e s m args below meth c s₁ B hml hv
  obtain ⟨rfl, hsz, hP, hK, hD0, hG⟩ := hv
  have hx := B.exec
  have hb := B.bytes
  have hr := B.returns
  have hts := atoms_spec (ws := ws) B.pre
  have hown : s.vm.findClass y.cls = some m.cls := findClass_of_methodNamed B.named
  have hlocks := B.notSynchronized
  subst hsz
  have hD := hD0.self (sz := s.heap.size)
  generalize hAe : va_A W0 s.heap.size = A at hD hG ⊢
  have hA : ∀ q : Nat, s.heap.size ≤ q → A q := fun q h => by rw [← hAe]; exact Or.inr h
  have hl := lv_entry [.ref h0] (n := maxL) hlen
  rw [lg_entry_eq]
  generalize (lg_sl [.ref h0] ++ List.replicate (maxL - (lg_sl [.ref h0]).length) Slot.unset).toArray = ls at hl ⊢
  exact body p e s m _ below meth c _ A ⟨hx, hb, hml, hown, hts, hK, hG, hA⟩ ⟨hP, hD, va_S.rf⟩ (name_of_methodNamed B.named B.method).1 (fun H locs pc ls as hh hd => W.vret hx hb hr (fun t ht hW => ⟨⟨(), rfl, trivial, as, by rw [ht]; exact hh.1, hh.2.1⟩, hh.2.2.F ht⟩) hh.2.2.2.2 hd) ls hl
theorem pq_new (C : pq_Cx p c m cc nL s args Ts own D cI cL A) (hh : pq_H D A s Wd H locs) {K : String} {T : u_T} {N ci index : Nat} (hin : ∀ w ∈ u_ws K T N, w ∈ Ts) (ty : Nat → FieldType) (hty : ∀ k, k < N → parseFieldDescriptor (T k).2.2.1 = some (ty k)) (hcl : (Cond.classLink own index K).before args s = true) (hinst : (Cond.instantiable K N).before args s = true) (hini : (Cond.initialized K).before args s = true) (hc : vwCl[ci]? = some (K, T, N)) {fs : List Value} (hfs : ∀ j, j < N → defaultValue (ty j) = vp_V fs j) (hcells : cells + 1 ≤ R.cells) (hslots : slots + N ≤ R.slots) (hdg : decode cc pc = .ok (.new index, 3))
    (kk : ∀ (q : Nat) (H1 : Heap), pq_H D A s (Wd ++ [(q, .inr (ci, fs))]) H1 locs → W p l e R s m args below meth c H1 locs (cells + 1) (slots + N) Q (F0 m (pc + 3) ls (.ref q :: rest))) : W p l e R s m args below meth c H locs cells slots Q (F0 m pc ls rest) :=
  va_new C.1 C.2.1 C.2.2.2.2.1 hin ty hty C.2.2.2.1 hcl hinst hini C.2.2.2.2.2.1 hh.1 hh.2.1 hh.2.2 C.2.2.2.2.2.2.2 hc hfs hcells hslots hdg (fun q H1 h1 h2 h3 => kk q H1 ⟨h1, h2, h3⟩)
theorem pq_newa (C : pq_Cx p c m cc nL s args Ts own D cI cL A) (hh : pq_H D A s Wd H locs) (harr : (Cond.arrayClass .int).before args s = true) {n : Int32} {N : Nat} (hn : ¬ n < 0) (hN : n.toNatClampNeg = N) (hbytes : N * 4 ≤ 536870912) (hcells : cells + 1 ≤ R.cells) (hslots : slots + N ≤ R.slots) (hdg : decode cc pc = .ok (.newarray .int, 2))
    (kk : ∀ (q : Nat) (H1 : Heap), pq_H D A s (Wd ++ [(q, .inl (cI, N, .inl (fun _ => 0)))]) H1 locs → W p l e R s m args below meth c H1 locs (cells + 1) (slots + N) Q (F0 m (pc + 2) ls (.ref q :: rest))) : W p l e R s m args below meth c H locs cells slots Q (F0 m pc ls (.int n :: rest)) := by
  refine va_newa (atype := .int) (ty := .int) (a0 := (N, .inl (fun _ => 0))) C.1 C.2.1 harr rfl C.2.2.2.2.2.1 hh.1 hh.2.1 hh.2.2 C.2.2.2.2.2.2.2 (fun _ => rfl) hn hN hbytes hcells hslots hdg (fun q cA H1 hK h1 h2 h3 => ?_)
  have e1 : s.vm.findClass ("[" ++ FieldType.int.toString) = some cI := (C.2.2.2.2.2.1.2 0 _ rfl).2
  have e2 : s.vm.findClass ("[" ++ FieldType.int.toString) = some cA := (hK.2 2 _ rfl).2
  obtain rfl : cI = cA := Option.some.inj (e1.symm.trans e2)
  exact kk q H1 ⟨h1, h2, h3⟩
theorem pq_newq (C : pq_Cx p c m cc nL s args Ts own D cI cL A) (hh : pq_H D A s Wd H locs) {index : Nat} (hcl : (Cond.classLink own index RX4).before args s = true) {n : Int32} {N : Nat} (hn : ¬ n < 0) (hN : n.toNatClampNeg = N) (hbytes : N * 4 ≤ 536870912) (hcells : cells + 1 ≤ R.cells) (hslots : slots + N ≤ R.slots) (hdg : decode cc pc = .ok (.anewarray index, 3))
    (kk : ∀ (q : Nat) (H1 : Heap), pq_H D A s (Wd ++ [(q, .inl (cL, N, .inr (.inr (.inr (.inr (fun _ => none))))))]) H1 locs → W p l e R s m args below meth c H1 locs (cells + 1) (slots + N) Q (F0 m (pc + 3) ls (.ref q :: rest))) : W p l e R s m args below meth c H locs cells slots Q (F0 m pc ls (.int n :: rest)) := by
  refine va_newq (C := RX4) C.1 C.2.1 C.2.2.2.1 hcl C.2.2.2.2.2.2.1.2.2.2 C.2.2.2.2.2.1 hh.1 hh.2.1 hh.2.2 C.2.2.2.2.2.2.2 hn hN hbytes hcells hslots hdg (fun q cA H1 hK h1 h2 h3 => ?_)
  obtain ⟨kA, comp, a1, a2, a3, a4⟩ := (C.2.2.2.2.2.1.2 1 _ rfl).2
  obtain ⟨kA', comp', b1, b2, b3, b4⟩ := (hK.2 2 _ rfl).2
  obtain rfl : cL = cA := Option.some.inj (a4.symm.trans b4)
  exact kk q H1 ⟨h1, h2, h3⟩
end PQN
theorem pq_vin {i : Int32} {n : Nat} (h : decide (i < 0 ∨ n ≤ i.toNatClampNeg) = false) : vp_in i n := of_decide_eq_false h
theorem pq_lastg {α : Type} (l : List α) (x : α) : (l ++ [x])[l.length]? = some x := by simp
theorem pq_lasts {α : Type} (l : List α) (x y : α) : (l ++ [x]).set l.length y = l ++ [y] := by simp
section PQO
variable {p : Program} {l : Launch} {e : Env} {R : Room} {s : State} {m : MethodId} {args : Array Value} {below : List Frame} {meth : Method} {c : Code} {H : Heap} {locs : List Loc} {cells slots : Nat} {Q : State → Prop}
variable {cc : ByteArray} {pc : Nat} {ls : Array Slot} {rest st0 : List Value} {D : va_G} {A : Nat → Prop} {a nL : Nat} {Wd wc : va_W} {Ts : List Cond} {own : String} {cI cL : ClassId}
theorem pq_iastL (C : pq_Cx p c m cc nL s args Ts own D cI cL A) {n : Nat} {f : Nat → Int32} (hh : pq_H D A s (Wd ++ [(a, .inl (cI, n, .inl f))]) H locs) {i x : Int32} (hin : vp_in i n) (hdg : decode cc pc = .ok (.iastore, 1))
    (kk : ∀ (H1 : Heap) (locs1 : List Loc), pq_H D A s (Wd ++ [(a, .inl (cI, n, .inl (upd f i.toNatClampNeg x)))]) H1 locs1 → W p l e R s m args below meth c H1 locs1 cells slots Q (F0 m (pc + 1) ls rest)) : W p l e R s m args below meth c H locs cells slots Q (F0 m pc ls (.int x :: .int i :: .ref a :: rest)) := by
  refine pq_iast C hh Wd.length (pq_lastg _ _) hin hdg (fun H1 locs1 f1 e1 hh1 => ?_)
  rw [pq_lasts] at hh1
  subst e1
  exact kk H1 locs1 hh1
theorem pq_putF (C : pq_Cx p c m cc nL s args Ts own D cI cL A) (hh : pq_H D A s Wd H locs) {ref K : String} {T : u_T} {N index : Nat} (hin : ∀ w ∈ u_ws K T N, w ∈ Ts) (ty0 : Nat → FieldType) (hty : ∀ k, k < N → parseFieldDescriptor (T k).2.2.1 = some (ty0 k)) (hnm : ∀ a, a < N → ∀ b, b < N → a ≠ b → (T a).2.1 ≠ (T b).2.1) (q0 ci : Nat) {fs : List Value} (he : Wd[q0]? = some (a, .inr (ci, fs))) (hc : vwCl[ci]? = some (K, T, N)) (k : Nat) (hk : k < N) (hlink : (Cond.fieldLink own index ref (T k).2.1 (T k).2.2.1).before args s = true) (hsame : (T k).1 = ref) (hfin : (T k).2.2.2 = true) (hin2 : meth.name = "<init>") (hdecl : (T k).1 = own) {ty : FieldType} {v : Value} (hd : parseFieldDescriptor (T k).2.2.1 = some ty) (hn : narrow ty v = v) (hfit : fits ty v = true) (hl : k < fs.length) (hdg : decode cc pc = .ok (.putfield index, 3))
    (kk : ∀ (H1 : Heap) (locs1 : List Loc), pq_H D A s (Wd.set q0 (a, .inr (ci, fs.set k v))) H1 locs1 → W p l e R s m args below meth c H1 locs1 cells slots Q (F0 m (pc + 3) ls rest)) : W p l e R s m args below meth c H locs cells slots Q (F0 m pc ls (v :: .ref a :: rest)) :=
  va_putF C.1 C.2.1 C.2.2.2.2.1 hin ty0 hty hnm C.2.2.2.1 C.2.2.2.2.2.1 hh.1 hh.2.1 hh.2.2 q0 he hc k hk hlink (fun x h => by rw [← hsame]; exact h) hfin hin2 hdecl hd hn hfit hl hdg (fun H1 locs1 h1 h2 h3 => kk H1 locs1 ⟨h1, h2, h3⟩)
theorem pq_aast (C : pq_Cx p c m cc nL s args Ts own D cI cL A) (hh : pq_H D A s Wd H locs) (q0 qk : Nat) {v : Nat} {vs : List Value} {f : Nat → Option Nat} (ha : Wd[q0]? = some (a, .inl (cL, 4, .inr (.inr (.inr (.inr f)))))) (hv : Wd[qk]? = some (v, .inr (3, vs))) {i : Int32} (hin : vp_in i 4) (hdg : decode cc pc = .ok (.aastore, 1))
    (kk : ∀ (H1 : Heap) (locs1 : List Loc), pq_H D A s (Wd.set q0 (a, .inl (cL, 4, .inr (.inr (.inr (.inr (va_up f i.toNatClampNeg (some v)))))))) H1 locs1 → W p l e R s m args below meth c H1 locs1 cells slots Q (F0 m (pc + 1) ls rest)) : W p l e R s m args below meth c H locs cells slots Q (F0 m pc ls (.ref v :: .int i :: .ref a :: rest)) :=
  va_astq (r := (RX4, TX4, 5)) C.1 C.2.1 C.2.2.2.2.2.1 hh.1 hh.2.1 hh.2.2 q0 1 qk 3 ha rfl hv rfl hin hdg (fun H1 locs1 h1 h2 h3 => kk H1 locs1 ⟨h1, h2, h3⟩)
variable {y : MethodName} {ws ws' : List Cond} {fr lo n index maxL mc ms : Nat} {K : String} {bytes : ByteArray} {b : Addr} {Wn : (Nat → Nat) → va_W}
theorem pq_callC {a0 : Array Value} (C : pq_Cx p c m cc nL s args Ts own D cI cL A) (hh : pq_H D A s Wd H locs) (isC isR isN : List Nat) (hC : isC.map (fun i => Wd[i]?) = wc.map some) (hR : isR.map (fun i => Wd[i]?) = (isR.filterMap (fun i => Wd[i]?)).map some) (hnd : va_nd isR = true ∧ ∀ i ∈ isR, i ∉ isC) (hnN : va_nd isN = true) (hN : ∀ as, isN.map (fun i => (isR.filterMap (fun i => Wd[i]?) ++ Wn as)[i]?) = (isN.filterMap (fun i => (isR.filterMap (fun i => Wd[i]?) ++ Wn as)[i]?)).map some)
    (hr : va_Run p l e R s m args below meth c H locs cells slots mc ms (F0 m pc ls st0) rest (va_Qv (fun (_ : Unit) => True) (fun _ t => ∃ as : Nat → Nat, pq_Post D (va_A wc H.size) (Wn as) () t) (va_A wc H.size) a0) (va_A wc H.size))
    (kk : ∀ (H1 : Heap) (locs1 : List Loc) (as : Nat → Nat), pq_H D A s (isN.filterMap (fun i => (isR.filterMap (fun i => Wd[i]?) ++ Wn as)[i]?)) H1 locs1 → W p l e R s m args below meth c H1 locs1 (cells + mc) (slots + ms) Q (F0 m (pc + 3) ls rest)) : W p l e R s m args below meth c H locs cells slots Q (F0 m pc ls st0) := by
  have hFc := va_free hh.2.1 hh.2.2 C.2.2.2.2.2.2.2 isC hC
  refine va_callv hr hh.2.2 (fun q _ h => hFc q h) hFc (fun u t H1 locs1 ht hvm hw hB hz1 hk1 hS => ?_)
  obtain ⟨as, hP1, hD1⟩ := hB
  rw [ht] at hP1
  exact kk H1 locs1 as (pq_aft C hh isC isR isN hC hR hnd.1 hnd.2 hnN (hN as) hk1 hP1 hD1 hS)
theorem pq_cnC {host : String} (C : pq_Cx p c m cc nL s args Ts own D cI cL A) (hh : pq_H D A s Wd H locs) (hM : pq_CC l y ws fr lo mc ms D cI cL b wc Wn) (hT : GoodIn Ts ws) (hw : ws = Cond.code y bytes maxL none :: ws') (hlk : (own, index, y, host) ∈ pq_nestM) (hy : y.name = "<init>") (hinst : (Cond.instanceMethod y).before args s = true) (hini : (Cond.initialized y.cls).before args s = true) (hd : y.cls ≠ "java/lang/invoke/MethodHandle" ∧ y.cls ≠ "java/lang/invoke/VarHandle" ∧ (parseMethodDescriptor y.desc).map (fun d => d.parameters.length) = some 0) (hRm : fr + 1 ≤ R.frames ∧ 8 + (maxL + 11) + lo ≤ R.locals)
    (hsz : ls.size = nL) (hst : st0 = .ref b :: rest) (hWr : (rest.map fun v => v.category).sum ≤ 8) (hdg : decode cc pc = .ok (.invokespecial index, 3)) (hcs : cells + mc ≤ R.cells ∧ slots + ms ≤ R.slots)
    (isC isR isN : List Nat) (hC : isC.map (fun i => Wd[i]?) = wc.map some) (hR : isR.map (fun i => Wd[i]?) = (isR.filterMap (fun i => Wd[i]?)).map some) (hnC : va_nd isC = true) (hnd : va_nd isR = true ∧ ∀ i ∈ isR, i ∉ isC) (hnN : va_nd isN = true) (hN : ∀ as, isN.map (fun i => (isR.filterMap (fun i => Wd[i]?) ++ Wn as)[i]?) = (isN.filterMap (fun i => (isR.filterMap (fun i => Wd[i]?) ++ Wn as)[i]?)).map some)
    (kk : ∀ (H1 : Heap) (locs1 : List Loc) (as : Nat → Nat), pq_H D A s (isN.filterMap (fun i => (isR.filterMap (fun i => Wd[i]?) ++ Wn as)[i]?)) H1 locs1 → W p l e R s m args below meth c H1 locs1 (cells + mc) (slots + ms) Q (F0 m (pc + 3) ls rest)) : W p l e R s m args below meth c H locs cells slots Q (F0 m pc ls st0) :=
  pq_callC C hh isC isR isN hC hR hnd hnN hN (va_runIN (host := host) (As := []) (rest := rest) ⟨C.1, C.2.1, C.2.2.1, C.2.2.2.1, C.2.2.2.2.1⟩ (hM H.size) ⟨va_cnB 0 C.2.2.2.2.1 hT hw rfl rfl (C.2.2.2.2.2.2.1.1 _ hlk) hini hd hRm, hy, hinst⟩ ⟨pq_blind, pq_pre C hh isC hC hnC⟩ rfl rfl hsz hst (lv_room hWr) hdg hcs) kk
theorem pq_ciC (C : pq_Cx p c m cc nL s args Ts own D cI cL A) (hh : pq_H D A s Wd H locs) (hM : pq_CC l y ws fr lo mc ms D cI cL b wc Wn) (hT : GoodIn Ts ws) (hw : ws = Cond.code y bytes maxL none :: ws') (hlk : (Cond.methodLink own index y).before args s = true) (hy : y.name = "<init>") (hinst : (Cond.instanceMethod y).before args s = true) (hini : (Cond.initialized y.cls).before args s = true) (hd : y.cls ≠ "java/lang/invoke/MethodHandle" ∧ y.cls ≠ "java/lang/invoke/VarHandle" ∧ (parseMethodDescriptor y.desc).map (fun d => d.parameters.length) = some 0) (hRm : fr + 1 ≤ R.frames ∧ 8 + (maxL + 11) + lo ≤ R.locals)
    (hsz : ls.size = nL) (hst : st0 = .ref b :: rest) (hWr : (rest.map fun v => v.category).sum ≤ 8) (hdg : decode cc pc = .ok (.invokespecial index, 3)) (hcs : cells + mc ≤ R.cells ∧ slots + ms ≤ R.slots)
    (isC isR isN : List Nat) (hC : isC.map (fun i => Wd[i]?) = wc.map some) (hR : isR.map (fun i => Wd[i]?) = (isR.filterMap (fun i => Wd[i]?)).map some) (hnC : va_nd isC = true) (hnd : va_nd isR = true ∧ ∀ i ∈ isR, i ∉ isC) (hnN : va_nd isN = true) (hN : ∀ as, isN.map (fun i => (isR.filterMap (fun i => Wd[i]?) ++ Wn as)[i]?) = (isN.filterMap (fun i => (isR.filterMap (fun i => Wd[i]?) ++ Wn as)[i]?)).map some)
    (kk : ∀ (H1 : Heap) (locs1 : List Loc) (as : Nat → Nat), pq_H D A s (isN.filterMap (fun i => (isR.filterMap (fun i => Wd[i]?) ++ Wn as)[i]?)) H1 locs1 → W p l e R s m args below meth c H1 locs1 (cells + mc) (slots + ms) Q (F0 m (pc + 3) ls rest)) : W p l e R s m args below meth c H locs cells slots Q (F0 m pc ls st0) :=
  pq_callC C hh isC isR isN hC hR hnd hnN hN (va_runI (As := []) (rest := rest) ⟨C.1, C.2.1, C.2.2.1, C.2.2.2.1, C.2.2.2.2.1⟩ (hM H.size) (cwI 0 C.2.2.2.2.1 hT hw rfl rfl hini hlk hinst hy hd hRm) ⟨pq_blind, pq_pre C hh isC hC hnC⟩ rfl rfl hsz hst (lv_room hWr) hdg hcs) kk
end PQO
