/-- what is owed of the pure programs: from related states every call answers alike, and leaves related states -/
def st_open (Rel : dk_S → md_S → Prop) : Prop := ∀ (S : dk_S) (M : md_S) (a1 a2 : Int32), Rel S M → ∃ (r : Int32) (S1 : dk_S) (M1 : md_S), DX6_open a1 a2 S = some (r, S1) ∧ MX7_open a1 a2 M = some (r, M1) ∧ Rel S1 M1
def st_kind (Rel : dk_S → md_S → Prop) : Prop := ∀ (S : dk_S) (M : md_S) (a1 : Int32), Rel S M → ∃ (r : Int32) (S1 : dk_S) (M1 : md_S), DX6_kind a1 S = some (r, S1) ∧ MX7_kind a1 M = some (r, M1) ∧ Rel S1 M1
def st_say (Rel : dk_S → md_S → Prop) : Prop := ∀ (S : dk_S) (M : md_S) (a1 a2 : Int32), Rel S M → ∃ (r : Int32) (S1 : dk_S) (M1 : md_S), DX6_say a1 a2 S = some (r, S1) ∧ MX7_say a1 a2 M = some (r, M1) ∧ Rel S1 M1
def st_pair (Rel : dk_S → md_S → Prop) : Prop := ∀ (S : dk_S) (M : md_S) (a1 a2 a3 : Int32), Rel S M → ∃ (r : Int32) (S1 : dk_S) (M1 : md_S), DX6_pair a1 a2 a3 S = some (r, S1) ∧ MX7_pair a1 a2 a3 M = some (r, M1) ∧ Rel S1 M1
def st_hear (Rel : dk_S → md_S → Prop) : Prop := ∀ (S : dk_S) (M : md_S) (a1 a2 : Int32), Rel S M → ∃ (r : Int32) (S1 : dk_S) (M1 : md_S), DX6_hear a1 a2 S = some (r, S1) ∧ MX7_hear a1 a2 M = some (r, M1) ∧ Rel S1 M1
def st_second (Rel : dk_S → md_S → Prop) : Prop := ∀ (S : dk_S) (M : md_S) (a1 : Int32), Rel S M → ∃ (r : Int32) (S1 : dk_S) (M1 : md_S), DX6_second a1 S = some (r, S1) ∧ MX7_second a1 M = some (r, M1) ∧ Rel S1 M1
def st_inner (Rel : dk_S → md_S → Prop) : Prop := ∀ (S : dk_S) (M : md_S) (a1 a2 a3 : Int32), Rel S M → ∃ (r : Int32) (S1 : dk_S) (M1 : md_S), DX6_inner a1 a2 a3 S = some (r, S1) ∧ MX7_inner a1 a2 a3 M = some (r, M1) ∧ Rel S1 M1
def st_feed (Rel : dk_S → md_S → Prop) : Prop := ∀ (S : dk_S) (M : md_S) (a1 a2 a3 a4 a5 : Int32), Rel S M → ∃ (r : Int32) (S1 : dk_S) (M1 : md_S), DX6_feed a1 a2 a3 a4 a5 S = some (r, S1) ∧ MX7_feed a1 a2 a3 a4 a5 M = some (r, M1) ∧ Rel S1 M1
def st_end (Rel : dk_S → md_S → Prop) : Prop := ∀ (S : dk_S) (M : md_S) (a1 : Int32), Rel S M → ∃ (r : Int32) (S1 : dk_S) (M1 : md_S), DX6_end a1 S = some (r, S1) ∧ MX7_end a1 M = some (r, M1) ∧ Rel S1 M1
def st_take (Rel : dk_S → md_S → Prop) : Prop := ∀ (S : dk_S) (M : md_S), Rel S M → ∃ (r : Int32) (S1 : dk_S) (M1 : md_S), DX6_take  S = some (r, S1) ∧ MX7_take  M = some (r, M1) ∧ Rel S1 M1
def st_out (Rel : dk_S → md_S → Prop) : Prop := ∀ (S : dk_S) (M : md_S) (a1 : Int32), Rel S M → ∃ (r : Int32) (S1 : dk_S) (M1 : md_S), DX6_out a1 S = some (r, S1) ∧ MX7_out a1 M = some (r, M1) ∧ Rel S1 M1
def st_pack (Rel : dk_S → md_S → Prop) : Prop := ∀ (S : dk_S) (M : md_S) (a1 a2 : Int32), Rel S M → ∃ (r : Int32) (S1 : dk_S) (M1 : md_S), DX6_pack a1 a2 S = some (r, S1) ∧ MX7_pack a1 a2 M = some (r, M1) ∧ Rel S1 M1
def st_unpack (Rel : dk_S → md_S → Prop) : Prop := ∀ (S : dk_S) (M : md_S) (a1 a2 a3 : Int32), Rel S M → ∃ (r : Int32) (S1 : dk_S) (M1 : md_S), DX6_unpack a1 a2 a3 S = some (r, S1) ∧ MX7_unpack a1 a2 a3 M = some (r, M1) ∧ Rel S1 M1
def st_pass (Rel : dk_S → md_S → Prop) : Prop := ∀ (S : dk_S) (M : md_S) (a1 a2 a3 : Int32), Rel S M → ∃ (r : Int32) (S1 : dk_S) (M1 : md_S), DX6_pass a1 a2 a3 S = some (r, S1) ∧ MX7_pass a1 a2 a3 M = some (r, M1) ∧ Rel S1 M1
def st_law (Rel : dk_S → md_S → Prop) : Prop := ∀ (S : dk_S) (M : md_S) (a1 a2 a3 : Int32), Rel S M → ∃ (r : Int32) (S1 : dk_S) (M1 : md_S), DX6_law a1 a2 a3 S = some (r, S1) ∧ MX7_law a1 a2 a3 M = some (r, M1) ∧ Rel S1 M1
def st_all (Rel : dk_S → md_S → Prop) : Prop := st_open Rel ∧ st_kind Rel ∧ st_say Rel ∧ st_pair Rel ∧ st_hear Rel ∧ st_second Rel ∧ st_inner Rel ∧ st_feed Rel ∧ st_end Rel ∧ st_take Rel ∧ st_out Rel ∧ st_pack Rel ∧ st_unpack Rel ∧ st_pass Rel ∧ st_law Rel
/-! THE CLAIM OUT OF ONE WALK OF THE LAW'S BODY. Your part is whole_start (and what it stands on); all else here is the same for every law, but numbers. -/
def R_law : String := "VoiceDeskLaw"
def lw_P (b : Addr) (xs : List Int32) (args : Array Value) (s : State) : Prop := args = #[.ref b] ∧ s.IntsAt b xs ∧ xs.length ≤ 3072 ∧ (Jvm.Cond.and given_1 narrow_1).before args s = true
def lw_Q (_ : Array Value) (s : State) (o : Outcome) (t : State) : Prop := o = .returned (some (.int 1)) ∧ Framed s o t [] 600000 7302249
def lw_Z (below : List Frame) (a : Array Value) (s : State) : State → Prop := fun t => ∃ o, t.status = .running ∧ Ended t below o ∧ lw_Q a s o t
/-- the law's own end, with 1 on the stack, nothing written that was there before, its room as the claim has it -/
theorem lw_ret {p : Program} {l : Launch} {e : Env} {s : State} {m : MethodId} {below : List Frame} {meth : Method} {c : Code} {b : Nat} (hx : p.tables.exec = Jvm.exec) (hb : c.code = code) (hr : meth.sig.returnType = ret) (hlocks : meth.locks = false) {pc : Nat} {H : Heap} {ls : Array Slot} (hdg : decode code pc = .ok (.ireturn, 1)) : W p l e room_1 s m #[Value.ref b] below meth c H [] 600000 7302249 (lw_Z below #[Value.ref b] s) (F0 m pc ls [.int 1]) := by
  intro T hT X
  obtain ⟨fs, hret, hrun, hended, hW, hframe⟩ := X.leave (v := some (.int 1)) (hlocks := hlocks) (fun h => by rw [hr] at h; cases h)
  have hmeth' : T.vm.method? m = some meth := X.method'
  refine ⟨T.setFrames fs, ?_, .returned (some (.int 1)), hrun, hended, rfl, ⟨_, rfl⟩, hW, hframe⟩
  jvm_step X.here [X.here.top, hx, hb, hdg, hmeth', hr, ret, narrow_b1]
  (try refine ⟨rfl, ?_⟩); (try refine ⟨rfl, ?_⟩)
  first | (intro acts; rw [hret _ acts rfl rfl rfl]) | rw [hret _ _ rfl rfl rfl]
  exact Steps.refl _
/-- what holds at the law's entry: the machine, the code, the tables' words (any of lw_tbl by 'hts w (by decide +kernel)'), the script of L ints xs at the cell b, what the Statement gives of the start (any of its parts by flat_of_before) -/
def lw_At (p : Program) (s : State) (m : MethodId) (meth : Method) (c : Code) (b L : Nat) (xs : Nat → Int32) : Prop :=
  p.tables.exec = Jvm.exec ∧ c.code = code ∧ meth.sig.returnType = ret ∧ c.maxLocals = 4 ∧ s.vm.findClass R_law = some m.cls ∧ (∀ w ∈ lw_tbl, w.before #[Value.ref b] s = true) ∧ va_X b L xs s s.heap ∧ b < s.heap.size ∧ meth.locks = false ∧ (Jvm.Cond.and given_1 narrow_1).before #[Value.ref b] s = true
section PQL
variable {p : Program} {l : Launch} {e : Env} {R : Room} {s : State} {m : MethodId} {args : Array Value} {below : List Frame} {meth : Method} {c : Code} {H : Heap} {locs : List Loc} {cells slots : Nat} {Q : State → Prop}
variable {cc : ByteArray} {pc : Nat} {ls : Array Slot} {rest st0 : List Value} {D : va_G} {A : Nat → Prop} {nL : Nat} {wc w1 wr : va_W} {Ts : List Cond} {own : String} {cI cL : ClassId}
variable {y : MethodName} {ws ws' : List Cond} {fr lo n index maxL : Nat} {K : String} {bytes : ByteArray} {ret : Option FieldType} {r : Int32} {b : Addr} {As : List Value}
/-- a call on the first of two worlds: it stands last behind it -/
theorem pq_cvIL (C : pq_Cx p c m cc nL s args Ts own D cI cL A) (hh : pq_H D A s (wc ++ wr) H locs) (hM : pq_CI l y ws fr lo D cI cL (.ref b :: As) wc w1 r) (hT : GoodIn Ts (wsV own index K y ws)) (hw : ws = Cond.code y bytes maxL ret :: ws') (hd : y.cls = K ∧ y.cls ≠ "java/lang/invoke/MethodHandle" ∧ y.cls ≠ "java/lang/invoke/VarHandle" ∧ (parseMethodDescriptor y.desc).map (fun d => d.parameters.length) = some n) (hRm : fr + 1 ≤ R.frames ∧ 8 + (maxL + 11) + lo ≤ R.locals)
    (q0 ci : Nat) {fs : List Value} {qv : vw_C} (he : (wc ++ wr)[q0]? = some (b, .inr (ci, fs))) (hc : vwCl[ci]? = some qv) (hq : qv.1 = K) (hsz : ls.size = nL) (hlen : As.length = n) (hst : st0 = As.reverse ++ .ref b :: rest) (hWr : (rest.map fun v => v.category).sum ≤ 8) (hdg : decode cc pc = .ok (.invokevirtual index, 3)) (hcs : cells ≤ R.cells ∧ slots ≤ R.slots)
    (kk : ∀ (H1 : Heap) (locs1 : List Loc), pq_H D A s (wr ++ w1) H1 locs1 → W p l e R s m args below meth c H1 locs1 cells slots Q (F0 m (pc + 3) ls (.int r :: rest))) : W p l e R s m args below meth c H locs cells slots Q (F0 m pc ls st0) := by
  have hC := pq_rangeL wc wr
  have hR := pq_rangeR wc wr
  have hnC : va_nd (List.range wc.length) = true := pq_ndR _ List.nodup_range
  have hnR := pq_ndS wr.length wc.length
  have hdis : ∀ i ∈ (List.range wr.length).map (fun i => wc.length + i), i ∉ List.range wc.length := pq_disS
  have hFc := va_free hh.2.1 hh.2.2 C.2.2.2.2.2.2.2 (List.range wc.length) hC
  have hr : va_Run p l e R s m args below meth c H locs cells slots 0 0 (F0 m pc ls st0) rest (va_Qi (fun (r' : Int32) (_ : Unit) => r' = r) (pq_Post D (va_A wc H.size) w1) (va_A wc H.size) (Value.ref b :: As).toArray) (va_A wc H.size) :=
    va_runV (rest := rest) ⟨C.1, C.2.1, C.2.2.1, C.2.2.2.1, C.2.2.2.2.1⟩ (hM H.size) (cwV n C.2.2.2.2.1 hT hw rfl rfl hd hRm) ⟨pq_blind, by rw [← hq]; exact va_recv C.2.2.2.2.2.1 hh.1 hc he, pq_pre C hh (List.range wc.length) hC hnC⟩ rfl hlen hsz hst (lv_room hWr) hdg hcs
  refine va_calli hr hh.2.2 (fun q _ h => hFc q h) hFc (fun r1 u t H1 locs1 ht hvm hw1 hB hz1 hk1 hS => ?_)
  obtain ⟨hP1, hD1⟩ := hB
  rw [ht] at hP1
  subst hw1
  obtain ⟨hP, hD⟩ := va_join (wr := wr) (w1 := w1) hh.1 hh.2.1 _ _ hC hR hnR hdis hk1 hFc hP1 hD1
  exact kk H1 locs1 ⟨hP, hD, hS⟩
end PQL
theorem pq_vk {a k L : Nat} {c : Int32} (hc : c = nI k) (h : a + k < L) (hL : L < 2 ^ 31) : vp_in (nI a + c) L := by
  rw [hc, nI_add]
  exact vp_in_nI h hL
