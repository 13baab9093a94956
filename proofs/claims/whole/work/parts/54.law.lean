set_option maxHeartbeats 8000000 in
set_option maxRecDepth 100000 in
/-- THE LAW'S LOOP: at its head, t calls read, the class and the reference stand in related states -/
theorem law_loop {p : Program} {l : Launch} {e : Env} {s : State} {m : MethodId} {below : List Frame} {meth : Method} {c : Code} {D : va_G} {cI cL : ClassId} {b L : Nat} {xs : Nat → Int32} {Rel : dk_S → md_S → Prop} (hst : st_all Rel) (hL : L ≤ 3072) (C0 : lw_At p s m meth c b L xs) (C : pq_Cx p c m cL_law 4 s #[Value.ref b] wsL_law RL D cI cL (fun q : Nat => s.heap.size ≤ q)) (x ym : Nat) (as ad : Nat → Nat) :
    ∀ (n t : Nat), 6 * t ≤ L → L < 6 * (t + n) → ∀ (S : dk_S) (M : md_S), Rel S M → ∀ (H : Heap) (locs : List Loc), pq_H D (fun q : Nat => s.heap.size ≤ q) s (wD cI cL x as S ++ wM cI ym ad M) H locs → ∀ (ls : Array Slot), lv_has ls 4 [(0, .ref b), (1, .ref x), (2, .ref ym), (3, .int (nI (6 * t)))] → W p l e room_1 s m #[Value.ref b] below meth c H locs 600000 7302249 (lw_Z below #[Value.ref b] s) (F0 m 18 ls []) := by
  obtain ⟨hx0, hb0, hr, hml0, hown0, hts, hX, hbl, hlocks, hgv⟩ := C0
  have hx := C.1
  have hb := C.2.1
  have hown : s.vm.findClass RL = some m.cls := C.2.2.2.1
  have hs : ∀ w ∈ wsL_law, w ∈ wsL_law := fun _ h => h
  have hbA : ¬ (fun q : Nat => s.heap.size ≤ q) b := Nat.not_le.mpr hbl
  obtain ⟨h_open, h_kind, h_say, h_pair, h_hear, h_second, h_inner, h_feed, h_end, h_take, h_out, h_pack, h_unpack, h_pass, h_law⟩ := hst
  intro n
  induction n with
  | zero =>
    intro t h1 h2
    exact absurd h2 (by omega)
  | succ n ih =>
    intro t ht hn S M hR H locs hh ls hl
    refine lv_iload_n hx hb dL_law_18 rfl (lv_at hl 3 rfl) ?_
    refine lv_aload_n hx hb dL_law_19 rfl (lv_at hl 0 rfl) ?_
    refine va_slen hx hb hX hbl hbA hh.2.2 dL_law_20 ?_
    refine lv_bipush (v := (6 : Int32)) hx hb dL_law_21 (by decide) ?_
    refine lv_isub hx hb dL_law_23 ?_
    have hsub : (Int32.ofNat L - 6).toInt = (L : Int) - 6 := pk_sub_toInt (a := L) (b := 6) (by omega) (by decide)
    refine lv_icmp_gt (tgt := 661) hx hb dL_law_24 (by decide) (fun _ => ?_) (fun hc => ?_)
    · refine lv_iconst (v := 1) hx hb dL_law_661 (by decide) ?_
      refine va_forget (fun q hq => hh.2.2.2.2 q hq) ?_
      exact lw_ret hx0 hb0 hr hlocks dL_law_662
    · have hlt : 6 * t + 6 ≤ L := by
        rw [Int32.lt_iff_toInt_lt, hsub, nI_toInt (by omega)] at hc
        omega
      have i0 : vp_in (nI (6 * t)) L := vp_in_nI (by omega) (by omega)
      have i1 : vp_in (nI (6 * t) + (1 : Int32)) L := pq_vk (k := 1) (by decide) (by omega) (by omega)
      have i2 : vp_in (nI (6 * t) + (2 : Int32)) L := pq_vk (k := 2) (by decide) (by omega) (by omega)
      have i3 : vp_in (nI (6 * t) + (3 : Int32)) L := pq_vk (k := 3) (by decide) (by omega) (by omega)
      have i4 : vp_in (nI (6 * t) + (4 : Int32)) L := pq_vk (k := 4) (by decide) (by omega) (by omega)
      have i5 : vp_in (nI (6 * t) + (5 : Int32)) L := pq_vk (k := 5) (by decide) (by omega) (by omega)
      have fin : ∀ (S : dk_S) (M : md_S), Rel S M → ∀ (H : Heap) (locs : List Loc), pq_H D (fun q : Nat => s.heap.size ≤ q) s (wD cI cL x as S ++ wM cI ym ad M) H locs → ∀ (ls : Array Slot), lv_has ls 4 [(0, .ref b), (1, .ref x), (2, .ref ym), (3, .int (nI (6 * t)))] → W p l e room_1 s m #[Value.ref b] below meth c H locs 600000 7302249 (lw_Z below #[Value.ref b] s) (F0 m 655 ls []) := by
        intro S M hR H locs hh ls hl
        refine lv_iinc (v := nI (6 * (t + 1))) (lv' := [(3, .int (nI (6 * (t + 1)))), (0, .ref b), (1, .ref x), (2, .ref ym)]) hx hb dL_law_655 hl (k := 3) rfl (by show nI (6 * t) + nI 6 = _; rw [nI_add]; rfl) (by decide) rfl (fun ls hl => ?_)
        refine lv_goto (tgt := 18) hx hb dL_law_658 (by decide) ?_
        exact ih (t + 1) (by omega) (by omega) S M hR H locs hh ls (lv_sub hl [1, 2, 3, 0] rfl)
      refine lv_aload_n hx hb dL_law_27 rfl (lv_at hl 0 rfl) ?_
      refine lv_iload_n hx hb dL_law_28 rfl (lv_at hl 3 rfl) ?_
      refine va_sld hx hb hX hbl hbA hh.2.2 i0 dL_law_29 ?_
      refine lv_bipush (v := (15 : Int32)) hx hb dL_law_30 (by decide) ?_
      refine lv_iand hx hb dL_law_32 ?_
      refine lv_topi (fun v ev => ?_)
      by_cases w0 : v = (0 : Int32)
      · refine lv_tableIn (tgt := 108) hx hb dL_law_33 (by rw [w0]; decide) (by rw [w0]; decide) (by rw [w0]; rfl) (by decide) ?_
        refine lv_aload_n hx hb dL_law_108 rfl (lv_at hl 1 rfl) ?_
        refine lv_aload_n hx hb dL_law_109 rfl (lv_at hl 0 rfl) ?_
        refine lv_iload_n hx hb dL_law_110 rfl (lv_at hl 3 rfl) ?_
        refine lv_iconst (v := (1 : Int32)) hx hb dL_law_111 (by decide) ?_
        refine lv_iadd hx hb dL_law_112 ?_
        refine va_sld hx hb hX hbl hbA hh.2.2 i1 dL_law_113 ?_
        refine lv_aload_n hx hb dL_law_114 rfl (lv_at hl 0 rfl) ?_
        refine lv_iload_n hx hb dL_law_115 rfl (lv_at hl 3 rfl) ?_
        refine lv_iconst (v := (2 : Int32)) hx hb dL_law_116 (by decide) ?_
        refine lv_iadd hx hb dL_law_117 ?_
        refine va_sld hx hb hX hbl hbA hh.2.2 i2 dL_law_118 ?_
        obtain ⟨r, S1, M1, hdx, hdm, hR1⟩ := h_open S M (xs (nI (6 * t) + (1 : Int32)).toNatClampNeg) (xs (nI (6 * t) + (2 : Int32)).toNatClampNeg) hR
        refine pq_cvIL (n := 2) (As := [.int (xs (nI (6 * t) + (1 : Int32)).toNatClampNeg), .int (xs (nI (6 * t) + (2 : Int32)).toNatClampNeg)]) (wr := wM cI ym ad M) C hh (kX6_open l D cI cL x as S S1 (xs (nI (6 * t) + (1 : Int32)).toNatClampNeg) (xs (nI (6 * t) + (2 : Int32)).toNatClampNeg) r hdx) (gvX6_open hs (pq_m5 _ (List.mem_of_getElem? (i := 8) rfl))) rfl (by decide +kernel) ⟨by decide, by decide⟩ 0 5 rfl rfl rfl hl.1 rfl rfl (Nat.le_of_ble_eq_true rfl) dL_law_119 ⟨Nat.le_refl _, Nat.le_refl _⟩ (fun H locs hh => ?_)
        refine lv_aload_n hx hb dL_law_122 rfl (lv_at hl 2 rfl) ?_
        refine lv_aload_n hx hb dL_law_123 rfl (lv_at hl 0 rfl) ?_
        refine lv_iload_n hx hb dL_law_124 rfl (lv_at hl 3 rfl) ?_
        refine lv_iconst (v := (1 : Int32)) hx hb dL_law_125 (by decide) ?_
        refine lv_iadd hx hb dL_law_126 ?_
        refine va_sld hx hb hX hbl hbA hh.2.2 i1 dL_law_127 ?_
        refine lv_aload_n hx hb dL_law_128 rfl (lv_at hl 0 rfl) ?_
        refine lv_iload_n hx hb dL_law_129 rfl (lv_at hl 3 rfl) ?_
        refine lv_iconst (v := (2 : Int32)) hx hb dL_law_130 (by decide) ?_
        refine lv_iadd hx hb dL_law_131 ?_
        refine va_sld hx hb hX hbl hbA hh.2.2 i2 dL_law_132 ?_
        refine pq_cvIL (n := 2) (As := [.int (xs (nI (6 * t) + (1 : Int32)).toNatClampNeg), .int (xs (nI (6 * t) + (2 : Int32)).toNatClampNeg)]) (wr := wD cI cL x as S1) C hh (kX7_open l D cI cL ym ad M M1 (xs (nI (6 * t) + (1 : Int32)).toNatClampNeg) (xs (nI (6 * t) + (2 : Int32)).toNatClampNeg) r hdm) (gvX7_open hs (pq_m6 _ (List.mem_of_getElem? (i := 13) rfl))) rfl (by decide +kernel) ⟨by decide, by decide⟩ 0 6 rfl rfl rfl hl.1 rfl rfl (Nat.le_of_ble_eq_true rfl) dL_law_133 ⟨Nat.le_refl _, Nat.le_refl _⟩ (fun H locs hh => ?_)
        refine lv_icmp_eq (tgt := 655) hx hb dL_law_136 (by decide) (fun _ => ?_) (fun h => absurd rfl h)
        exact fin S1 M1 hR1 _ _ hh ls hl
      by_cases w1 : v = (1 : Int32)
      · refine lv_tableIn (tgt := 141) hx hb dL_law_33 (by rw [w1]; decide) (by rw [w1]; decide) (by rw [w1]; rfl) (by decide) ?_
        refine lv_aload_n hx hb dL_law_141 rfl (lv_at hl 1 rfl) ?_
        refine lv_aload_n hx hb dL_law_142 rfl (lv_at hl 0 rfl) ?_
        refine lv_iload_n hx hb dL_law_143 rfl (lv_at hl 3 rfl) ?_
        refine lv_iconst (v := (1 : Int32)) hx hb dL_law_144 (by decide) ?_
        refine lv_iadd hx hb dL_law_145 ?_
        refine va_sld hx hb hX hbl hbA hh.2.2 i1 dL_law_146 ?_
        obtain ⟨r, S1, M1, hdx, hdm, hR1⟩ := h_kind S M (xs (nI (6 * t) + (1 : Int32)).toNatClampNeg) hR
        refine pq_cvIL (n := 1) (As := [.int (xs (nI (6 * t) + (1 : Int32)).toNatClampNeg)]) (wr := wM cI ym ad M) C hh (kX6_kind l D cI cL x as S S1 (xs (nI (6 * t) + (1 : Int32)).toNatClampNeg) r hdx) (gvX6_kind hs (pq_m6 _ (List.mem_of_getElem? (i := 23) rfl))) rfl (by decide +kernel) ⟨by decide, by decide⟩ 0 5 rfl rfl rfl hl.1 rfl rfl (Nat.le_of_ble_eq_true rfl) dL_law_147 ⟨Nat.le_refl _, Nat.le_refl _⟩ (fun H locs hh => ?_)
        refine lv_aload_n hx hb dL_law_150 rfl (lv_at hl 2 rfl) ?_
        refine lv_aload_n hx hb dL_law_151 rfl (lv_at hl 0 rfl) ?_
        refine lv_iload_n hx hb dL_law_152 rfl (lv_at hl 3 rfl) ?_
        refine lv_iconst (v := (1 : Int32)) hx hb dL_law_153 (by decide) ?_
        refine lv_iadd hx hb dL_law_154 ?_
        refine va_sld hx hb hX hbl hbA hh.2.2 i1 dL_law_155 ?_
        refine pq_cvIL (n := 1) (As := [.int (xs (nI (6 * t) + (1 : Int32)).toNatClampNeg)]) (wr := wD cI cL x as S1) C hh (kX7_kind l D cI cL ym ad M M1 (xs (nI (6 * t) + (1 : Int32)).toNatClampNeg) r hdm) (gvX7_kind hs (pq_m7 _ (List.mem_of_getElem? (i := 8) rfl))) rfl (by decide +kernel) ⟨by decide, by decide⟩ 0 6 rfl rfl rfl hl.1 rfl rfl (Nat.le_of_ble_eq_true rfl) dL_law_156 ⟨Nat.le_refl _, Nat.le_refl _⟩ (fun H locs hh => ?_)
        refine lv_icmp_eq (tgt := 655) hx hb dL_law_159 (by decide) (fun _ => ?_) (fun h => absurd rfl h)
        exact fin S1 M1 hR1 _ _ hh ls hl
      by_cases w2 : v = (2 : Int32)
      · refine lv_tableIn (tgt := 164) hx hb dL_law_33 (by rw [w2]; decide) (by rw [w2]; decide) (by rw [w2]; rfl) (by decide) ?_
        refine lv_aload_n hx hb dL_law_164 rfl (lv_at hl 1 rfl) ?_
        refine lv_aload_n hx hb dL_law_165 rfl (lv_at hl 0 rfl) ?_
        refine lv_iload_n hx hb dL_law_166 rfl (lv_at hl 3 rfl) ?_
        refine lv_iconst (v := (1 : Int32)) hx hb dL_law_167 (by decide) ?_
        refine lv_iadd hx hb dL_law_168 ?_
        refine va_sld hx hb hX hbl hbA hh.2.2 i1 dL_law_169 ?_
        refine lv_aload_n hx hb dL_law_170 rfl (lv_at hl 0 rfl) ?_
        refine lv_iload_n hx hb dL_law_171 rfl (lv_at hl 3 rfl) ?_
        refine lv_iconst (v := (2 : Int32)) hx hb dL_law_172 (by decide) ?_
        refine lv_iadd hx hb dL_law_173 ?_
        refine va_sld hx hb hX hbl hbA hh.2.2 i2 dL_law_174 ?_
        obtain ⟨r, S1, M1, hdx, hdm, hR1⟩ := h_say S M (xs (nI (6 * t) + (1 : Int32)).toNatClampNeg) (xs (nI (6 * t) + (2 : Int32)).toNatClampNeg) hR
        refine pq_cvIL (n := 2) (As := [.int (xs (nI (6 * t) + (1 : Int32)).toNatClampNeg), .int (xs (nI (6 * t) + (2 : Int32)).toNatClampNeg)]) (wr := wM cI ym ad M) C hh (kX6_say l D cI cL x as S S1 (xs (nI (6 * t) + (1 : Int32)).toNatClampNeg) (xs (nI (6 * t) + (2 : Int32)).toNatClampNeg) r hdx) (gvX6_say hs (pq_m7 _ (List.mem_of_getElem? (i := 12) rfl))) rfl (by decide +kernel) ⟨by decide, by decide⟩ 0 5 rfl rfl rfl hl.1 rfl rfl (Nat.le_of_ble_eq_true rfl) dL_law_175 ⟨Nat.le_refl _, Nat.le_refl _⟩ (fun H locs hh => ?_)
        refine lv_aload_n hx hb dL_law_178 rfl (lv_at hl 2 rfl) ?_
        refine lv_aload_n hx hb dL_law_179 rfl (lv_at hl 0 rfl) ?_
        refine lv_iload_n hx hb dL_law_180 rfl (lv_at hl 3 rfl) ?_
        refine lv_iconst (v := (1 : Int32)) hx hb dL_law_181 (by decide) ?_
        refine lv_iadd hx hb dL_law_182 ?_
        refine va_sld hx hb hX hbl hbA hh.2.2 i1 dL_law_183 ?_
        refine lv_aload_n hx hb dL_law_184 rfl (lv_at hl 0 rfl) ?_
        refine lv_iload_n hx hb dL_law_185 rfl (lv_at hl 3 rfl) ?_
        refine lv_iconst (v := (2 : Int32)) hx hb dL_law_186 (by decide) ?_
        refine lv_iadd hx hb dL_law_187 ?_
        refine va_sld hx hb hX hbl hbA hh.2.2 i2 dL_law_188 ?_
        refine pq_cvIL (n := 2) (As := [.int (xs (nI (6 * t) + (1 : Int32)).toNatClampNeg), .int (xs (nI (6 * t) + (2 : Int32)).toNatClampNeg)]) (wr := wD cI cL x as S1) C hh (kX7_say l D cI cL ym ad M M1 (xs (nI (6 * t) + (1 : Int32)).toNatClampNeg) (xs (nI (6 * t) + (2 : Int32)).toNatClampNeg) r hdm) (gvX7_say hs (pq_m15 _ (List.mem_of_getElem? (i := 12) rfl))) rfl (by decide +kernel) ⟨by decide, by decide⟩ 0 6 rfl rfl rfl hl.1 rfl rfl (Nat.le_of_ble_eq_true rfl) dL_law_189 ⟨Nat.le_refl _, Nat.le_refl _⟩ (fun H locs hh => ?_)
        refine lv_icmp_eq (tgt := 655) hx hb dL_law_192 (by decide) (fun _ => ?_) (fun h => absurd rfl h)
        exact fin S1 M1 hR1 _ _ hh ls hl
      by_cases w3 : v = (3 : Int32)
      · refine lv_tableIn (tgt := 197) hx hb dL_law_33 (by rw [w3]; decide) (by rw [w3]; decide) (by rw [w3]; rfl) (by decide) ?_
        refine lv_aload_n hx hb dL_law_197 rfl (lv_at hl 1 rfl) ?_
        refine lv_aload_n hx hb dL_law_198 rfl (lv_at hl 0 rfl) ?_
        refine lv_iload_n hx hb dL_law_199 rfl (lv_at hl 3 rfl) ?_
        refine lv_iconst (v := (1 : Int32)) hx hb dL_law_200 (by decide) ?_
        refine lv_iadd hx hb dL_law_201 ?_
        refine va_sld hx hb hX hbl hbA hh.2.2 i1 dL_law_202 ?_
        refine lv_aload_n hx hb dL_law_203 rfl (lv_at hl 0 rfl) ?_
        refine lv_iload_n hx hb dL_law_204 rfl (lv_at hl 3 rfl) ?_
        refine lv_iconst (v := (2 : Int32)) hx hb dL_law_205 (by decide) ?_
        refine lv_iadd hx hb dL_law_206 ?_
        refine va_sld hx hb hX hbl hbA hh.2.2 i2 dL_law_207 ?_
        refine lv_aload_n hx hb dL_law_208 rfl (lv_at hl 0 rfl) ?_
        refine lv_iload_n hx hb dL_law_209 rfl (lv_at hl 3 rfl) ?_
        refine lv_iconst (v := (3 : Int32)) hx hb dL_law_210 (by decide) ?_
        refine lv_iadd hx hb dL_law_211 ?_
        refine va_sld hx hb hX hbl hbA hh.2.2 i3 dL_law_212 ?_
        obtain ⟨r, S1, M1, hdx, hdm, hR1⟩ := h_pair S M (xs (nI (6 * t) + (1 : Int32)).toNatClampNeg) (xs (nI (6 * t) + (2 : Int32)).toNatClampNeg) (xs (nI (6 * t) + (3 : Int32)).toNatClampNeg) hR
        refine pq_cvIL (n := 3) (As := [.int (xs (nI (6 * t) + (1 : Int32)).toNatClampNeg), .int (xs (nI (6 * t) + (2 : Int32)).toNatClampNeg), .int (xs (nI (6 * t) + (3 : Int32)).toNatClampNeg)]) (wr := wM cI ym ad M) C hh (kX6_pair l D cI cL x as S S1 (xs (nI (6 * t) + (1 : Int32)).toNatClampNeg) (xs (nI (6 * t) + (2 : Int32)).toNatClampNeg) (xs (nI (6 * t) + (3 : Int32)).toNatClampNeg) r hdx) (gvX6_pair hs (pq_m19 _ (List.mem_of_getElem? (i := 15) rfl))) rfl (by decide +kernel) ⟨by decide, by decide⟩ 0 5 rfl rfl rfl hl.1 rfl rfl (Nat.le_of_ble_eq_true rfl) dL_law_213 ⟨Nat.le_refl _, Nat.le_refl _⟩ (fun H locs hh => ?_)
        refine lv_aload_n hx hb dL_law_216 rfl (lv_at hl 2 rfl) ?_
        refine lv_aload_n hx hb dL_law_217 rfl (lv_at hl 0 rfl) ?_
        refine lv_iload_n hx hb dL_law_218 rfl (lv_at hl 3 rfl) ?_
        refine lv_iconst (v := (1 : Int32)) hx hb dL_law_219 (by decide) ?_
        refine lv_iadd hx hb dL_law_220 ?_
        refine va_sld hx hb hX hbl hbA hh.2.2 i1 dL_law_221 ?_
        refine lv_aload_n hx hb dL_law_222 rfl (lv_at hl 0 rfl) ?_
        refine lv_iload_n hx hb dL_law_223 rfl (lv_at hl 3 rfl) ?_
        refine lv_iconst (v := (2 : Int32)) hx hb dL_law_224 (by decide) ?_
        refine lv_iadd hx hb dL_law_225 ?_
        refine va_sld hx hb hX hbl hbA hh.2.2 i2 dL_law_226 ?_
        refine lv_aload_n hx hb dL_law_227 rfl (lv_at hl 0 rfl) ?_
        refine lv_iload_n hx hb dL_law_228 rfl (lv_at hl 3 rfl) ?_
        refine lv_iconst (v := (3 : Int32)) hx hb dL_law_229 (by decide) ?_
        refine lv_iadd hx hb dL_law_230 ?_
        refine va_sld hx hb hX hbl hbA hh.2.2 i3 dL_law_231 ?_
        refine pq_cvIL (n := 3) (As := [.int (xs (nI (6 * t) + (1 : Int32)).toNatClampNeg), .int (xs (nI (6 * t) + (2 : Int32)).toNatClampNeg), .int (xs (nI (6 * t) + (3 : Int32)).toNatClampNeg)]) (wr := wD cI cL x as S1) C hh (kX7_pair l D cI cL ym ad M M1 (xs (nI (6 * t) + (1 : Int32)).toNatClampNeg) (xs (nI (6 * t) + (2 : Int32)).toNatClampNeg) (xs (nI (6 * t) + (3 : Int32)).toNatClampNeg) r hdm) (gvX7_pair hs (pq_m19 _ (List.mem_of_getElem? (i := 19) rfl))) rfl (by decide +kernel) ⟨by decide, by decide⟩ 0 6 rfl rfl rfl hl.1 rfl rfl (Nat.le_of_ble_eq_true rfl) dL_law_232 ⟨Nat.le_refl _, Nat.le_refl _⟩ (fun H locs hh => ?_)
        refine lv_icmp_eq (tgt := 655) hx hb dL_law_235 (by decide) (fun _ => ?_) (fun h => absurd rfl h)
        exact fin S1 M1 hR1 _ _ hh ls hl
      by_cases w4 : v = (4 : Int32)
      · refine lv_tableIn (tgt := 240) hx hb dL_law_33 (by rw [w4]; decide) (by rw [w4]; decide) (by rw [w4]; rfl) (by decide) ?_
        refine lv_aload_n hx hb dL_law_240 rfl (lv_at hl 1 rfl) ?_
        refine lv_aload_n hx hb dL_law_241 rfl (lv_at hl 0 rfl) ?_
        refine lv_iload_n hx hb dL_law_242 rfl (lv_at hl 3 rfl) ?_
        refine lv_iconst (v := (1 : Int32)) hx hb dL_law_243 (by decide) ?_
        refine lv_iadd hx hb dL_law_244 ?_
        refine va_sld hx hb hX hbl hbA hh.2.2 i1 dL_law_245 ?_
        refine lv_aload_n hx hb dL_law_246 rfl (lv_at hl 0 rfl) ?_
        refine lv_iload_n hx hb dL_law_247 rfl (lv_at hl 3 rfl) ?_
        refine lv_iconst (v := (2 : Int32)) hx hb dL_law_248 (by decide) ?_
        refine lv_iadd hx hb dL_law_249 ?_
        refine va_sld hx hb hX hbl hbA hh.2.2 i2 dL_law_250 ?_
        obtain ⟨r, S1, M1, hdx, hdm, hR1⟩ := h_hear S M (xs (nI (6 * t) + (1 : Int32)).toNatClampNeg) (xs (nI (6 * t) + (2 : Int32)).toNatClampNeg) hR
        refine pq_cvIL (n := 2) (As := [.int (xs (nI (6 * t) + (1 : Int32)).toNatClampNeg), .int (xs (nI (6 * t) + (2 : Int32)).toNatClampNeg)]) (wr := wM cI ym ad M) C hh (kX6_hear l D cI cL x as S S1 (xs (nI (6 * t) + (1 : Int32)).toNatClampNeg) (xs (nI (6 * t) + (2 : Int32)).toNatClampNeg) r hdx) (gvX6_hear hs (pq_m20 _ (List.mem_of_getElem? (i := 21) rfl))) rfl (by decide +kernel) ⟨by decide, by decide⟩ 0 5 rfl rfl rfl hl.1 rfl rfl (Nat.le_of_ble_eq_true rfl) dL_law_251 ⟨Nat.le_refl _, Nat.le_refl _⟩ (fun H locs hh => ?_)
        refine lv_aload_n hx hb dL_law_254 rfl (lv_at hl 2 rfl) ?_
        refine lv_aload_n hx hb dL_law_255 rfl (lv_at hl 0 rfl) ?_
        refine lv_iload_n hx hb dL_law_256 rfl (lv_at hl 3 rfl) ?_
        refine lv_iconst (v := (1 : Int32)) hx hb dL_law_257 (by decide) ?_
        refine lv_iadd hx hb dL_law_258 ?_
        refine va_sld hx hb hX hbl hbA hh.2.2 i1 dL_law_259 ?_
        refine lv_aload_n hx hb dL_law_260 rfl (lv_at hl 0 rfl) ?_
        refine lv_iload_n hx hb dL_law_261 rfl (lv_at hl 3 rfl) ?_
        refine lv_iconst (v := (2 : Int32)) hx hb dL_law_262 (by decide) ?_
        refine lv_iadd hx hb dL_law_263 ?_
        refine va_sld hx hb hX hbl hbA hh.2.2 i2 dL_law_264 ?_
        refine pq_cvIL (n := 2) (As := [.int (xs (nI (6 * t) + (1 : Int32)).toNatClampNeg), .int (xs (nI (6 * t) + (2 : Int32)).toNatClampNeg)]) (wr := wD cI cL x as S1) C hh (kX7_hear l D cI cL ym ad M M1 (xs (nI (6 * t) + (1 : Int32)).toNatClampNeg) (xs (nI (6 * t) + (2 : Int32)).toNatClampNeg) r hdm) (gvX7_hear hs (pq_m22 _ (List.mem_of_getElem? (i := 12) rfl))) rfl (by decide +kernel) ⟨by decide, by decide⟩ 0 6 rfl rfl rfl hl.1 rfl rfl (Nat.le_of_ble_eq_true rfl) dL_law_265 ⟨Nat.le_refl _, Nat.le_refl _⟩ (fun H locs hh => ?_)
        refine lv_icmp_eq (tgt := 655) hx hb dL_law_268 (by decide) (fun _ => ?_) (fun h => absurd rfl h)
        exact fin S1 M1 hR1 _ _ hh ls hl
      by_cases w5 : v = (5 : Int32)
      · refine lv_tableIn (tgt := 273) hx hb dL_law_33 (by rw [w5]; decide) (by rw [w5]; decide) (by rw [w5]; rfl) (by decide) ?_
        refine lv_aload_n hx hb dL_law_273 rfl (lv_at hl 1 rfl) ?_
        refine lv_aload_n hx hb dL_law_274 rfl (lv_at hl 0 rfl) ?_
        refine lv_iload_n hx hb dL_law_275 rfl (lv_at hl 3 rfl) ?_
        refine lv_iconst (v := (1 : Int32)) hx hb dL_law_276 (by decide) ?_
        refine lv_iadd hx hb dL_law_277 ?_
        refine va_sld hx hb hX hbl hbA hh.2.2 i1 dL_law_278 ?_
        obtain ⟨r, S1, M1, hdx, hdm, hR1⟩ := h_second S M (xs (nI (6 * t) + (1 : Int32)).toNatClampNeg) hR
        refine pq_cvIL (n := 1) (As := [.int (xs (nI (6 * t) + (1 : Int32)).toNatClampNeg)]) (wr := wM cI ym ad M) C hh (kX6_second l D cI cL x as S S1 (xs (nI (6 * t) + (1 : Int32)).toNatClampNeg) r hdx) (gvX6_second hs (pq_m24 _ (List.mem_of_getElem? (i := 0) rfl))) rfl (by decide +kernel) ⟨by decide, by decide⟩ 0 5 rfl rfl rfl hl.1 rfl rfl (Nat.le_of_ble_eq_true rfl) dL_law_279 ⟨Nat.le_refl _, Nat.le_refl _⟩ (fun H locs hh => ?_)
        refine lv_aload_n hx hb dL_law_282 rfl (lv_at hl 2 rfl) ?_
        refine lv_aload_n hx hb dL_law_283 rfl (lv_at hl 0 rfl) ?_
        refine lv_iload_n hx hb dL_law_284 rfl (lv_at hl 3 rfl) ?_
        refine lv_iconst (v := (1 : Int32)) hx hb dL_law_285 (by decide) ?_
        refine lv_iadd hx hb dL_law_286 ?_
        refine va_sld hx hb hX hbl hbA hh.2.2 i1 dL_law_287 ?_
        refine pq_cvIL (n := 1) (As := [.int (xs (nI (6 * t) + (1 : Int32)).toNatClampNeg)]) (wr := wD cI cL x as S1) C hh (kX7_second l D cI cL ym ad M M1 (xs (nI (6 * t) + (1 : Int32)).toNatClampNeg) r hdm) (gvX7_second hs (pq_m24 _ (List.mem_of_getElem? (i := 8) rfl))) rfl (by decide +kernel) ⟨by decide, by decide⟩ 0 6 rfl rfl rfl hl.1 rfl rfl (Nat.le_of_ble_eq_true rfl) dL_law_288 ⟨Nat.le_refl _, Nat.le_refl _⟩ (fun H locs hh => ?_)
        refine lv_icmp_eq (tgt := 655) hx hb dL_law_291 (by decide) (fun _ => ?_) (fun h => absurd rfl h)
        exact fin S1 M1 hR1 _ _ hh ls hl
      by_cases w6 : v = (6 : Int32)
      · refine lv_tableIn (tgt := 296) hx hb dL_law_33 (by rw [w6]; decide) (by rw [w6]; decide) (by rw [w6]; rfl) (by decide) ?_
        refine lv_aload_n hx hb dL_law_296 rfl (lv_at hl 1 rfl) ?_
        refine lv_aload_n hx hb dL_law_297 rfl (lv_at hl 0 rfl) ?_
        refine lv_iload_n hx hb dL_law_298 rfl (lv_at hl 3 rfl) ?_
        refine lv_iconst (v := (1 : Int32)) hx hb dL_law_299 (by decide) ?_
        refine lv_iadd hx hb dL_law_300 ?_
        refine va_sld hx hb hX hbl hbA hh.2.2 i1 dL_law_301 ?_
        refine lv_aload_n hx hb dL_law_302 rfl (lv_at hl 0 rfl) ?_
        refine lv_iload_n hx hb dL_law_303 rfl (lv_at hl 3 rfl) ?_
        refine lv_iconst (v := (2 : Int32)) hx hb dL_law_304 (by decide) ?_
        refine lv_iadd hx hb dL_law_305 ?_
        refine va_sld hx hb hX hbl hbA hh.2.2 i2 dL_law_306 ?_
        refine lv_aload_n hx hb dL_law_307 rfl (lv_at hl 0 rfl) ?_
        refine lv_iload_n hx hb dL_law_308 rfl (lv_at hl 3 rfl) ?_
        refine lv_iconst (v := (3 : Int32)) hx hb dL_law_309 (by decide) ?_
        refine lv_iadd hx hb dL_law_310 ?_
        refine va_sld hx hb hX hbl hbA hh.2.2 i3 dL_law_311 ?_
        obtain ⟨r, S1, M1, hdx, hdm, hR1⟩ := h_inner S M (xs (nI (6 * t) + (1 : Int32)).toNatClampNeg) (xs (nI (6 * t) + (2 : Int32)).toNatClampNeg) (xs (nI (6 * t) + (3 : Int32)).toNatClampNeg) hR
        refine pq_cvIL (n := 3) (As := [.int (xs (nI (6 * t) + (1 : Int32)).toNatClampNeg), .int (xs (nI (6 * t) + (2 : Int32)).toNatClampNeg), .int (xs (nI (6 * t) + (3 : Int32)).toNatClampNeg)]) (wr := wM cI ym ad M) C hh (kX6_inner l D cI cL x as S S1 (xs (nI (6 * t) + (1 : Int32)).toNatClampNeg) (xs (nI (6 * t) + (2 : Int32)).toNatClampNeg) (xs (nI (6 * t) + (3 : Int32)).toNatClampNeg) r hdx) (gvX6_inner hs (pq_m24 _ (List.mem_of_getElem? (i := 12) rfl))) rfl (by decide +kernel) ⟨by decide, by decide⟩ 0 5 rfl rfl rfl hl.1 rfl rfl (Nat.le_of_ble_eq_true rfl) dL_law_312 ⟨Nat.le_refl _, Nat.le_refl _⟩ (fun H locs hh => ?_)
        refine lv_aload_n hx hb dL_law_315 rfl (lv_at hl 2 rfl) ?_
        refine lv_aload_n hx hb dL_law_316 rfl (lv_at hl 0 rfl) ?_
        refine lv_iload_n hx hb dL_law_317 rfl (lv_at hl 3 rfl) ?_
        refine lv_iconst (v := (1 : Int32)) hx hb dL_law_318 (by decide) ?_
        refine lv_iadd hx hb dL_law_319 ?_
        refine va_sld hx hb hX hbl hbA hh.2.2 i1 dL_law_320 ?_
        refine lv_aload_n hx hb dL_law_321 rfl (lv_at hl 0 rfl) ?_
        refine lv_iload_n hx hb dL_law_322 rfl (lv_at hl 3 rfl) ?_
        refine lv_iconst (v := (2 : Int32)) hx hb dL_law_323 (by decide) ?_
        refine lv_iadd hx hb dL_law_324 ?_
        refine va_sld hx hb hX hbl hbA hh.2.2 i2 dL_law_325 ?_
        refine lv_aload_n hx hb dL_law_326 rfl (lv_at hl 0 rfl) ?_
        refine lv_iload_n hx hb dL_law_327 rfl (lv_at hl 3 rfl) ?_
        refine lv_iconst (v := (3 : Int32)) hx hb dL_law_328 (by decide) ?_
        refine lv_iadd hx hb dL_law_329 ?_
        refine va_sld hx hb hX hbl hbA hh.2.2 i3 dL_law_330 ?_
        refine pq_cvIL (n := 3) (As := [.int (xs (nI (6 * t) + (1 : Int32)).toNatClampNeg), .int (xs (nI (6 * t) + (2 : Int32)).toNatClampNeg), .int (xs (nI (6 * t) + (3 : Int32)).toNatClampNeg)]) (wr := wD cI cL x as S1) C hh (kX7_inner l D cI cL ym ad M M1 (xs (nI (6 * t) + (1 : Int32)).toNatClampNeg) (xs (nI (6 * t) + (2 : Int32)).toNatClampNeg) (xs (nI (6 * t) + (3 : Int32)).toNatClampNeg) r hdm) (gvX7_inner hs (pq_m25 _ (List.mem_of_getElem? (i := 11) rfl))) rfl (by decide +kernel) ⟨by decide, by decide⟩ 0 6 rfl rfl rfl hl.1 rfl rfl (Nat.le_of_ble_eq_true rfl) dL_law_331 ⟨Nat.le_refl _, Nat.le_refl _⟩ (fun H locs hh => ?_)
        refine lv_icmp_eq (tgt := 655) hx hb dL_law_334 (by decide) (fun _ => ?_) (fun h => absurd rfl h)
        exact fin S1 M1 hR1 _ _ hh ls hl
      by_cases w7 : v = (7 : Int32)
      · refine lv_tableIn (tgt := 339) hx hb dL_law_33 (by rw [w7]; decide) (by rw [w7]; decide) (by rw [w7]; rfl) (by decide) ?_
        refine lv_aload_n hx hb dL_law_339 rfl (lv_at hl 1 rfl) ?_
        refine lv_aload_n hx hb dL_law_340 rfl (lv_at hl 0 rfl) ?_
        refine lv_iload_n hx hb dL_law_341 rfl (lv_at hl 3 rfl) ?_
        refine lv_iconst (v := (1 : Int32)) hx hb dL_law_342 (by decide) ?_
        refine lv_iadd hx hb dL_law_343 ?_
        refine va_sld hx hb hX hbl hbA hh.2.2 i1 dL_law_344 ?_
        refine lv_aload_n hx hb dL_law_345 rfl (lv_at hl 0 rfl) ?_
        refine lv_iload_n hx hb dL_law_346 rfl (lv_at hl 3 rfl) ?_
        refine lv_iconst (v := (2 : Int32)) hx hb dL_law_347 (by decide) ?_
        refine lv_iadd hx hb dL_law_348 ?_
        refine va_sld hx hb hX hbl hbA hh.2.2 i2 dL_law_349 ?_
        refine lv_aload_n hx hb dL_law_350 rfl (lv_at hl 0 rfl) ?_
        refine lv_iload_n hx hb dL_law_351 rfl (lv_at hl 3 rfl) ?_
        refine lv_iconst (v := (3 : Int32)) hx hb dL_law_352 (by decide) ?_
        refine lv_iadd hx hb dL_law_353 ?_
        refine va_sld hx hb hX hbl hbA hh.2.2 i3 dL_law_354 ?_
        refine lv_aload_n hx hb dL_law_355 rfl (lv_at hl 0 rfl) ?_
        refine lv_iload_n hx hb dL_law_356 rfl (lv_at hl 3 rfl) ?_
        refine lv_iconst (v := (4 : Int32)) hx hb dL_law_357 (by decide) ?_
        refine lv_iadd hx hb dL_law_358 ?_
        refine va_sld hx hb hX hbl hbA hh.2.2 i4 dL_law_359 ?_
        refine lv_aload_n hx hb dL_law_360 rfl (lv_at hl 0 rfl) ?_
        refine lv_iload_n hx hb dL_law_361 rfl (lv_at hl 3 rfl) ?_
        refine lv_iconst (v := (5 : Int32)) hx hb dL_law_362 (by decide) ?_
        refine lv_iadd hx hb dL_law_363 ?_
        refine va_sld hx hb hX hbl hbA hh.2.2 i5 dL_law_364 ?_
        obtain ⟨r, S1, M1, hdx, hdm, hR1⟩ := h_feed S M (xs (nI (6 * t) + (1 : Int32)).toNatClampNeg) (xs (nI (6 * t) + (2 : Int32)).toNatClampNeg) (xs (nI (6 * t) + (3 : Int32)).toNatClampNeg) (xs (nI (6 * t) + (4 : Int32)).toNatClampNeg) (xs (nI (6 * t) + (5 : Int32)).toNatClampNeg) hR
        refine pq_cvIL (n := 5) (As := [.int (xs (nI (6 * t) + (1 : Int32)).toNatClampNeg), .int (xs (nI (6 * t) + (2 : Int32)).toNatClampNeg), .int (xs (nI (6 * t) + (3 : Int32)).toNatClampNeg), .int (xs (nI (6 * t) + (4 : Int32)).toNatClampNeg), .int (xs (nI (6 * t) + (5 : Int32)).toNatClampNeg)]) (wr := wM cI ym ad M) C hh (kX6_feed l D cI cL x as S S1 (xs (nI (6 * t) + (1 : Int32)).toNatClampNeg) (xs (nI (6 * t) + (2 : Int32)).toNatClampNeg) (xs (nI (6 * t) + (3 : Int32)).toNatClampNeg) (xs (nI (6 * t) + (4 : Int32)).toNatClampNeg) (xs (nI (6 * t) + (5 : Int32)).toNatClampNeg) r hdx) (gvX6_feed hs (pq_m25 _ (List.mem_of_getElem? (i := 15) rfl))) rfl (by decide +kernel) ⟨by decide, by decide⟩ 0 5 rfl rfl rfl hl.1 rfl rfl (Nat.le_of_ble_eq_true rfl) dL_law_365 ⟨Nat.le_refl _, Nat.le_refl _⟩ (fun H locs hh => ?_)
        refine lv_aload_n hx hb dL_law_368 rfl (lv_at hl 2 rfl) ?_
        refine lv_aload_n hx hb dL_law_369 rfl (lv_at hl 0 rfl) ?_
        refine lv_iload_n hx hb dL_law_370 rfl (lv_at hl 3 rfl) ?_
        refine lv_iconst (v := (1 : Int32)) hx hb dL_law_371 (by decide) ?_
        refine lv_iadd hx hb dL_law_372 ?_
        refine va_sld hx hb hX hbl hbA hh.2.2 i1 dL_law_373 ?_
        refine lv_aload_n hx hb dL_law_374 rfl (lv_at hl 0 rfl) ?_
        refine lv_iload_n hx hb dL_law_375 rfl (lv_at hl 3 rfl) ?_
        refine lv_iconst (v := (2 : Int32)) hx hb dL_law_376 (by decide) ?_
        refine lv_iadd hx hb dL_law_377 ?_
        refine va_sld hx hb hX hbl hbA hh.2.2 i2 dL_law_378 ?_
        refine lv_aload_n hx hb dL_law_379 rfl (lv_at hl 0 rfl) ?_
        refine lv_iload_n hx hb dL_law_380 rfl (lv_at hl 3 rfl) ?_
        refine lv_iconst (v := (3 : Int32)) hx hb dL_law_381 (by decide) ?_
        refine lv_iadd hx hb dL_law_382 ?_
        refine va_sld hx hb hX hbl hbA hh.2.2 i3 dL_law_383 ?_
        refine lv_aload_n hx hb dL_law_384 rfl (lv_at hl 0 rfl) ?_
        refine lv_iload_n hx hb dL_law_385 rfl (lv_at hl 3 rfl) ?_
        refine lv_iconst (v := (4 : Int32)) hx hb dL_law_386 (by decide) ?_
        refine lv_iadd hx hb dL_law_387 ?_
        refine va_sld hx hb hX hbl hbA hh.2.2 i4 dL_law_388 ?_
        refine lv_aload_n hx hb dL_law_389 rfl (lv_at hl 0 rfl) ?_
        refine lv_iload_n hx hb dL_law_390 rfl (lv_at hl 3 rfl) ?_
        refine lv_iconst (v := (5 : Int32)) hx hb dL_law_391 (by decide) ?_
        refine lv_iadd hx hb dL_law_392 ?_
        refine va_sld hx hb hX hbl hbA hh.2.2 i5 dL_law_393 ?_
        refine pq_cvIL (n := 5) (As := [.int (xs (nI (6 * t) + (1 : Int32)).toNatClampNeg), .int (xs (nI (6 * t) + (2 : Int32)).toNatClampNeg), .int (xs (nI (6 * t) + (3 : Int32)).toNatClampNeg), .int (xs (nI (6 * t) + (4 : Int32)).toNatClampNeg), .int (xs (nI (6 * t) + (5 : Int32)).toNatClampNeg)]) (wr := wD cI cL x as S1) C hh (kX7_feed l D cI cL ym ad M M1 (xs (nI (6 * t) + (1 : Int32)).toNatClampNeg) (xs (nI (6 * t) + (2 : Int32)).toNatClampNeg) (xs (nI (6 * t) + (3 : Int32)).toNatClampNeg) (xs (nI (6 * t) + (4 : Int32)).toNatClampNeg) (xs (nI (6 * t) + (5 : Int32)).toNatClampNeg) r hdm) (gvX7_feed hs (pq_m26 _ (List.mem_of_getElem? (i := 3) rfl))) rfl (by decide +kernel) ⟨by decide, by decide⟩ 0 6 rfl rfl rfl hl.1 rfl rfl (Nat.le_of_ble_eq_true rfl) dL_law_394 ⟨Nat.le_refl _, Nat.le_refl _⟩ (fun H locs hh => ?_)
        refine lv_icmp_eq (tgt := 655) hx hb dL_law_397 (by decide) (fun _ => ?_) (fun h => absurd rfl h)
        exact fin S1 M1 hR1 _ _ hh ls hl
      by_cases w8 : v = (8 : Int32)
      · refine lv_tableIn (tgt := 402) hx hb dL_law_33 (by rw [w8]; decide) (by rw [w8]; decide) (by rw [w8]; rfl) (by decide) ?_
        refine lv_aload_n hx hb dL_law_402 rfl (lv_at hl 1 rfl) ?_
        refine lv_aload_n hx hb dL_law_403 rfl (lv_at hl 0 rfl) ?_
        refine lv_iload_n hx hb dL_law_404 rfl (lv_at hl 3 rfl) ?_
        refine lv_iconst (v := (1 : Int32)) hx hb dL_law_405 (by decide) ?_
        refine lv_iadd hx hb dL_law_406 ?_
        refine va_sld hx hb hX hbl hbA hh.2.2 i1 dL_law_407 ?_
        obtain ⟨r, S1, M1, hdx, hdm, hR1⟩ := h_end S M (xs (nI (6 * t) + (1 : Int32)).toNatClampNeg) hR
        refine pq_cvIL (n := 1) (As := [.int (xs (nI (6 * t) + (1 : Int32)).toNatClampNeg)]) (wr := wM cI ym ad M) C hh (kX6_end l D cI cL x as S S1 (xs (nI (6 * t) + (1 : Int32)).toNatClampNeg) r hdx) (gvX6_end hs (pq_m26 _ (List.mem_of_getElem? (i := 12) rfl))) rfl (by decide +kernel) ⟨by decide, by decide⟩ 0 5 rfl rfl rfl hl.1 rfl rfl (Nat.le_of_ble_eq_true rfl) dL_law_408 ⟨Nat.le_refl _, Nat.le_refl _⟩ (fun H locs hh => ?_)
        refine lv_aload_n hx hb dL_law_411 rfl (lv_at hl 2 rfl) ?_
        refine lv_aload_n hx hb dL_law_412 rfl (lv_at hl 0 rfl) ?_
        refine lv_iload_n hx hb dL_law_413 rfl (lv_at hl 3 rfl) ?_
        refine lv_iconst (v := (1 : Int32)) hx hb dL_law_414 (by decide) ?_
        refine lv_iadd hx hb dL_law_415 ?_
        refine va_sld hx hb hX hbl hbA hh.2.2 i1 dL_law_416 ?_
        refine pq_cvIL (n := 1) (As := [.int (xs (nI (6 * t) + (1 : Int32)).toNatClampNeg)]) (wr := wD cI cL x as S1) C hh (kX7_end l D cI cL ym ad M M1 (xs (nI (6 * t) + (1 : Int32)).toNatClampNeg) r hdm) (gvX7_end hs (pq_m26 _ (List.mem_of_getElem? (i := 16) rfl))) rfl (by decide +kernel) ⟨by decide, by decide⟩ 0 6 rfl rfl rfl hl.1 rfl rfl (Nat.le_of_ble_eq_true rfl) dL_law_417 ⟨Nat.le_refl _, Nat.le_refl _⟩ (fun H locs hh => ?_)
        refine lv_icmp_eq (tgt := 655) hx hb dL_law_420 (by decide) (fun _ => ?_) (fun h => absurd rfl h)
        exact fin S1 M1 hR1 _ _ hh ls hl
      by_cases w9 : v = (9 : Int32)
      · refine lv_tableIn (tgt := 425) hx hb dL_law_33 (by rw [w9]; decide) (by rw [w9]; decide) (by rw [w9]; rfl) (by decide) ?_
        refine lv_aload_n hx hb dL_law_425 rfl (lv_at hl 1 rfl) ?_
        obtain ⟨r, S1, M1, hdx, hdm, hR1⟩ := h_take S M  hR
        refine pq_cvIL (n := 0) (As := []) (wr := wM cI ym ad M) C hh (kX6_take l D cI cL x as S S1  r hdx) (gvX6_take hs (pq_m26 _ (List.mem_of_getElem? (i := 20) rfl))) rfl (by decide +kernel) ⟨by decide, by decide⟩ 0 5 rfl rfl rfl hl.1 rfl rfl (Nat.le_of_ble_eq_true rfl) dL_law_426 ⟨Nat.le_refl _, Nat.le_refl _⟩ (fun H locs hh => ?_)
        refine lv_aload_n hx hb dL_law_429 rfl (lv_at hl 2 rfl) ?_
        refine pq_cvIL (n := 0) (As := []) (wr := wD cI cL x as S1) C hh (kX7_take l D cI cL ym ad M M1  r hdm) (gvX7_take hs (pq_m27 _ (List.mem_of_getElem? (i := 4) rfl))) rfl (by decide +kernel) ⟨by decide, by decide⟩ 0 6 rfl rfl rfl hl.1 rfl rfl (Nat.le_of_ble_eq_true rfl) dL_law_430 ⟨Nat.le_refl _, Nat.le_refl _⟩ (fun H locs hh => ?_)
        refine lv_icmp_eq (tgt := 655) hx hb dL_law_433 (by decide) (fun _ => ?_) (fun h => absurd rfl h)
        exact fin S1 M1 hR1 _ _ hh ls hl
      by_cases w10 : v = (10 : Int32)
      · refine lv_tableIn (tgt := 438) hx hb dL_law_33 (by rw [w10]; decide) (by rw [w10]; decide) (by rw [w10]; rfl) (by decide) ?_
        refine lv_aload_n hx hb dL_law_438 rfl (lv_at hl 1 rfl) ?_
        refine lv_aload_n hx hb dL_law_439 rfl (lv_at hl 0 rfl) ?_
        refine lv_iload_n hx hb dL_law_440 rfl (lv_at hl 3 rfl) ?_
        refine lv_iconst (v := (1 : Int32)) hx hb dL_law_441 (by decide) ?_
        refine lv_iadd hx hb dL_law_442 ?_
        refine va_sld hx hb hX hbl hbA hh.2.2 i1 dL_law_443 ?_
        obtain ⟨r, S1, M1, hdx, hdm, hR1⟩ := h_out S M (xs (nI (6 * t) + (1 : Int32)).toNatClampNeg) hR
        refine pq_cvIL (n := 1) (As := [.int (xs (nI (6 * t) + (1 : Int32)).toNatClampNeg)]) (wr := wM cI ym ad M) C hh (kX6_out l D cI cL x as S S1 (xs (nI (6 * t) + (1 : Int32)).toNatClampNeg) r hdx) (gvX6_out hs (pq_m27 _ (List.mem_of_getElem? (i := 9) rfl))) rfl (by decide +kernel) ⟨by decide, by decide⟩ 0 5 rfl rfl rfl hl.1 rfl rfl (Nat.le_of_ble_eq_true rfl) dL_law_444 ⟨Nat.le_refl _, Nat.le_refl _⟩ (fun H locs hh => ?_)
        refine lv_aload_n hx hb dL_law_447 rfl (lv_at hl 2 rfl) ?_
        refine lv_aload_n hx hb dL_law_448 rfl (lv_at hl 0 rfl) ?_
        refine lv_iload_n hx hb dL_law_449 rfl (lv_at hl 3 rfl) ?_
        refine lv_iconst (v := (1 : Int32)) hx hb dL_law_450 (by decide) ?_
        refine lv_iadd hx hb dL_law_451 ?_
        refine va_sld hx hb hX hbl hbA hh.2.2 i1 dL_law_452 ?_
        refine pq_cvIL (n := 1) (As := [.int (xs (nI (6 * t) + (1 : Int32)).toNatClampNeg)]) (wr := wD cI cL x as S1) C hh (kX7_out l D cI cL ym ad M M1 (xs (nI (6 * t) + (1 : Int32)).toNatClampNeg) r hdm) (gvX7_out hs (pq_m27 _ (List.mem_of_getElem? (i := 18) rfl))) rfl (by decide +kernel) ⟨by decide, by decide⟩ 0 6 rfl rfl rfl hl.1 rfl rfl (Nat.le_of_ble_eq_true rfl) dL_law_453 ⟨Nat.le_refl _, Nat.le_refl _⟩ (fun H locs hh => ?_)
        refine lv_icmp_eq (tgt := 655) hx hb dL_law_456 (by decide) (fun _ => ?_) (fun h => absurd rfl h)
        exact fin S1 M1 hR1 _ _ hh ls hl
      by_cases w11 : v = (11 : Int32)
      · refine lv_tableIn (tgt := 461) hx hb dL_law_33 (by rw [w11]; decide) (by rw [w11]; decide) (by rw [w11]; rfl) (by decide) ?_
        refine lv_aload_n hx hb dL_law_461 rfl (lv_at hl 1 rfl) ?_
        refine lv_aload_n hx hb dL_law_462 rfl (lv_at hl 0 rfl) ?_
        refine lv_iload_n hx hb dL_law_463 rfl (lv_at hl 3 rfl) ?_
        refine lv_iconst (v := (1 : Int32)) hx hb dL_law_464 (by decide) ?_
        refine lv_iadd hx hb dL_law_465 ?_
        refine va_sld hx hb hX hbl hbA hh.2.2 i1 dL_law_466 ?_
        refine lv_aload_n hx hb dL_law_467 rfl (lv_at hl 0 rfl) ?_
        refine lv_iload_n hx hb dL_law_468 rfl (lv_at hl 3 rfl) ?_
        refine lv_iconst (v := (2 : Int32)) hx hb dL_law_469 (by decide) ?_
        refine lv_iadd hx hb dL_law_470 ?_
        refine va_sld hx hb hX hbl hbA hh.2.2 i2 dL_law_471 ?_
        refine lv_if_eq (tgt := 479) hx hb dL_law_472 (by decide) (fun hz => ?_) (fun hz => ?_)
        · skip
          refine lv_iconst (v := (0 : Int32)) hx hb dL_law_479 (by decide) ?_
          obtain ⟨r, S1, M1, hdx, hdm, hR1⟩ := h_pack S M (xs (nI (6 * t) + (1 : Int32)).toNatClampNeg) (0 : Int32) hR
          refine pq_cvIL (n := 2) (As := [.int (xs (nI (6 * t) + (1 : Int32)).toNatClampNeg), .int (0 : Int32)]) (wr := wM cI ym ad M) C hh (kX6_pack l D cI cL x as S S1 (xs (nI (6 * t) + (1 : Int32)).toNatClampNeg) (0 : Int32) r hdx) (gvX6_pack hs (pq_m27 _ (List.mem_of_getElem? (i := 22) rfl))) rfl (by decide +kernel) ⟨by decide, by decide⟩ 0 5 rfl rfl rfl hl.1 rfl rfl (Nat.le_of_ble_eq_true rfl) dL_law_480 ⟨Nat.le_refl _, Nat.le_refl _⟩ (fun H locs hh => ?_)
          refine lv_aload_n hx hb dL_law_483 rfl (lv_at hl 2 rfl) ?_
          refine lv_aload_n hx hb dL_law_484 rfl (lv_at hl 0 rfl) ?_
          refine lv_iload_n hx hb dL_law_485 rfl (lv_at hl 3 rfl) ?_
          refine lv_iconst (v := (1 : Int32)) hx hb dL_law_486 (by decide) ?_
          refine lv_iadd hx hb dL_law_487 ?_
          refine va_sld hx hb hX hbl hbA hh.2.2 i1 dL_law_488 ?_
          refine lv_aload_n hx hb dL_law_489 rfl (lv_at hl 0 rfl) ?_
          refine lv_iload_n hx hb dL_law_490 rfl (lv_at hl 3 rfl) ?_
          refine lv_iconst (v := (2 : Int32)) hx hb dL_law_491 (by decide) ?_
          refine lv_iadd hx hb dL_law_492 ?_
          refine va_sld hx hb hX hbl hbA hh.2.2 i2 dL_law_493 ?_
          refine lv_if_eq (tgt := 501) hx hb dL_law_494 (by decide) (fun _ => ?_) (fun h => absurd hz h)
          refine lv_iconst (v := (0 : Int32)) hx hb dL_law_501 (by decide) ?_
          refine pq_cvIL (n := 2) (As := [.int (xs (nI (6 * t) + (1 : Int32)).toNatClampNeg), .int (0 : Int32)]) (wr := wD cI cL x as S1) C hh (kX7_pack l D cI cL ym ad M M1 (xs (nI (6 * t) + (1 : Int32)).toNatClampNeg) (0 : Int32) r hdm) (gvX7_pack hs (pq_m29 _ (List.mem_of_getElem? (i := 2) rfl))) rfl (by decide +kernel) ⟨by decide, by decide⟩ 0 6 rfl rfl rfl hl.1 rfl rfl (Nat.le_of_ble_eq_true rfl) dL_law_502 ⟨Nat.le_refl _, Nat.le_refl _⟩ (fun H locs hh => ?_)
          refine lv_icmp_eq (tgt := 655) hx hb dL_law_505 (by decide) (fun _ => ?_) (fun h => absurd rfl h)
          exact fin S1 M1 hR1 _ _ hh ls hl
        · skip
          refine lv_iconst (v := (1 : Int32)) hx hb dL_law_475 (by decide) ?_
          refine lv_goto (tgt := 480) hx hb dL_law_476 (by decide) ?_
          obtain ⟨r, S1, M1, hdx, hdm, hR1⟩ := h_pack S M (xs (nI (6 * t) + (1 : Int32)).toNatClampNeg) (1 : Int32) hR
          refine pq_cvIL (n := 2) (As := [.int (xs (nI (6 * t) + (1 : Int32)).toNatClampNeg), .int (1 : Int32)]) (wr := wM cI ym ad M) C hh (kX6_pack l D cI cL x as S S1 (xs (nI (6 * t) + (1 : Int32)).toNatClampNeg) (1 : Int32) r hdx) (gvX6_pack hs (pq_m27 _ (List.mem_of_getElem? (i := 22) rfl))) rfl (by decide +kernel) ⟨by decide, by decide⟩ 0 5 rfl rfl rfl hl.1 rfl rfl (Nat.le_of_ble_eq_true rfl) dL_law_480 ⟨Nat.le_refl _, Nat.le_refl _⟩ (fun H locs hh => ?_)
          refine lv_aload_n hx hb dL_law_483 rfl (lv_at hl 2 rfl) ?_
          refine lv_aload_n hx hb dL_law_484 rfl (lv_at hl 0 rfl) ?_
          refine lv_iload_n hx hb dL_law_485 rfl (lv_at hl 3 rfl) ?_
          refine lv_iconst (v := (1 : Int32)) hx hb dL_law_486 (by decide) ?_
          refine lv_iadd hx hb dL_law_487 ?_
          refine va_sld hx hb hX hbl hbA hh.2.2 i1 dL_law_488 ?_
          refine lv_aload_n hx hb dL_law_489 rfl (lv_at hl 0 rfl) ?_
          refine lv_iload_n hx hb dL_law_490 rfl (lv_at hl 3 rfl) ?_
          refine lv_iconst (v := (2 : Int32)) hx hb dL_law_491 (by decide) ?_
          refine lv_iadd hx hb dL_law_492 ?_
          refine va_sld hx hb hX hbl hbA hh.2.2 i2 dL_law_493 ?_
          refine lv_if_eq (tgt := 501) hx hb dL_law_494 (by decide) (fun h => absurd h hz) (fun _ => ?_)
          refine lv_iconst (v := (1 : Int32)) hx hb dL_law_497 (by decide) ?_
          refine lv_goto (tgt := 502) hx hb dL_law_498 (by decide) ?_
          refine pq_cvIL (n := 2) (As := [.int (xs (nI (6 * t) + (1 : Int32)).toNatClampNeg), .int (1 : Int32)]) (wr := wD cI cL x as S1) C hh (kX7_pack l D cI cL ym ad M M1 (xs (nI (6 * t) + (1 : Int32)).toNatClampNeg) (1 : Int32) r hdm) (gvX7_pack hs (pq_m29 _ (List.mem_of_getElem? (i := 2) rfl))) rfl (by decide +kernel) ⟨by decide, by decide⟩ 0 6 rfl rfl rfl hl.1 rfl rfl (Nat.le_of_ble_eq_true rfl) dL_law_502 ⟨Nat.le_refl _, Nat.le_refl _⟩ (fun H locs hh => ?_)
          refine lv_icmp_eq (tgt := 655) hx hb dL_law_505 (by decide) (fun _ => ?_) (fun h => absurd rfl h)
          exact fin S1 M1 hR1 _ _ hh ls hl
      by_cases w12 : v = (12 : Int32)
      · refine lv_tableIn (tgt := 510) hx hb dL_law_33 (by rw [w12]; decide) (by rw [w12]; decide) (by rw [w12]; rfl) (by decide) ?_
        refine lv_aload_n hx hb dL_law_510 rfl (lv_at hl 1 rfl) ?_
        refine lv_aload_n hx hb dL_law_511 rfl (lv_at hl 0 rfl) ?_
        refine lv_iload_n hx hb dL_law_512 rfl (lv_at hl 3 rfl) ?_
        refine lv_iconst (v := (1 : Int32)) hx hb dL_law_513 (by decide) ?_
        refine lv_iadd hx hb dL_law_514 ?_
        refine va_sld hx hb hX hbl hbA hh.2.2 i1 dL_law_515 ?_
        refine lv_aload_n hx hb dL_law_516 rfl (lv_at hl 0 rfl) ?_
        refine lv_iload_n hx hb dL_law_517 rfl (lv_at hl 3 rfl) ?_
        refine lv_iconst (v := (2 : Int32)) hx hb dL_law_518 (by decide) ?_
        refine lv_iadd hx hb dL_law_519 ?_
        refine va_sld hx hb hX hbl hbA hh.2.2 i2 dL_law_520 ?_
        refine lv_if_eq (tgt := 528) hx hb dL_law_521 (by decide) (fun hz => ?_) (fun hz => ?_)
        · skip
          refine lv_iconst (v := (0 : Int32)) hx hb dL_law_528 (by decide) ?_
          refine lv_aload_n hx hb dL_law_529 rfl (lv_at hl 0 rfl) ?_
          refine lv_iload_n hx hb dL_law_530 rfl (lv_at hl 3 rfl) ?_
          refine lv_iconst (v := (3 : Int32)) hx hb dL_law_531 (by decide) ?_
          refine lv_iadd hx hb dL_law_532 ?_
          refine va_sld hx hb hX hbl hbA hh.2.2 i3 dL_law_533 ?_
          obtain ⟨r, S1, M1, hdx, hdm, hR1⟩ := h_unpack S M (xs (nI (6 * t) + (1 : Int32)).toNatClampNeg) (0 : Int32) (xs (nI (6 * t) + (3 : Int32)).toNatClampNeg) hR
          refine pq_cvIL (n := 3) (As := [.int (xs (nI (6 * t) + (1 : Int32)).toNatClampNeg), .int (0 : Int32), .int (xs (nI (6 * t) + (3 : Int32)).toNatClampNeg)]) (wr := wM cI ym ad M) C hh (kX6_unpack l D cI cL x as S S1 (xs (nI (6 * t) + (1 : Int32)).toNatClampNeg) (0 : Int32) (xs (nI (6 * t) + (3 : Int32)).toNatClampNeg) r hdx) (gvX6_unpack hs (pq_m29 _ (List.mem_of_getElem? (i := 14) rfl))) rfl (by decide +kernel) ⟨by decide, by decide⟩ 0 5 rfl rfl rfl hl.1 rfl rfl (Nat.le_of_ble_eq_true rfl) dL_law_534 ⟨Nat.le_refl _, Nat.le_refl _⟩ (fun H locs hh => ?_)
          refine lv_aload_n hx hb dL_law_537 rfl (lv_at hl 2 rfl) ?_
          refine lv_aload_n hx hb dL_law_538 rfl (lv_at hl 0 rfl) ?_
          refine lv_iload_n hx hb dL_law_539 rfl (lv_at hl 3 rfl) ?_
          refine lv_iconst (v := (1 : Int32)) hx hb dL_law_540 (by decide) ?_
          refine lv_iadd hx hb dL_law_541 ?_
          refine va_sld hx hb hX hbl hbA hh.2.2 i1 dL_law_542 ?_
          refine lv_aload_n hx hb dL_law_543 rfl (lv_at hl 0 rfl) ?_
          refine lv_iload_n hx hb dL_law_544 rfl (lv_at hl 3 rfl) ?_
          refine lv_iconst (v := (2 : Int32)) hx hb dL_law_545 (by decide) ?_
          refine lv_iadd hx hb dL_law_546 ?_
          refine va_sld hx hb hX hbl hbA hh.2.2 i2 dL_law_547 ?_
          refine lv_if_eq (tgt := 555) hx hb dL_law_548 (by decide) (fun _ => ?_) (fun h => absurd hz h)
          refine lv_iconst (v := (0 : Int32)) hx hb dL_law_555 (by decide) ?_
          refine lv_aload_n hx hb dL_law_556 rfl (lv_at hl 0 rfl) ?_
          refine lv_iload_n hx hb dL_law_557 rfl (lv_at hl 3 rfl) ?_
          refine lv_iconst (v := (3 : Int32)) hx hb dL_law_558 (by decide) ?_
          refine lv_iadd hx hb dL_law_559 ?_
          refine va_sld hx hb hX hbl hbA hh.2.2 i3 dL_law_560 ?_
          refine pq_cvIL (n := 3) (As := [.int (xs (nI (6 * t) + (1 : Int32)).toNatClampNeg), .int (0 : Int32), .int (xs (nI (6 * t) + (3 : Int32)).toNatClampNeg)]) (wr := wD cI cL x as S1) C hh (kX7_unpack l D cI cL ym ad M M1 (xs (nI (6 * t) + (1 : Int32)).toNatClampNeg) (0 : Int32) (xs (nI (6 * t) + (3 : Int32)).toNatClampNeg) r hdm) (gvX7_unpack hs (pq_m30 _ (List.mem_of_getElem? (i := 3) rfl))) rfl (by decide +kernel) ⟨by decide, by decide⟩ 0 6 rfl rfl rfl hl.1 rfl rfl (Nat.le_of_ble_eq_true rfl) dL_law_561 ⟨Nat.le_refl _, Nat.le_refl _⟩ (fun H locs hh => ?_)
          refine lv_icmp_eq (tgt := 655) hx hb dL_law_564 (by decide) (fun _ => ?_) (fun h => absurd rfl h)
          exact fin S1 M1 hR1 _ _ hh ls hl
        · skip
          refine lv_iconst (v := (1 : Int32)) hx hb dL_law_524 (by decide) ?_
          refine lv_goto (tgt := 529) hx hb dL_law_525 (by decide) ?_
          refine lv_aload_n hx hb dL_law_529 rfl (lv_at hl 0 rfl) ?_
          refine lv_iload_n hx hb dL_law_530 rfl (lv_at hl 3 rfl) ?_
          refine lv_iconst (v := (3 : Int32)) hx hb dL_law_531 (by decide) ?_
          refine lv_iadd hx hb dL_law_532 ?_
          refine va_sld hx hb hX hbl hbA hh.2.2 i3 dL_law_533 ?_
          obtain ⟨r, S1, M1, hdx, hdm, hR1⟩ := h_unpack S M (xs (nI (6 * t) + (1 : Int32)).toNatClampNeg) (1 : Int32) (xs (nI (6 * t) + (3 : Int32)).toNatClampNeg) hR
          refine pq_cvIL (n := 3) (As := [.int (xs (nI (6 * t) + (1 : Int32)).toNatClampNeg), .int (1 : Int32), .int (xs (nI (6 * t) + (3 : Int32)).toNatClampNeg)]) (wr := wM cI ym ad M) C hh (kX6_unpack l D cI cL x as S S1 (xs (nI (6 * t) + (1 : Int32)).toNatClampNeg) (1 : Int32) (xs (nI (6 * t) + (3 : Int32)).toNatClampNeg) r hdx) (gvX6_unpack hs (pq_m29 _ (List.mem_of_getElem? (i := 14) rfl))) rfl (by decide +kernel) ⟨by decide, by decide⟩ 0 5 rfl rfl rfl hl.1 rfl rfl (Nat.le_of_ble_eq_true rfl) dL_law_534 ⟨Nat.le_refl _, Nat.le_refl _⟩ (fun H locs hh => ?_)
          refine lv_aload_n hx hb dL_law_537 rfl (lv_at hl 2 rfl) ?_
          refine lv_aload_n hx hb dL_law_538 rfl (lv_at hl 0 rfl) ?_
          refine lv_iload_n hx hb dL_law_539 rfl (lv_at hl 3 rfl) ?_
          refine lv_iconst (v := (1 : Int32)) hx hb dL_law_540 (by decide) ?_
          refine lv_iadd hx hb dL_law_541 ?_
          refine va_sld hx hb hX hbl hbA hh.2.2 i1 dL_law_542 ?_
          refine lv_aload_n hx hb dL_law_543 rfl (lv_at hl 0 rfl) ?_
          refine lv_iload_n hx hb dL_law_544 rfl (lv_at hl 3 rfl) ?_
          refine lv_iconst (v := (2 : Int32)) hx hb dL_law_545 (by decide) ?_
          refine lv_iadd hx hb dL_law_546 ?_
          refine va_sld hx hb hX hbl hbA hh.2.2 i2 dL_law_547 ?_
          refine lv_if_eq (tgt := 555) hx hb dL_law_548 (by decide) (fun h => absurd h hz) (fun _ => ?_)
          refine lv_iconst (v := (1 : Int32)) hx hb dL_law_551 (by decide) ?_
          refine lv_goto (tgt := 556) hx hb dL_law_552 (by decide) ?_
          refine lv_aload_n hx hb dL_law_556 rfl (lv_at hl 0 rfl) ?_
          refine lv_iload_n hx hb dL_law_557 rfl (lv_at hl 3 rfl) ?_
          refine lv_iconst (v := (3 : Int32)) hx hb dL_law_558 (by decide) ?_
          refine lv_iadd hx hb dL_law_559 ?_
          refine va_sld hx hb hX hbl hbA hh.2.2 i3 dL_law_560 ?_
          refine pq_cvIL (n := 3) (As := [.int (xs (nI (6 * t) + (1 : Int32)).toNatClampNeg), .int (1 : Int32), .int (xs (nI (6 * t) + (3 : Int32)).toNatClampNeg)]) (wr := wD cI cL x as S1) C hh (kX7_unpack l D cI cL ym ad M M1 (xs (nI (6 * t) + (1 : Int32)).toNatClampNeg) (1 : Int32) (xs (nI (6 * t) + (3 : Int32)).toNatClampNeg) r hdm) (gvX7_unpack hs (pq_m30 _ (List.mem_of_getElem? (i := 3) rfl))) rfl (by decide +kernel) ⟨by decide, by decide⟩ 0 6 rfl rfl rfl hl.1 rfl rfl (Nat.le_of_ble_eq_true rfl) dL_law_561 ⟨Nat.le_refl _, Nat.le_refl _⟩ (fun H locs hh => ?_)
          refine lv_icmp_eq (tgt := 655) hx hb dL_law_564 (by decide) (fun _ => ?_) (fun h => absurd rfl h)
          exact fin S1 M1 hR1 _ _ hh ls hl
      by_cases w13 : v = (13 : Int32)
      · refine lv_tableIn (tgt := 569) hx hb dL_law_33 (by rw [w13]; decide) (by rw [w13]; decide) (by rw [w13]; rfl) (by decide) ?_
        refine lv_aload_n hx hb dL_law_569 rfl (lv_at hl 1 rfl) ?_
        refine lv_aload_n hx hb dL_law_570 rfl (lv_at hl 0 rfl) ?_
        refine lv_iload_n hx hb dL_law_571 rfl (lv_at hl 3 rfl) ?_
        refine lv_iconst (v := (1 : Int32)) hx hb dL_law_572 (by decide) ?_
        refine lv_iadd hx hb dL_law_573 ?_
        refine va_sld hx hb hX hbl hbA hh.2.2 i1 dL_law_574 ?_
        refine lv_aload_n hx hb dL_law_575 rfl (lv_at hl 0 rfl) ?_
        refine lv_iload_n hx hb dL_law_576 rfl (lv_at hl 3 rfl) ?_
        refine lv_iconst (v := (2 : Int32)) hx hb dL_law_577 (by decide) ?_
        refine lv_iadd hx hb dL_law_578 ?_
        refine va_sld hx hb hX hbl hbA hh.2.2 i2 dL_law_579 ?_
        refine lv_aload_n hx hb dL_law_580 rfl (lv_at hl 0 rfl) ?_
        refine lv_iload_n hx hb dL_law_581 rfl (lv_at hl 3 rfl) ?_
        refine lv_iconst (v := (3 : Int32)) hx hb dL_law_582 (by decide) ?_
        refine lv_iadd hx hb dL_law_583 ?_
        refine va_sld hx hb hX hbl hbA hh.2.2 i3 dL_law_584 ?_
        obtain ⟨r, S1, M1, hdx, hdm, hR1⟩ := h_pass S M (xs (nI (6 * t) + (1 : Int32)).toNatClampNeg) (xs (nI (6 * t) + (2 : Int32)).toNatClampNeg) (xs (nI (6 * t) + (3 : Int32)).toNatClampNeg) hR
        refine pq_cvIL (n := 3) (As := [.int (xs (nI (6 * t) + (1 : Int32)).toNatClampNeg), .int (xs (nI (6 * t) + (2 : Int32)).toNatClampNeg), .int (xs (nI (6 * t) + (3 : Int32)).toNatClampNeg)]) (wr := wM cI ym ad M) C hh (kX6_pass l D cI cL x as S S1 (xs (nI (6 * t) + (1 : Int32)).toNatClampNeg) (xs (nI (6 * t) + (2 : Int32)).toNatClampNeg) (xs (nI (6 * t) + (3 : Int32)).toNatClampNeg) r hdx) (gvX6_pass hs (pq_m30 _ (List.mem_of_getElem? (i := 11) rfl))) rfl (by decide +kernel) ⟨by decide, by decide⟩ 0 5 rfl rfl rfl hl.1 rfl rfl (Nat.le_of_ble_eq_true rfl) dL_law_585 ⟨Nat.le_refl _, Nat.le_refl _⟩ (fun H locs hh => ?_)
        refine lv_aload_n hx hb dL_law_588 rfl (lv_at hl 2 rfl) ?_
        refine lv_aload_n hx hb dL_law_589 rfl (lv_at hl 0 rfl) ?_
        refine lv_iload_n hx hb dL_law_590 rfl (lv_at hl 3 rfl) ?_
        refine lv_iconst (v := (1 : Int32)) hx hb dL_law_591 (by decide) ?_
        refine lv_iadd hx hb dL_law_592 ?_
        refine va_sld hx hb hX hbl hbA hh.2.2 i1 dL_law_593 ?_
        refine lv_aload_n hx hb dL_law_594 rfl (lv_at hl 0 rfl) ?_
        refine lv_iload_n hx hb dL_law_595 rfl (lv_at hl 3 rfl) ?_
        refine lv_iconst (v := (2 : Int32)) hx hb dL_law_596 (by decide) ?_
        refine lv_iadd hx hb dL_law_597 ?_
        refine va_sld hx hb hX hbl hbA hh.2.2 i2 dL_law_598 ?_
        refine lv_aload_n hx hb dL_law_599 rfl (lv_at hl 0 rfl) ?_
        refine lv_iload_n hx hb dL_law_600 rfl (lv_at hl 3 rfl) ?_
        refine lv_iconst (v := (3 : Int32)) hx hb dL_law_601 (by decide) ?_
        refine lv_iadd hx hb dL_law_602 ?_
        refine va_sld hx hb hX hbl hbA hh.2.2 i3 dL_law_603 ?_
        refine pq_cvIL (n := 3) (As := [.int (xs (nI (6 * t) + (1 : Int32)).toNatClampNeg), .int (xs (nI (6 * t) + (2 : Int32)).toNatClampNeg), .int (xs (nI (6 * t) + (3 : Int32)).toNatClampNeg)]) (wr := wD cI cL x as S1) C hh (kX7_pass l D cI cL ym ad M M1 (xs (nI (6 * t) + (1 : Int32)).toNatClampNeg) (xs (nI (6 * t) + (2 : Int32)).toNatClampNeg) (xs (nI (6 * t) + (3 : Int32)).toNatClampNeg) r hdm) (gvX7_pass hs (pq_m30 _ (List.mem_of_getElem? (i := 15) rfl))) rfl (by decide +kernel) ⟨by decide, by decide⟩ 0 6 rfl rfl rfl hl.1 rfl rfl (Nat.le_of_ble_eq_true rfl) dL_law_604 ⟨Nat.le_refl _, Nat.le_refl _⟩ (fun H locs hh => ?_)
        refine lv_icmp_eq (tgt := 655) hx hb dL_law_607 (by decide) (fun _ => ?_) (fun h => absurd rfl h)
        exact fin S1 M1 hR1 _ _ hh ls hl
      by_cases w14 : v = (14 : Int32)
      · refine lv_tableIn (tgt := 612) hx hb dL_law_33 (by rw [w14]; decide) (by rw [w14]; decide) (by rw [w14]; rfl) (by decide) ?_
        refine lv_aload_n hx hb dL_law_612 rfl (lv_at hl 1 rfl) ?_
        refine lv_aload_n hx hb dL_law_613 rfl (lv_at hl 0 rfl) ?_
        refine lv_iload_n hx hb dL_law_614 rfl (lv_at hl 3 rfl) ?_
        refine lv_iconst (v := (1 : Int32)) hx hb dL_law_615 (by decide) ?_
        refine lv_iadd hx hb dL_law_616 ?_
        refine va_sld hx hb hX hbl hbA hh.2.2 i1 dL_law_617 ?_
        refine lv_aload_n hx hb dL_law_618 rfl (lv_at hl 0 rfl) ?_
        refine lv_iload_n hx hb dL_law_619 rfl (lv_at hl 3 rfl) ?_
        refine lv_iconst (v := (2 : Int32)) hx hb dL_law_620 (by decide) ?_
        refine lv_iadd hx hb dL_law_621 ?_
        refine va_sld hx hb hX hbl hbA hh.2.2 i2 dL_law_622 ?_
        refine lv_aload_n hx hb dL_law_623 rfl (lv_at hl 0 rfl) ?_
        refine lv_iload_n hx hb dL_law_624 rfl (lv_at hl 3 rfl) ?_
        refine lv_iconst (v := (3 : Int32)) hx hb dL_law_625 (by decide) ?_
        refine lv_iadd hx hb dL_law_626 ?_
        refine va_sld hx hb hX hbl hbA hh.2.2 i3 dL_law_627 ?_
        obtain ⟨r, S1, M1, hdx, hdm, hR1⟩ := h_law S M (xs (nI (6 * t) + (1 : Int32)).toNatClampNeg) (xs (nI (6 * t) + (2 : Int32)).toNatClampNeg) (xs (nI (6 * t) + (3 : Int32)).toNatClampNeg) hR
        refine pq_cvIL (n := 3) (As := [.int (xs (nI (6 * t) + (1 : Int32)).toNatClampNeg), .int (xs (nI (6 * t) + (2 : Int32)).toNatClampNeg), .int (xs (nI (6 * t) + (3 : Int32)).toNatClampNeg)]) (wr := wM cI ym ad M) C hh (kX6_law l D cI cL x as S S1 (xs (nI (6 * t) + (1 : Int32)).toNatClampNeg) (xs (nI (6 * t) + (2 : Int32)).toNatClampNeg) (xs (nI (6 * t) + (3 : Int32)).toNatClampNeg) r hdx) (gvX6_law hs (pq_m30 _ (List.mem_of_getElem? (i := 19) rfl))) rfl (by decide +kernel) ⟨by decide, by decide⟩ 0 5 rfl rfl rfl hl.1 rfl rfl (Nat.le_of_ble_eq_true rfl) dL_law_628 ⟨Nat.le_refl _, Nat.le_refl _⟩ (fun H locs hh => ?_)
        refine lv_aload_n hx hb dL_law_631 rfl (lv_at hl 2 rfl) ?_
        refine lv_aload_n hx hb dL_law_632 rfl (lv_at hl 0 rfl) ?_
        refine lv_iload_n hx hb dL_law_633 rfl (lv_at hl 3 rfl) ?_
        refine lv_iconst (v := (1 : Int32)) hx hb dL_law_634 (by decide) ?_
        refine lv_iadd hx hb dL_law_635 ?_
        refine va_sld hx hb hX hbl hbA hh.2.2 i1 dL_law_636 ?_
        refine lv_aload_n hx hb dL_law_637 rfl (lv_at hl 0 rfl) ?_
        refine lv_iload_n hx hb dL_law_638 rfl (lv_at hl 3 rfl) ?_
        refine lv_iconst (v := (2 : Int32)) hx hb dL_law_639 (by decide) ?_
        refine lv_iadd hx hb dL_law_640 ?_
        refine va_sld hx hb hX hbl hbA hh.2.2 i2 dL_law_641 ?_
        refine lv_aload_n hx hb dL_law_642 rfl (lv_at hl 0 rfl) ?_
        refine lv_iload_n hx hb dL_law_643 rfl (lv_at hl 3 rfl) ?_
        refine lv_iconst (v := (3 : Int32)) hx hb dL_law_644 (by decide) ?_
        refine lv_iadd hx hb dL_law_645 ?_
        refine va_sld hx hb hX hbl hbA hh.2.2 i3 dL_law_646 ?_
        refine pq_cvIL (n := 3) (As := [.int (xs (nI (6 * t) + (1 : Int32)).toNatClampNeg), .int (xs (nI (6 * t) + (2 : Int32)).toNatClampNeg), .int (xs (nI (6 * t) + (3 : Int32)).toNatClampNeg)]) (wr := wD cI cL x as S1) C hh (kX7_law l D cI cL ym ad M M1 (xs (nI (6 * t) + (1 : Int32)).toNatClampNeg) (xs (nI (6 * t) + (2 : Int32)).toNatClampNeg) (xs (nI (6 * t) + (3 : Int32)).toNatClampNeg) r hdm) (gvX7_law hs (pq_m31 _ (List.mem_of_getElem? (i := 10) rfl))) rfl (by decide +kernel) ⟨by decide, by decide⟩ 0 6 rfl rfl rfl hl.1 rfl rfl (Nat.le_of_ble_eq_true rfl) dL_law_647 ⟨Nat.le_refl _, Nat.le_refl _⟩ (fun H locs hh => ?_)
        refine lv_icmp_eq (tgt := 655) hx hb dL_law_650 (by decide) (fun _ => ?_) (fun h => absurd rfl h)
        exact fin S1 M1 hR1 _ _ hh ls hl
      refine lv_tableOut (tgt := 655) hx hb dL_law_33 (pq_tsOut (hi := 14) (by decide) (by intro k hk; rcases (by omega : k = 0 ∨ k = 1 ∨ k = 2 ∨ k = 3 ∨ k = 4 ∨ k = 5 ∨ k = 6 ∨ k = 7 ∨ k = 8 ∨ k = 9 ∨ k = 10 ∨ k = 11 ∨ k = 12 ∨ k = 13 ∨ k = 14) with rfl | rfl | rfl | rfl | rfl | rfl | rfl | rfl | rfl | rfl | rfl | rfl | rfl | rfl | rfl <;> assumption)) (by decide) ?_
      exact fin S M hR H locs hh ls hl
