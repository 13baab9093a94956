/-! rows of samples packed, on both sides -/
theorem frm.tr {s : Nat} {g b v g1 b1 v1 g2 b2 v2 : Nat → Int32} (h : frm s g b v g1 b1 v1) (h' : frm s g1 b1 v1 g2 b2 v2) : frm s g b v g2 b2 v2 := ⟨fun p hp => by rw [h'.1 p hp, h.1 p hp], fun p hp => by rw [h'.2.1 p hp, h.2.1 p hp], fun p hp => by rw [h'.2.2 p hp, h.2.2 p hp]⟩
theorem sh_1 {i : Nat} (hi : i < 100000) : nI i <<< ((1 : Int32) &&& 31) = nI (2 * i) := by rw [pk_shlN _ 1 (by decide) (by omega), Nat.mul_comm]
theorem sh_2 {i : Nat} (hi : i < 100000) : nI i <<< ((2 : Int32) &&& 31) = nI (4 * i) := by rw [pk_shlN _ 2 (by decide) (by omega), Nat.mul_comm]
theorem hs_1 {i : Nat} (hi : i < 100000) : nI i >>> ((1 : Int32) &&& 31) = nI (i / 2) := pk_shrN (by omega) _ 1 (by decide)
theorem hs_2 {i : Nat} (hi : i < 100000) : nI i >>> ((2 : Int32) &&& 31) = nI (i / 4) := pk_shrN (by omega) _ 2 (by decide)
theorem ix_7 (a : Nat) : nI a + (7 : Int32) = nI (a + 7) := ix_l a 7
theorem ix_2 (a : Nat) : nI a + (2 : Int32) = nI (a + 2) := ix_l a 2
theorem nz_2 {β : Type} (k : Option β) : pq_nz (2 : Int32) k = k := if_neg (by decide)
theorem nz_4 {β : Type} (k : Option β) : pq_nz (4 : Int32) k = k := if_neg (by decide)
theorem ml_2 (i : Nat) : (2 : Int32) * nI i = nI (2 * i) := pk_mul 2 i
theorem ml_4 (i : Nat) : (4 : Int32) * nI i = nI (4 * i) := pk_mul 4 i
theorem mul_in {i n B m : Nat} (hi : i < n) (h : n * B ≤ 8 * m) : i * B + B ≤ 8 * m := by
  have : (i + 1) * B ≤ n * B := Nat.mul_le_mul_right _ hi
  rw [Nat.succ_mul] at this
  omega
section PK
variable {fk b2 b3 b4 b5 t2 t3 t4 t5 w2 w3 w4 w5 p2 p3 p4 p5 fc fs fr fu fh fl fw tr tf : Nat → Int32}
theorem zero_r {m : Nat} (hm : m ≤ 1000) (x1 x2 x3 x4 x5 to z e y od ev ta : Int32) (g b v : Nat → Int32) : ∀ (F i : Nat) (f : Nat → Int32), i ≤ m → m < F + i → ∃ f1, fX7_pack_b75 fk b2 b3 b4 b5 t2 t3 t4 t5 w2 w3 w4 w5 p2 p3 p4 p5 fc fs fr fu fh fl fw tf F x1 x2 x3 x4 x5 (nI i) to z e y od ev ta (nI m) g b v f = fX7_pack_b101 fk b2 b3 b4 b5 t2 t3 t4 t5 w2 w3 w4 w5 p2 p3 p4 p5 fc fs fr fu fh fl fw tf 1100 x1 x2 x3 x4 x5 0 to z e y od ev ta (nI m) g b v f1 ∧ (∀ j, j < i → f1 j = f j) ∧ ∀ j, i ≤ j → j < m → f1 j = 0 := by
  intro F
  induction F with
  | zero => intro i r h1 h2; exact absurd h2 (by omega)
  | succ F ih =>
    intro i r h1 h2
    rw [fX7_pack_b75]
    by_cases g : m ≤ i
    · rw [br_t1 (nI_le g (by omega))]
      exact ⟨r, rfl, fun _ _ => rfl, fun j h3 h4 => absurd h4 (by omega)⟩
    · rw [br_f1 (nI_ge (by omega) (by omega)), wr_in (j := i) rfl (by omega) (by omega), nm_eq, nI_1]
      obtain ⟨r1, k1, k2, k3⟩ := ih (i + 1) (upd r i 0) (by omega) (by omega)
      refine ⟨r1, k1, fun j hj => ?_, fun j h3 h4 => ?_⟩
      · rw [k2 j (by omega)]; exact pk_un (by omega)
      · by_cases e : j = i
        · subst e; rw [k2 j (by omega)]; exact pk_us
        · exact k3 j (by omega) h4
set_option maxHeartbeats 1000000 in
theorem packN (hB : mt4 b2 b3 b4 b5 lB2 lB3 lB4 lB5) (hT : mt4 t2 t3 t4 t5 lT2 lT3 lT4 lT5) (hW : mt4 w2 w3 w4 w5 lW2 lW3 lW4 lW5) (hP : mt4 p2 p3 p4 p5 lP2 lP3 lP4 lP5) {k q t n m : Nat} (hk : k < 4) (hq : q < 6) (hfk : fk k = nI q) (hn : n ≤ 500) (ht : t = 2 * n) (hm1 : m ≤ 1000) (hm : n * bt q ≤ 8 * m) {bits : Int32} {lo hi x b v : Nat → Int32} (hT0 : ag t tr tf) (first to od ev : Int32) : ∀ (F i : Nat) (r f nn g : Nat → Int32) (se sz st z e y : Int32), i ≤ n → n < F + i → ag m r f → vR (2 * k) q bits nn lo hi x g b v → ∃ (se1 sz1 st1 z1 e1 y1 : Int32) (n1 g1 r1 f1 : Nat → Int32), fX6_pack_i_b78 tr (nI q) bits F first 1 (nI n) (nI (bt q)) (nI i) (nI t) (nI m) r se sz st nn lo hi x = some (nI n, 0, nI m, r1, se1, sz1, st1, n1, lo, hi, x) ∧ fX7_pack_b101 fk b2 b3 b4 b5 t2 t3 t4 t5 w2 w3 w4 w5 p2 p3 p4 p5 fc fs fr fu fh fl fw tf F (nI k) first 2 (nI n) (nI (bt q)) (nI i) to z e y od ev (nI t) (nI m) g b v f = some (nI n, to, z1, e1, y1, od, ev, 0, nI m, g1, b, v, f1) ∧ vR (2 * k) q bits n1 lo hi x g1 b v ∧ frm (2 * k) g b v g1 b v ∧ ag m r1 f1 := by
  intro F
  induction F with
  | zero => intro i r f nn g se sz st z e y h1 h2; exact absurd h2 (by omega)
  | succ F ih =>
    intro i r f nn g se sz st z e y h1 h2 hr hR
    rw [fX6_pack_i_b78, fX7_pack_b101]
    by_cases g0 : n ≤ i
    · rw [br_t1 (nI_le g0 (by omega)), br_t1 (nI_le g0 (by omega))]
      exact ⟨se, sz, st, z, e, y, nn, g, r, f, rfl, rfl, hR, frm.rf _ _ _ _, hr⟩
    · obtain ⟨s1, s2⟩ := sam_both (j := 2 * i) (t := t) (by omega) (by omega) hT0
      obtain ⟨c, se1, sz1, st1, z1, e1, y1, n1, g1, m1, m2, m3, m4, m5⟩ := enc_n hB hT hW hP hk hq hfk _ 0 (wrap_rng ((tr (2 * i) <<< ((8 : Int32) &&& 31)) ||| tr (2 * i + 1))) hR se sz st z e y
      obtain ⟨r1, f1, q1, q2, q3⟩ := put_both (tf := tf) (bt_le q).1 hm1 (mul_in (i := i) (by omega) hm) (fX7_pack_b101 fk b2 b3 b4 b5 t2 t3 t4 t5 w2 w3 w4 w5 p2 p3 p4 p5 fc fs fr fu fh fl fw tf F) first (nI c) (nI k) 2 (nI n) to z1 e1 y1 od ev (nI t) (nI m) g1 b v 1100 0 r f (by omega) (by have := (bt_le q).1; omega) hr
      obtain ⟨se2, sz2, st2, z2, e2, y2, n2, g2, r2, f2, k1, k2, k3, k4, k5⟩ := ih (i + 1) r1 f1 n1 g1 se1 sz1 st1 z1 e1 y1 (by omega) (by omega) q3 m4
      refine ⟨se2, sz2, st2, z2, e2, y2, n2, g2, r2, f2, ?_, ?_, k3, m5.tr k4, k5⟩
      · rw [br_f1 (nI_ge (by omega) (by omega)), sh_1 (by omega), nm_eq, kd_W q (by omega), if_pos hq, cl_eq, br_t1 rfl, fX6_pack_i_b114, s1, cl_eq, m2, cl_eq, nm_eq, nm_eq, nm_eq, nm_eq, nm_eq, nm_eq, nm_eq, nm_eq, fX2_putCode, show (0 : Int32) = nI 0 from rfl, q1, cl_eq, nm_eq, nI_1]
        exact k1
      · rw [br_f1 (nI_ge (by omega) (by omega)), br_f1 (by decide), ml_2, s2, cl_eq, m3, cl_eq, nm_eq, nm_eq, nm_eq, nm_eq, nm_eq, fX7_pack_b154, show (0 : Int32) = nI 0 from rfl, q2]
        exact k2
set_option maxHeartbeats 1000000 in
theorem packW (hfc : mt fc lCo) (hfs : mt fs lSt) (hfr : mt fr lRoots) (hfu : mt fu lUps) (hfh : mt fh lHig) (hfl : mt fl lLw) (hfw : mt fw lHw) {k q t n m : Nat} (hk : k < 4) (hq : q < 9) (h6 : 6 ≤ q) (hn : n ≤ 500) (ht : t = 4 * n) (ht1 : t ≤ 1000) (hm1 : m ≤ 1000) (hm : n * bt q ≤ 8 * m) {bits se sz st : Int32} {nn g : Nat → Int32} (hT0 : ag t tr tf) (first to z e y : Int32) : ∀ (F i : Nat) (r f lo hi x b v : Nat → Int32) (od ev : Int32), i ≤ n → n < F + i → ag m r f → vR (2 * k) q bits nn lo hi x g b v → ∃ (od1 ev1 : Int32) (lo1 hi1 x1 b1 v1 r1 f1 : Nat → Int32), fX6_pack_i_b78 tr (nI q) bits F first 2 (nI n) (nI (bt q)) (nI i) (nI t) (nI m) r se sz st nn lo hi x = some (nI n, 0, nI m, r1, se, sz, st, nn, lo1, hi1, x1) ∧ fX7_pack_b101 fk b2 b3 b4 b5 t2 t3 t4 t5 w2 w3 w4 w5 p2 p3 p4 p5 fc fs fr fu fh fl fw tf F (nI k) first 4 (nI n) (nI (bt q)) (nI i) to z e y od ev (nI t) (nI m) g b v f = some (nI n, to, z, e, y, od1, ev1, 0, nI m, g, b1, v1, f1) ∧ vR (2 * k) q bits nn lo1 hi1 x1 g b1 v1 ∧ frm (2 * k) g b v g b1 v1 ∧ ag m r1 f1 := by
  intro F
  induction F with
  | zero => intro i r f lo hi x b v od ev h1 h2; exact absurd h2 (by omega)
  | succ F ih =>
    intro i r f lo hi x b v od ev h1 h2 hr hR
    rw [fX6_pack_i_b78, fX7_pack_b101]
    by_cases g0 : n ≤ i
    · rw [br_t1 (nI_le g0 (by omega)), br_t1 (nI_le g0 (by omega))]
      exact ⟨od, ev, lo, hi, x, b, v, r, f, rfl, rfl, hR, frm.rf _ _ _ _, hr⟩
    · obtain ⟨s1, s2⟩ := sam_both (j := 4 * i) (t := t) (by omega) ht1 hT0
      obtain ⟨s3, s4⟩ := sam_both (j := 4 * i + 2) (t := t) (by omega) ht1 hT0
      obtain ⟨c, o1, ev1, lo1, hi1, x1, b1, v1, m1, m2, m3, m4, m5⟩ := enc_w hfc hfs hfr hfu hfh hfl hfw hk hq h6 (tWrap ((tr (4 * i) <<< ((8 : Int32) &&& 31)) ||| tr (4 * i + 1))) (tWrap ((tr (4 * i + 2) <<< ((8 : Int32) &&& 31)) ||| tr (4 * i + 2 + 1))) hR se sz st od ev
      obtain ⟨r1, f1, q1, q2, q3⟩ := put_both (tf := tf) (bt_le q).1 hm1 (mul_in (i := i) (by omega) hm) (fX7_pack_b101 fk b2 b3 b4 b5 t2 t3 t4 t5 w2 w3 w4 w5 p2 p3 p4 p5 fc fs fr fu fh fl fw tf F) first (nI c) (nI k) 4 (nI n) to z e y o1 ev1 (nI t) (nI m) g b1 v1 1100 0 r f (by omega) (by have := (bt_le q).1; omega) hr
      obtain ⟨o2, ev2, lo2, hi2, x2, b2', v2, r2, f2, k1, k2, k3, k4, k5⟩ := ih (i + 1) r1 f1 lo1 hi1 x1 b1 v1 o1 ev1 (by omega) (by omega) q3 m4
      refine ⟨o2, ev2, lo2, hi2, x2, b2', v2, r2, f2, ?_, ?_, k3, m5.tr k4, k5⟩
      · rw [br_f1 (nI_ge (by omega) (by omega)), sh_2 (by omega), nm_eq, kd_W q (by omega), if_neg (by omega), cl_eq, br_f1 (by decide), ix_2, s3, cl_eq, fX6_pack_i_b114, s1, cl_eq, m2, cl_eq, nm_eq, nm_eq, nm_eq, nm_eq, nm_eq, nm_eq, nm_eq, nm_eq, fX2_putCode, show (0 : Int32) = nI 0 from rfl, q1, cl_eq, nm_eq, nI_1]
        exact k1
      · rw [br_f1 (nI_ge (by omega) (by omega)), br_t1 rfl, ml_4, ix_2, s2, cl_eq, s4, cl_eq, m3, cl_eq, nm_eq, nm_eq, nm_eq, nm_eq, nm_eq, fX7_pack_b154, show (0 : Int32) = nI 0 from rfl, q2]
        exact k2
set_option maxHeartbeats 1000000 in
theorem pack_both (hB : mt4 b2 b3 b4 b5 lB2 lB3 lB4 lB5) (hT : mt4 t2 t3 t4 t5 lT2 lT3 lT4 lT5) (hW : mt4 w2 w3 w4 w5 lW2 lW3 lW4 lW5) (hP : mt4 p2 p3 p4 p5 lP2 lP3 lP4 lP5) (hfc : mt fc lCo) (hfs : mt fs lSt) (hfr : mt fr lRoots) (hfu : mt fu lUps) (hfh : mt fh lHig) (hfl : mt fl lLw) (hfw : mt fw lHw) {k q t o : Nat} (hk : k < 4) (hq : q < 9) (hfk : fk k = nI q) (ht : t ≤ 1000) (ho : o ≤ 1000) {bits : Int32} {nn lo hi x g b v r f : Nat → Int32} (hT0 : ag t tr tf) (hO : ag o r f) (hR : vR (2 * k) q bits nn lo hi x g b v) (first se sz st to z e y od ev : Int32) : ∃ (w : Int32) (t1 o1 : Nat) (se1 sz1 st1 z1 e1 y1 od1 ev1 : Int32) (n1 lo1 hi1 x1 g1 b1 v1 r1 f1 : Nat → Int32), t1 ≤ t ∧ o1 ≤ 1000 ∧ fX6_pack_i (nI k) first tr (nI q) bits (nI t) (nI o) r se sz st nn lo hi x = some (w, nI t1, nI o1, r1, se1, sz1, st1, n1, lo1, hi1, x1) ∧ fX7_pack (nI k) first fk b2 b3 b4 b5 t2 t3 t4 t5 w2 w3 w4 w5 p2 p3 p4 p5 fc fs fr fu fh fl fw tf to z e y od ev (nI t) (nI o) g b v f = some (w, 0, z1, e1, y1, od1, ev1, nI t1, nI o1, g1, b1, v1, f1) ∧ vR (2 * k) q bits n1 lo1 hi1 x1 g1 b1 v1 ∧ frm (2 * k) g b v g1 b1 v1 ∧ ag o1 r1 f1 := by
  rw [fX6_pack_i, ol_i hk, if_neg (ne_NONE q hq), cl_eq, br_f1 (by decide), fX7_pack, rk_open hk, hfk, if_neg (ne_NONE q hq), cl_eq, br_f1 (by decide), kd_W q hq, cl_eq, rk_pair hk hq hfk, cl_eq]
  have hb8 := (bt_le q).1
  by_cases h6 : q < 6
  · rw [if_pos h6, br_t1 rfl, br_t1 rfl, fX6_pack_i_b25, hs_1 (by omega), nm_eq, sh_1 (by omega), fX7_pack_b29, nz_2, show nI t - nI t / (2 : Int32) * (2 : Int32) = nI (t % 2) from pk_rem (d := 2) (by omega) (by omega) (by omega)]
    by_cases ge : t % 2 = 0
    · have hn8 : t / 2 * bt q ≤ 500 * 8 := Nat.mul_le_mul (by omega) hb8
      obtain ⟨r0, c1, c2⟩ := clear_n (n := t / 2) hb8 (by omega) (nI o) r
      obtain ⟨f0, d1, -, d2⟩ := zero_r (fk := fk) (tf := tf) (b2 := b2) (b3 := b3) (b4 := b4) (b5 := b5) (t2 := t2) (t3 := t3) (t4 := t4) (t5 := t5) (w2 := w2) (w3 := w3) (w4 := w4) (w5 := w5) (p2 := p2) (p3 := p3) (p4 := p4) (p5 := p5) (fc := fc) (fs := fs) (fr := fr) (fu := fu) (fh := fh) (fl := fl) (fw := fw) (m := (t / 2 * bt q + 7) / 8) (by omega) (nI k) first 2 (nI (t / 2)) (nI (bt q)) 0 z e y od ev (nI t) g b v 1100 0 f (by omega) (by omega)
      obtain ⟨se1, sz1, st1, z1, e1, y1, n1, g1, r1, f1, k1, k2, k3, k4, k5⟩ := packN (fc := fc) (fs := fs) (fr := fr) (fu := fu) (fh := fh) (fl := fl) (fw := fw) hB hT hW hP hk h6 hfk (n := t / 2) (by omega) (t := t) (by omega) (m := (t / 2 * bt q + 7) / 8) (by omega) (by omega) hT0 first 0 od ev 1100 0 r0 f0 nn g se sz st z e y (by omega) (by omega) (fun j hj => by rw [c2 j hj, d2 j (by omega) hj]) hR
      rw [br_t1 (by rw [nI_eq (by omega) (by omega)]; omega), br_t1 (by rw [ge]; rfl), nz_2, show nI t / (2 : Int32) = nI (t / 2) from pk_div (d := 2) (by omega) (by omega) (by omega), nm_eq, rk_bits hk hq hfk, cl_eq, nz_8, pk_mul, ix_7, p_div (by omega), nm_eq, show (0 : Int32) = nI 0 from rfl, kd_B q hq, cl_eq, c1, cl_eq, nm_eq, nm_eq]
      exact ⟨nI (t / 2), 0, (t / 2 * bt q + 7) / 8, se1, sz1, st1, z1, e1, y1, od, ev, n1, lo, hi, x, g1, b, v, r1, f1, by omega, by omega, k1, d1.trans k2, k3, k4, k5⟩
    · rw [br_f1 (by rw [nI_eq (by omega) (by omega)]; omega), br_f1 (nI_ne0 (by omega) (by omega))]
      exact ⟨_, t, o, se, sz, st, z, e, y, od, ev, nn, lo, hi, x, g, b, v, r, f, by omega, ho, rfl, rfl, hR, frm.rf _ _ _ _, hO⟩
  · rw [if_neg h6, br_f1 (by decide), br_f1 (by decide), fX6_pack_i_b25, hs_2 (by omega), nm_eq, sh_2 (by omega), fX7_pack_b29, nz_4, show nI t - nI t / (4 : Int32) * (4 : Int32) = nI (t % 4) from pk_rem (d := 4) (by omega) (by omega) (by omega)]
    by_cases ge : t % 4 = 0
    · have hn8 : t / 4 * bt q ≤ 250 * 8 := Nat.mul_le_mul (by omega) hb8
      obtain ⟨r0, c1, c2⟩ := clear_n (n := t / 4) hb8 (by omega) (nI o) r
      obtain ⟨f0, d1, -, d2⟩ := zero_r (fk := fk) (tf := tf) (b2 := b2) (b3 := b3) (b4 := b4) (b5 := b5) (t2 := t2) (t3 := t3) (t4 := t4) (t5 := t5) (w2 := w2) (w3 := w3) (w4 := w4) (w5 := w5) (p2 := p2) (p3 := p3) (p4 := p4) (p5 := p5) (fc := fc) (fs := fs) (fr := fr) (fu := fu) (fh := fh) (fl := fl) (fw := fw) (m := (t / 4 * bt q + 7) / 8) (by omega) (nI k) first 4 (nI (t / 4)) (nI (bt q)) 0 z e y od ev (nI t) g b v 1100 0 f (by omega) (by omega)
      obtain ⟨od1, ev1, lo1, hi1, x1, b1, v1, r1, f1, k1, k2, k3, k4, k5⟩ := packW (fk := fk) (b2 := b2) (b3 := b3) (b4 := b4) (b5 := b5) (t2 := t2) (t3 := t3) (t4 := t4) (t5 := t5) (w2 := w2) (w3 := w3) (w4 := w4) (w5 := w5) (p2 := p2) (p3 := p3) (p4 := p4) (p5 := p5) (se := se) (sz := sz) (st := st) hfc hfs hfr hfu hfh hfl hfw hk hq (by omega) (n := t / 4) (by omega) (t := t) (by omega) (by omega) (m := (t / 4 * bt q + 7) / 8) (by omega) (by omega) hT0 first 0 z e y 1100 0 r0 f0 lo hi x b v od ev (by omega) (by omega) (fun j hj => by rw [c2 j hj, d2 j (by omega) hj]) hR
      rw [br_t1 (by rw [nI_eq (by omega) (by omega)]; omega), br_t1 (by rw [ge]; rfl), nz_4, show nI t / (4 : Int32) = nI (t / 4) from pk_div (d := 4) (by omega) (by omega) (by omega), nm_eq, rk_bits hk hq hfk, cl_eq, nz_8, pk_mul, ix_7, p_div (by omega), nm_eq, show (0 : Int32) = nI 0 from rfl, kd_B q hq, cl_eq, c1, cl_eq, nm_eq, nm_eq]
      exact ⟨nI (t / 4), 0, (t / 4 * bt q + 7) / 8, se, sz, st, z, e, y, od1, ev1, nn, lo1, hi1, x1, g, b1, v1, r1, f1, by omega, by omega, k1, d1.trans k2, k3, k4, k5⟩
    · rw [br_f1 (by rw [nI_eq (by omega) (by omega)]; omega), br_f1 (nI_ne0 (by omega) (by omega))]
      exact ⟨_, t, o, se, sz, st, z, e, y, od, ev, nn, lo, hi, x, g, b, v, r, f, by omega, ho, rfl, rfl, hR, frm.rf _ _ _ _, hO⟩
end PK
