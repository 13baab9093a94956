section WENC
variable {fc fs fr fu fh fl fw f56 f64 : Nat → Int32} {b s : Nat} {g0 v0 : Nat → Int32}
/-- a pair is said -/
theorem wenc (hfc : mt fc lCo) (hfs : mt fs lSt) (hfr : mt fr lRoots) (hfu : mt fu lUps) (hfh : mt fh lHig) (hfl : mt fl lLw) (hfw : mt fw lHw) (hb : b + 46 ≤ 368) (hs : s + 24 ≤ 192) {sd : Int32} (hsd : (46 : Int32) * sd = nI b) (hss : (24 : Int32) * sd = nI s) (a w od ev : Int32) {lo hi x g v : Nat → Int32} (hR : vW b lo hi g g0) (hX : vA 24 s x v v0) :
    ∃ (c : Nat) (o e : Int32) (lo1 hi1 x1 g1 v1 : Nat → Int32), c < 256 ∧ fX5_encode a w lo hi x = some (nI c, lo1, hi1, x1) ∧ fX7_says722 sd a w fc fs fr fu fh fl fw od ev g v = some (nI c, o, e, g1, v1) ∧ vW b lo1 hi1 g1 g0 ∧ vA 24 s x1 v1 v0 := by
  obtain ⟨x1, v1, o, e, k1, k2, k3, k4, k5⟩ := sv_both hfc hs a w od ev hss hX
  rw [fX5_encode, k1, cl_eq, k2, cl_eq, k3, cl_eq, fX7_says722, k4, cl_eq, nm_eq, nm_eq, nm_eq, nm_eq, hsd, rd_in (j := b + 2) (ix_l b 2) (by omega) (by omega), hR.1 2 (by omega), eX7_limited, cl_eq, fX1_error, rd_in (j := 2) (nq_z 2) (by omega) (by omega), eX6_limited, cl_eq, cl_eq]
  generalize tLim (((e + o) >>> ((14 : Int32) &&& 31)) - lo 2) = d
  -- the high band, for any IL
  have high : ∀ il : Nat, il < 64 → ∃ (c : Nat) (lo1 hi1 g1 : Nat → Int32), c < 256 ∧ (pq_cl (fX1_error ((e - o) >>> ((14 : Int32) &&& 31)) hi) fun (r11 : Int32) => pq_cl (fX5_highCode r11 hi) fun (r13 : Int32) => pq_cl (fX5_settle (nI il) r13 lo hi) fun (u18 : (Nat → Int32) × (Nat → Int32)) => pq_nm (u18.1) fun (f15 : Nat → Int32) => pq_nm (u18.2) fun (f16 : Nat → Int32) => some (((64 : Int32) * r13) + nI il, f15, f16, x1)) = some (nI c, lo1, hi1, x1) ∧ fX7_says722_b136 fc fs fr fu fh fl fw sd (nI b) (nI il) o e g v1 = some (nI c, o, e, g1, v1) ∧ vW b lo1 hi1 g1 g0 := by
    intro il hil
    have x25 : nI b + (25 : Int32) = nI (b + 23 + 2) := nI_add b 25
    have x24 : nI b + (24 : Int32) = nI (b + 23 + 1) := nI_add b 24
    rw [fX1_error, rd_in (j := 2) (nq_z 2) (by omega) (by omega), eX6_limited, cl_eq, cl_eq, fX7_says722_b136, rd_in (j := b + 23 + 2) x25 (by omega) (by omega), hR.2.1 2 (by omega), eX7_limited, cl_eq]
    generalize tLim (((e - o) >>> ((14 : Int32) &&& 31)) - hi 2) = h
    have fin : ∀ ih : Nat, ih < 4 → ∃ (c : Nat) (lo1 hi1 g1 : Nat → Int32), c < 256 ∧ (pq_cl (fX5_settle (nI il) (nI ih) lo hi) fun (u18 : (Nat → Int32) × (Nat → Int32)) => pq_nm (u18.1) fun (f15 : Nat → Int32) => pq_nm (u18.2) fun (f16 : Nat → Int32) => some (((64 : Int32) * nI ih) + nI il, f15, f16, x1)) = some (nI c, lo1, hi1, x1) ∧ fX7_says722_b241 fc fs fr fu fh fl fw sd (nI il) (nI ih) o e g v1 = some (nI c, o, e, g1, v1) ∧ vW b lo1 hi1 g1 g0 := by
      intro ih hih
      obtain ⟨lo1, hi1, g1, q1, q2, q3⟩ := both_eq hfr hfu hfh hfl hfw hb hsd hil hih hR
      have ec : ((64 : Int32) * nI ih) + nI il = nI (64 * ih + il) := by rw [show (64 : Int32) * nI ih = nI (64 * ih) from pk_mul 64 ih, nI_add]
      refine ⟨64 * ih + il, lo1, hi1, g1, by omega, ?_, ?_, q3⟩
      · rw [q1, cl_eq, nm_eq, nm_eq, ec]
      · rw [fX7_says722_b241, q2, cl_eq, ec]
    have mid : ∀ m : Int32, ∃ (c : Nat) (lo1 hi1 g1 : Nat → Int32), c < 256 ∧ (pq_cl (fX5_highCode_b12 hi h m) fun (r13 : Int32) => pq_cl (fX5_settle (nI il) r13 lo hi) fun (u18 : (Nat → Int32) × (Nat → Int32)) => pq_nm (u18.1) fun (f15 : Nat → Int32) => pq_nm (u18.2) fun (f16 : Nat → Int32) => some (((64 : Int32) * r13) + nI il, f15, f16, x1)) = some (nI c, lo1, hi1, x1) ∧ fX7_says722_b182 fc fs fr fu fh fl fw sd (nI b) (nI il) h m o e g v1 = some (nI c, o, e, g1, v1) ∧ vW b lo1 hi1 g1 g0 := by
      intro m
      rw [fX5_highCode_b12, fX1_scaled, rd_in (j := 1) (nq_z 1) (by omega) (by omega), cl_eq, fX7_says722_b182, rd_in (j := b + 23 + 1) x24 (by omega) (by omega), hR.2.1 1 (by omega)]
      by_cases hm : ((564 : Int32) * hi 1) >>> ((12 : Int32) &&& 31) ≤ m
      · rw [br_t1 hm, br_t1 hm, fX5_highCode_b32, fX7_says722_b211]
        by_cases h0 : (0 : Int32) ≤ h
        · rw [br_t1 h0, br_t1 h0, br_t1 rfl, cl_eq]; exact fin 2 (by omega)
        · rw [br_f1 h0, br_f1 h0, br_t1 rfl, cl_eq]; exact fin 0 (by omega)
      · rw [br_f1 hm, br_f1 hm, fX5_highCode_b32, fX7_says722_b211]
        by_cases h0 : (0 : Int32) ≤ h
        · rw [br_t1 h0, br_t1 h0, br_f1 (by decide), cl_eq]; exact fin 3 (by omega)
        · rw [br_f1 h0, br_f1 h0, br_f1 (by decide), cl_eq]; exact fin 1 (by omega)
    rw [fX5_highCode]
    by_cases h0 : (0 : Int32) ≤ h
    · rw [br_t1 h0, br_t1 h0]; exact mid h
    · rw [br_f1 h0, br_f1 h0]; exact mid _
  have low : ∀ m : Int32, ∃ (c : Nat) (o1 e1 : Int32) (lo1 hi1 x2 g1 v2 : Nat → Int32), c < 256 ∧ (pq_cl (fX5_lowCode_b12 lo d m) fun (r9 : Int32) => pq_cl (fX1_error ((e - o) >>> ((14 : Int32) &&& 31)) hi) fun (r11 : Int32) => pq_cl (fX5_highCode r11 hi) fun (r13 : Int32) => pq_cl (fX5_settle r9 r13 lo hi) fun (u18 : (Nat → Int32) × (Nat → Int32)) => pq_nm (u18.1) fun (f15 : Nat → Int32) => pq_nm (u18.2) fun (f16 : Nat → Int32) => some (((64 : Int32) * r13) + r9, f15, f16, x1)) = some (nI c, lo1, hi1, x2) ∧ fX7_says722_b56 fc fs fr fu fh fl fw sd (nI b) d m o e g v1 = some (nI c, o1, e1, g1, v2) ∧ vW b lo1 hi1 g1 g0 ∧ vA 24 s x2 v2 v0 := by
    intro m
    obtain ⟨il, q1, q2, q3⟩ := lo_loop (fc := fc) (fr := fr) (fu := fu) (fh := fh) (fl := fl) (fw := fw) (vv := v1) hfs d m sd o e (b := b) (by omega) (hR.1 1 (by omega)) 29 1100 1100 (by omega) (by omega) (by omega)
    obtain ⟨c, lo1, hi1, g1, r0, r1, r2, r3⟩ := high il q1
    refine ⟨c, o, e, lo1, hi1, x1, g1, v1, r0, ?_, ?_, r3, k5⟩
    · rw [fX5_lowCode_b12, show (1 : Int32) = nI (30 - 29) from rfl, q2, cl_eq]; exact r1
    · rw [fX7_says722_b56, show (1 : Int32) = nI (30 - 29) from rfl, q3]; exact r2
  rw [fX5_lowCode]
  by_cases h0 : (0 : Int32) ≤ d
  · rw [br_t1 h0, br_t1 h0]; exact low d
  · rw [br_f1 h0, br_f1 h0]; exact low _
def lstF (l : List Int32) : Nat → Int32 := fun j => l.getD j 0
theorem hb_cg (hfu : mt fu lUps) (h56 : mt f56 lH56) (h64 : mt f64 lH64) (k i : Int32) : fX7_heardBy k i fu f56 f64 = fX7_heardBy k i (lstF lUps) (lstF lH56) (lstF lH64) := by
  unfold fX7_heardBy
  simp only [rd_cg (f := fu) (f' := lstF lUps) (n := 16) hfu (by omega), rd_cg (f := f56) (f' := lstF lH56) (n := 16) h56 (by omega), rd_cg (f := f64) (f' := lstF lH64) (n := 32) h64 (by omega)]
theorem fac_eq (hfu : mt fu lUps) (h56 : mt f56 lH56) (h64 : mt f64 lH64) {il kd : Nat} (hil : il < 64) (hkd : kd = 6 ∨ kd = 7 ∨ kd = 8) : ∃ f, fX5_lowFactor (nI il) (nI kd) = some f ∧ fX7_heardBy (nI kd) (nI il) fu f56 f64 = some f := by
  rw [hb_cg hfu h56 h64]
  have key : fX5_lowFactor (nI il) (nI kd) = fX7_heardBy (nI kd) (nI il) (lstF lUps) (lstF lH56) (lstF lH64) ∧ (fX5_lowFactor (nI il) (nI kd)).isSome = true := by
    rcases hkd with rfl | rfl | rfl
    · exact (by decide +kernel : ∀ il, il < 64 → fX5_lowFactor (nI il) (nI 6) = fX7_heardBy (nI 6) (nI il) (lstF lUps) (lstF lH56) (lstF lH64) ∧ (fX5_lowFactor (nI il) (nI 6)).isSome = true) il hil
    · exact (by decide +kernel : ∀ il, il < 64 → fX5_lowFactor (nI il) (nI 7) = fX7_heardBy (nI 7) (nI il) (lstF lUps) (lstF lH56) (lstF lH64) ∧ (fX5_lowFactor (nI il) (nI 7)).isSome = true) il hil
    · exact (by decide +kernel : ∀ il, il < 64 → fX5_lowFactor (nI il) (nI 8) = fX7_heardBy (nI 8) (nI il) (lstF lUps) (lstF lH56) (lstF lH64) ∧ (fX5_lowFactor (nI il) (nI 8)).isSome = true) il hil
  obtain ⟨f, hf⟩ := Option.isSome_iff_exists.mp key.2
  exact ⟨f, hf, by rw [← key.1]; exact hf⟩
/-- a code is heard -/
theorem wdec (hfc : mt fc lCo) (hfr : mt fr lRoots) (hfu : mt fu lUps) (hfh : mt fh lHig) (hfl : mt fl lLw) (hfw : mt fw lHw) (h56 : mt f56 lH56) (h64 : mt f64 lH64) (hb : b + 46 ≤ 368) (hs : s + 24 ≤ 192) {ln c kd : Nat} (hln : ln < 4) (hsd : (46 : Int32) * (((2 : Int32) * nI ln) + (1 : Int32)) = nI b) (hss : (24 : Int32) * (((2 : Int32) * nI ln) + (1 : Int32)) = nI s) (hc : c < 256) (hkd : kd = 6 ∨ kd = 7 ∨ kd = 8) (sec od ev : Int32) {lo hi x g v fk fse : Nat → Int32} (hk : fk ln = nI kd) (hR : vW b lo hi g g0) (hX : vA 24 s x v v0) :
    ∃ (r sec1 o e : Int32) (lo1 hi1 x1 g1 v1 : Nat → Int32), fX5_decode (nI c) (nI kd) sec lo hi x = some (r, sec1, lo1, hi1, x1) ∧ fX7_hears722 (nI ln) (nI c) fk fc fr fu fh fl fw f56 f64 od ev fse g v = some (r, o, e, upd fse ln sec1, g1, v1) ∧ vW b lo1 hi1 g1 g0 ∧ vA 24 s x1 v1 v0 ∧ (-32768 ≤ r.toInt ∧ r.toInt ≤ 32767) ∧ (-32768 ≤ sec1.toInt ∧ sec1.toInt ≤ 32767) := by
  have e63 : nI c &&& (63 : Int32) = nI (c % 64) := pk_andN (by omega) 6 (by decide)
  have e6 : nI c >>> ((6 : Int32) &&& 31) = nI (c / 64) := pk_shrN (by omega) _ 6 (by decide)
  have e3 : nI (c / 64) &&& (3 : Int32) = nI (c / 64) := by rw [pk_andN (by omega) 2 (by decide), Nat.mod_eq_of_lt (by omega)]
  have hil : c % 64 < 64 := Nat.mod_lt _ (by omega)
  have hih : c / 64 < 4 := by omega
  obtain ⟨f, f1, f2⟩ := fac_eq hfu h56 h64 hil hkd
  have ch : fh (c / 64) = pq_t_V (c / 64) := by rw [hfh _ hih]; exact (by decide : ∀ i, i < 4 → lHig.getD i 0 = pq_t_V i) _ hih
  obtain ⟨lo1, hi1, g1, q1, q2, q3⟩ := both_eq hfr hfu hfh hfl hfw hb hsd hil hih hR
  have x25 : nI b + (25 : Int32) = nI (b + 23 + 2) := nI_add b 25
  have x24 : nI b + (24 : Int32) = nI (b + 23 + 1) := nI_add b 24
  generalize hl1 : tCut (lo 2 + ((lo 1 * f) >>> ((15 : Int32) &&& 31))) (-16384) 16383 = L
  generalize hh1 : tCut (hi 2 + ((hi 1 * pq_t_V (c / 64)) >>> ((15 : Int32) &&& 31))) (-16384) 16383 = Hh
  obtain ⟨x1, v1, o, e, k1, k2, k3, k4, k5⟩ := sv_both hfc hs (L + Hh) (L - Hh) od ev hss hX
  refine ⟨tLim (e >>> ((11 : Int32) &&& 31)), tLim (o >>> ((11 : Int32) &&& 31)), o, e, lo1, hi1, x1, g1, v1, ?_, ?_, q3, k5, lim_rng _, lim_rng _⟩
  · rw [fX5_decode, nm_eq, nm_eq, e63, e6, e3, f1, cl_eq, fX1_heard, rd_in (j := 2) (nq_z 2) (by omega) (by omega), fX1_difference, rd_in (j := 1) (nq_z 1) (by omega) (by omega), cl_eq, eX6_cut, cl_eq, cl_eq, hl1, rd_in (j := c / 64) rfl hih (by omega), fX1_heard, rd_in (j := 2) (nq_z 2) (by omega) (by omega), fX1_difference, rd_in (j := 1) (nq_z 1) (by omega) (by omega), cl_eq, eX6_cut, cl_eq, cl_eq, hh1, q1, cl_eq, nm_eq, nm_eq, k1, cl_eq, k2, cl_eq, eX6_limited, cl_eq, k3, cl_eq, eX6_limited, cl_eq]
  · rw [fX7_hears722, nm_eq, nm_eq, hsd, nm_eq, nm_eq, e63, e6, rd_in (j := b + 2) (ix_l b 2) (by omega) (by omega), rd_in (j := b + 1) (ix_l b 1) (by omega) (by omega), hR.1 2 (by omega), hR.1 1 (by omega), rd_in (i := nI ln) (j := ln) rfl hln (by omega), hk, f2, cl_eq, eX7_cut _ _ _ (by decide), cl_eq, hl1, rd_in (j := b + 23 + 2) x25 (by omega) (by omega), rd_in (j := b + 23 + 1) x24 (by omega) (by omega), hR.2.1 2 (by omega), hR.2.1 1 (by omega), rd_in (j := c / 64) rfl hih (by omega), ch, eX7_cut _ _ _ (by decide), cl_eq, hh1, q2, cl_eq, k4, cl_eq, nm_eq, nm_eq, nm_eq, eX7_limited, cl_eq, wr_in (i := nI ln) (j := ln) rfl hln (by omega), eX7_limited, cl_eq]
end WENC
section AENC
variable {b k : Nat} {g0 b2 b3 b4 b5 t2 t3 t4 t5 w2 w3 w4 w5 p2 p3 p4 p5 : Nat → Int32}
theorem bits_eq (hk : 2 ≤ k ∧ k ≤ 5) : ((1 : Int32) <<< ((nI k - (1 : Int32)) &&& 31)) - (1 : Int32) = nI (2 ^ (k - 1) - 1) ∧ ((1 : Int32) <<< ((nI k - (1 : Int32)) &&& 31)) - nI k = nI (2 ^ (k - 1) - k) := by
  rcases kcases hk with rfl | rfl | rfl | rfl <;> decide
theorem aenc (hB : mt4 b2 b3 b4 b5 lB2 lB3 lB4 lB5) (hT : mt4 t2 t3 t4 t5 lT2 lT3 lT4 lT5) (hW : mt4 w2 w3 w4 w5 lW2 lW3 lW4 lW5) (hP : mt4 p2 p3 p4 p5 lP2 lP3 lP4 lP5) (hk : 2 ≤ k ∧ k ≤ 5) (hb : b + 24 ≤ 192) {s : Int32} (hs : (24 : Int32) * s = nI b) (x se sz st z e y : Int32) {n g : Nat → Int32} (hR : vA 24 b n g g0) (hi : inv n) :
    ∃ (c : Nat) (se1 sz1 st1 : Int32) (n1 g1 : Nat → Int32), c < 2 ^ k ∧ fX0_encode x (nI k) se sz st n = some (nI c, se1, sz1, st1, n1) ∧ fX7_says726 s (nI k) x b2 b3 b4 b5 t2 t3 t4 t5 w2 w3 w4 w5 p2 p3 p4 p5 z e y g = some (nI c, sz1, se1, st1, g1) ∧ vA 24 b n1 g1 g0 ∧ inv n1 := by
  obtain ⟨⟨E, Z, Y⟩, ⟨Z', E', Y'⟩, f1, f2, f3, f4, f5, -⟩ := fore_both hR hb se sz st z e y hs
  simp only at f3 f4 f5
  subst f3; subst f4; subst f5
  rw [fX0_encode, f1, cl_eq, nm_eq, nm_eq, nm_eq, fX7_says726, f2, cl_eq, nm_eq, nm_eq, nm_eq, nm_eq, eX7_amount, cl_eq, eX7_size, fX0_codeOf, nq_abs, nm_eq]
  generalize (x >>> ((2 : Int32) &&& 31)) - E = d
  obtain ⟨r, -, hr, -⟩ := size_some (tAbs d >>> ((1 : Int32) &&& 31))
  rw [hr, cl_eq, cl_eq, nm_eq, nm_eq, nm_eq, nm_eq, nm_eq, (bits_eq hk).1, (bits_eq hk).2]
  obtain ⟨c, h1, h2, h3⟩ := code_loop (t2 := t2) (t3 := t3) (t4 := t4) (t5 := t5) (w2 := w2) (w3 := w3) (w4 := w4) (w5 := w5) (p2 := p2) (p3 := p3) (p4 := p4) (p5 := p5) hB hk Y d ((((128 : Int32) * nI r) + ((((128 : Int32) * tAbs d) >>> (nI r &&& 31)) &&& (127 : Int32))) - (Y >>> ((2 : Int32) &&& 31))) s Z E Y g 1100 0 (by omega) (by have : 2 ^ (k - 1) ≤ 16 := (by rcases kcases hk with rfl | rfl | rfl | rfl <;> decide); omega)
  rw [show (0 : Int32) = nI 0 from rfl, h2, cl_eq, h3, fX7_says726_b149]
  obtain ⟨⟨sr, n1⟩, ⟨lv, g1⟩, k1, k2, k3, k4, k5⟩ := settle_both (Z := Z) (E := E) (Y := Y) hT hW hP hk h1 hb hs hR hi
  rw [k1, cl_eq, nm_eq, nm_eq, k2, cl_eq, nm_eq, nm_eq]
  exact ⟨c, E, Z, Y, n1, g1, h1, rfl, rfl, k4, k5⟩
theorem adec (hT : mt4 t2 t3 t4 t5 lT2 lT3 lT4 lT5) (hW : mt4 w2 w3 w4 w5 lW2 lW3 lW4 lW5) (hP : mt4 p2 p3 p4 p5 lP2 lP3 lP4 lP5) (hk : 2 ≤ k ∧ k ≤ 5) (hb : b + 24 ≤ 192) {s : Int32} (hs : (24 : Int32) * s = nI b) {c : Nat} (hc : c < 2 ^ k) (se sz st z e y : Int32) {n g : Nat → Int32} (hR : vA 24 b n g g0) (hi : inv n) :
    ∃ (r se1 sz1 st1 : Int32) (n1 g1 : Nat → Int32), fX0_decode (nI c) (nI k) se sz st n = some (r, se1, sz1, st1, n1) ∧ fX7_hears726 s (nI k) (nI c) t2 t3 t4 t5 w2 w3 w4 w5 p2 p3 p4 p5 z e y g = some (r, sz1, se1, st1, g1) ∧ vA 24 b n1 g1 g0 ∧ inv n1 ∧ (-32768 ≤ r.toInt ∧ r.toInt ≤ 32767) := by
  obtain ⟨⟨E, Z, Y⟩, ⟨Z', E', Y'⟩, f1, f2, f3, f4, f5, -⟩ := fore_both hR hb se sz st z e y hs
  simp only at f3 f4 f5
  subst f3; subst f4; subst f5
  rw [fX0_decode, f1, cl_eq, nm_eq, nm_eq, nm_eq, fX7_hears726, f2, cl_eq, nm_eq, nm_eq, nm_eq]
  obtain ⟨⟨sr, n1⟩, ⟨lv, g1⟩, k1, k2, k3, k4, k5⟩ := settle_both (Z := Z) (E := E) (Y := Y) hT hW hP hk hc hb hs hR hi
  simp only at k3
  rw [k1, cl_eq, nm_eq, nm_eq, eX6_limited, cl_eq, k2, cl_eq, nm_eq, nm_eq, k3, Int32.mul_comm (4 : Int32) sr]
  exact ⟨_, E, Z, Y, n1, g1, rfl, rfl, k4, k5, lim_rng _⟩
end AENC
