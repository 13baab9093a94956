/-! a line: its kind, its speaker, its hearer -/
def bt (q : Nat) : Nat := if 2 ≤ q ∧ q ≤ 5 then q else 8
theorem bt_le (q : Nat) : bt q ≤ 8 ∧ 1 ≤ bt q := by unfold bt; split <;> omega
theorem kd_W : ∀ q, q < 9 → fX4_isWide (nI q) = some (if q < 6 then 0 else 1) := by decide +kernel
theorem kd_A : ∀ q, q < 9 → fX4_isAdpcm (nI q) = some (if 2 ≤ q ∧ q ≤ 5 then 1 else 0) := by decide +kernel
theorem kd_B : ∀ q, q < 9 → fX4_codeBits (nI q) = some (nI (bt q)) := by decide +kernel
theorem kd_sh : ∀ q, q < 9 → (1 : Int32) <<< (nI (bt q) &&& 31) = nI (2 ^ bt q) := by decide +kernel
theorem kd_pw (q : Nat) : 2 ^ bt q ≤ 256 := Nat.le_trans (Nat.pow_le_pow_right (by omega) (bt_le q).1) (by decide)
theorem ne_NONE : ∀ q, q < 9 → ¬ nI q = (-100000 : Int32) := by decide +kernel
theorem ix_in {β : Type} {n j : Nat} {k : Option β} (hj : j < n) (hn : n ≤ 2000) : pq_ix n (nI j) k = k := by
  unfold pq_ix
  rw [if_neg (nI_in hj (by omega))]
theorem ol_i {k : Nat} (hk : k < 4) (kd : Int32) : fX6_openLine_i (nI k) kd = some (if kd = (-100000 : Int32) then 0 else 1) := by
  rw [fX6_openLine_i, br_f1 ((by decide +kernel : ∀ k, k < 4 → ¬ nI k < (0 : Int32)) k hk), br_t1 ((by decide +kernel : ∀ k, k < 4 → nI k < (4 : Int32)) k hk), ix_in hk (by omega)]
  by_cases h : kd = (-100000 : Int32)
  · rw [br_t1 h, if_pos h]
  · rw [br_f1 h, if_neg h]
theorem ol_o {a : Int32} (h : a < 0 ∨ nI 4 ≤ a) : fX6_openLine_o a = some () := by
  rw [fX6_openLine_o]
  by_cases h0 : a < (0 : Int32)
  · rw [br_t1 h0]
  · rw [br_f1 h0]
    by_cases h1 : a < (4 : Int32)
    · exact absurd (h.resolve_left h0) (by rw [Int32.not_le]; exact h1)
    · rw [br_f1 h1]
theorem rk_line_o {a : Int32} (h : a < 0 ∨ nI 4 ≤ a) : fX7_isLine a = some 0 := by
  rw [fX7_isLine]
  by_cases h0 : a < (0 : Int32)
  · rw [br_t1 h0]
  · rw [br_f1 h0, br_t1 (show (4 : Int32) ≤ a from h.resolve_left h0)]
theorem rk_line {k : Nat} (hk : k < 4) : fX7_isLine (nI k) = some 1 := (by decide +kernel : ∀ k, k < 4 → fX7_isLine (nI k) = some 1) k hk
theorem rk_open_o {a : Int32} (h : a < 0 ∨ nI 4 ≤ a) (fk : Nat → Int32) : fX7_isOpen a fk = some 0 := by
  rw [fX7_isOpen, rk_line_o h, cl_eq, br_t1 rfl]
theorem rk_open {k : Nat} (hk : k < 4) (fk : Nat → Int32) : fX7_isOpen (nI k) fk = some (if fk k = (-100000 : Int32) then 0 else 1) := by
  rw [fX7_isOpen, rk_line hk, cl_eq, br_f1 (by decide), rd_in (j := k) rfl hk (by omega)]
  by_cases h : fk k = (-100000 : Int32)
  · rw [br_t1 h, if_pos h]
  · rw [br_f1 h, if_neg h]
theorem rk_pair {k q : Nat} (hk : k < 4) (hq : q < 9) {fk : Nat → Int32} (h : fk k = nI q) : fX7_isPaired (nI k) fk = some (if q < 6 then 0 else 1) := by
  rw [fX7_isPaired, rd_in (j := k) rfl hk (by omega), h]
  exact (by decide +kernel : ∀ q, q < 9 → pq_br (nI q < (6 : Int32)) (some (0 : Int32)) (some (1 : Int32)) = some (if q < 6 then 0 else 1)) q hq
theorem rk_bits {k q : Nat} (hk : k < 4) (hq : q < 9) {fk : Nat → Int32} (h : fk k = nI q) : fX7_bitsOf (nI k) fk = some (nI (bt q)) := by
  rw [fX7_bitsOf, rd_in (j := k) rfl hk (by omega), rd_in (j := k) rfl hk (by omega), rd_in (j := k) rfl hk (by omega), h]
  exact (by decide +kernel : ∀ q, q < 9 → pq_br (nI q < (2 : Int32)) (some (8 : Int32)) (pq_br ((5 : Int32) < nI q) (some (8 : Int32)) (some (nI q))) = some (nI (bt q))) q hq
/-- what counts as a code: the same on both sides -/
theorem has_both {k q : Nat} (hk : k < 4) (hq : q < 9) {fk : Nat → Int32} (h : fk k = nI q) (c : Int32) : (fX4_hasCode c (nI q) = some 0 ∧ fX7_isCode (nI k) c fk = some 0) ∨ (∃ j : Nat, j < 2 ^ bt q ∧ c = nI j ∧ fX4_hasCode c (nI q) = some 1 ∧ fX7_isCode (nI k) c fk = some 1) := by
  have e : fX7_isCode (nI k) c fk = fX4_hasCode c (nI q) := by rw [fX7_isCode, fX4_hasCode, rk_bits hk hq h, kd_B q hq]
  rw [e, fX4_hasCode, kd_B q hq, cl_eq, kd_sh q hq]
  have hp := kd_pw q
  rcases pk_ix c (n := 2 ^ bt q) (by omega) with g | g | ⟨j, hj, rfl⟩
  · rw [br_t1 g]; exact Or.inl ⟨rfl, rfl⟩
  · by_cases g0 : c < (0 : Int32)
    · rw [br_t1 g0]; exact Or.inl ⟨rfl, rfl⟩
    · rw [br_f1 g0, br_t1 g]; exact Or.inl ⟨rfl, rfl⟩
  · refine Or.inr ⟨j, hj, rfl, ?_⟩
    have g0 : ¬ nI j < (0 : Int32) := by rw [show (0 : Int32) = nI 0 from rfl, nI_ltI (by omega) (by omega)]; omega
    have g1 : ¬ nI (2 ^ bt q) ≤ nI j := by rw [nI_leI (by omega) (by omega)]; omega
    rw [br_f1 g0, br_f1 g1]; exact ⟨rfl, rfl⟩
theorem is_sam (a : Int32) : (fX6_isSample a = some 0 ∧ fX7_isSample a = some 0) ∨ (fX6_isSample a = some 1 ∧ fX7_isSample a = some 1 ∧ (-32768 ≤ a.toInt ∧ a.toInt ≤ 32767)) := by
  rw [fX6_isSample, fX7_isSample]
  by_cases h0 : a < (-32768 : Int32)
  · rw [br_t1 h0]; exact Or.inl ⟨rfl, rfl⟩
  · rw [br_f1 h0]
    by_cases h1 : (32767 : Int32) < a
    · rw [br_t1 h1]; exact Or.inl ⟨rfl, rfl⟩
    · rw [br_f1 h1]
      refine Or.inr ⟨rfl, rfl, ?_, ?_⟩
      · have := Int32.le_iff_toInt_le.mp (Int32.not_lt.mp h0); simpa using this
      · have := Int32.le_iff_toInt_le.mp (Int32.not_lt.mp h1); simpa using this
theorem z_0 : nI 0 = (0 : Int32) := rfl
theorem z_1 : nI 1 = (1 : Int32) := rfl
/-- one side s of a line of kind q: the class's rows are the model's -/
def vR (s q : Nat) (bits : Int32) (n lo hi x g b v : Nat → Int32) : Prop := (2 ≤ q → q ≤ 5 → bits = nI q ∧ (∀ j, j < 24 → g (24 * s + j) = n j) ∧ inv n) ∧ (6 ≤ q → (∀ j, j < 23 → b (46 * s + j) = lo j) ∧ (∀ j, j < 23 → b (46 * s + 23 + j) = hi j) ∧ ∀ j, j < 24 → v (24 * s + j) = x j)
/-- nothing changed but side s -/
def frm (s : Nat) (g b v g1 b1 v1 : Nat → Int32) : Prop := (∀ p, (p < 24 * s ∨ 24 * s + 24 ≤ p) → g1 p = g p) ∧ (∀ p, (p < 46 * s ∨ 46 * s + 46 ≤ p) → b1 p = b p) ∧ ∀ p, (p < 24 * s ∨ 24 * s + 24 ≤ p) → v1 p = v p
theorem frm.rf (s : Nat) (g b v : Nat → Int32) : frm s g b v g b v := ⟨fun _ _ => rfl, fun _ _ => rfl, fun _ _ => rfl⟩
theorem vR.other {s s' q : Nat} {bits : Int32} {n lo hi x g b v g1 b1 v1 : Nat → Int32} (h : vR s q bits n lo hi x g b v) (hne : s ≠ s') (hf : frm s' g b v g1 b1 v1) : vR s q bits n lo hi x g1 b1 v1 := by
  refine ⟨fun h2 h5 => ?_, fun h6 => ?_⟩
  · obtain ⟨e1, e2, e3⟩ := h.1 h2 h5
    exact ⟨e1, fun j hj => by rw [hf.1 _ (by omega)]; exact e2 j hj, e3⟩
  · obtain ⟨e1, e2, e3⟩ := h.2 h6
    exact ⟨fun j hj => by rw [hf.2.1 _ (by omega)]; exact e1 j hj, fun j hj => by rw [hf.2.1 _ (by omega)]; exact e2 j hj, fun j hj => by rw [hf.2.2 _ (by omega)]; exact e3 j hj⟩
section LN
variable {b2 b3 b4 b5 t2 t3 t4 t5 w2 w3 w4 w5 p2 p3 p4 p5 fc fs fr fu fh fl fw f56 f64 : Nat → Int32}
theorem sd_n : ∀ k, k < 4 → (24 : Int32) * ((2 : Int32) * nI k) = nI (24 * (2 * k)) ∧ (46 : Int32) * ((2 : Int32) * nI k) = nI (46 * (2 * k)) ∧ (24 : Int32) * (((2 : Int32) * nI k) + (1 : Int32)) = nI (24 * (2 * k + 1)) ∧ (46 : Int32) * (((2 : Int32) * nI k) + (1 : Int32)) = nI (46 * (2 * k + 1)) := by decide +kernel
set_option maxHeartbeats 1000000 in
/-- a sample is said on a line that is not wide -/
theorem enc_n (hB : mt4 b2 b3 b4 b5 lB2 lB3 lB4 lB5) (hT : mt4 t2 t3 t4 t5 lT2 lT3 lT4 lT5) (hW : mt4 w2 w3 w4 w5 lW2 lW3 lW4 lW5) (hP : mt4 p2 p3 p4 p5 lP2 lP3 lP4 lP5) {k q : Nat} (hk : k < 4) (hq : q < 6) {fk : Nat → Int32} (hfk : fk k = nI q) (a w : Int32) (ha : -32768 ≤ a.toInt ∧ a.toInt ≤ 32767) {bits : Int32} {n lo hi x g b v : Nat → Int32} (hR : vR (2 * k) q bits n lo hi x g b v) (se sz st z e y : Int32) :
    ∃ (c : Nat) (se1 sz1 st1 z1 e1 y1 : Int32) (n1 g1 : Nat → Int32), c < 2 ^ bt q ∧ fX4_encode a w (nI q) bits se sz st n lo hi x = some (nI c, se1, sz1, st1, n1, lo, hi, x) ∧ fX7_says (nI k) a fk b2 b3 b4 b5 t2 t3 t4 t5 w2 w3 w4 w5 p2 p3 p4 p5 z e y g = some (nI c, z1, e1, y1, g1) ∧ vR (2 * k) q bits n1 lo hi x g1 b v ∧ frm (2 * k) g b v g1 b v := by
  rw [fX4_encode, kd_W q (by omega), if_pos hq, cl_eq, br_t1 rfl, kd_A q (by omega), cl_eq, fX7_says, rd_in (j := k) rfl hk (by omega), rd_in (j := k) rfl hk (by omega), rd_in (j := k) rfl hk (by omega), hfk]
  by_cases h0 : q = 0
  · subst h0
    obtain ⟨a0, q0, r, t, -, -, hr, -, h16, h32, k1, k2⟩ := mu_both a
    rw [if_neg (by decide), br_t1 rfl, br_t1 z_0, br_t1 z_0, k1, cl_eq, k2, cl_eq]
    exact ⟨_, se, sz, st, z, e, y, n, g, (by show _ < 256; split <;> omega), rfl, rfl, hR, frm.rf _ _ _ _⟩
  · have hz : ¬ nI q = (0 : Int32) := (by decide +kernel : ∀ q, q < 6 → q ≠ 0 → ¬ nI q = (0 : Int32)) q hq h0
    by_cases h1 : q = 1
    · subst h1
      obtain ⟨q0, r, t, -, hr, -, hr0, hr1, k1, k2⟩ := a_both ha
      rw [if_neg (by decide), br_t1 rfl, br_f1 hz, br_f1 hz, br_t1 z_1, k1, cl_eq, k2, cl_eq]
      refine ⟨_, se, sz, st, z, e, y, n, g, ?_, rfl, rfl, hR, frm.rf _ _ _ _⟩
      have hx := xor_rng (16 * r + t % 16) (by omega)
      show _ < 256
      split
      · exact hx.2.2.2
      · exact hx.2.1
    · have hk2 : 2 ≤ q ∧ q ≤ 5 := by omega
      have hz1 : ¬ nI q = (1 : Int32) := (by decide +kernel : ∀ q, q < 6 → q ≠ 1 → ¬ nI q = (1 : Int32)) q hq h1
      obtain ⟨e1, e2, e3⟩ := hR.1 hk2.1 hk2.2
      subst e1
      obtain ⟨c, se1, sz1, st1, n1, g1, m1, m2, m3, m4, m5⟩ := aenc (g0 := g) hB hT hW hP hk2 (b := 24 * (2 * k)) (by omega) (sd_n k hk).1 a se sz st z e y ⟨e2, fun _ _ => rfl⟩ e3
      rw [if_pos hk2, br_f1 (by decide), m2, cl_eq, nm_eq, nm_eq, nm_eq, nm_eq, nm_eq, br_f1 hz, br_f1 hz1, m3, cl_eq, nm_eq, nm_eq, nm_eq, nm_eq, nm_eq]
      exact ⟨c, se1, sz1, st1, sz1, se1, st1, n1, g1, by unfold bt; rw [if_pos hk2]; exact m1, rfl, rfl, ⟨fun _ _ => ⟨rfl, m4.1, m5⟩, fun h => absurd h (by omega)⟩, m4.2, fun _ _ => rfl, fun _ _ => rfl⟩
set_option maxHeartbeats 1000000 in
/-- a pair is said on a wide line -/
theorem enc_w (hfc : mt fc lCo) (hfs : mt fs lSt) (hfr : mt fr lRoots) (hfu : mt fu lUps) (hfh : mt fh lHig) (hfl : mt fl lLw) (hfw : mt fw lHw) {k q : Nat} (hk : k < 4) (hq : q < 9) (h6 : 6 ≤ q) (a w : Int32) {bits : Int32} {n lo hi x g b v : Nat → Int32} (hR : vR (2 * k) q bits n lo hi x g b v) (se sz st od ev : Int32) :
    ∃ (c : Nat) (od1 ev1 : Int32) (lo1 hi1 x1 b1 v1 : Nat → Int32), c < 256 ∧ fX4_encode a w (nI q) bits se sz st n lo hi x = some (nI c, se, sz, st, n, lo1, hi1, x1) ∧ fX7_says722 ((2 : Int32) * nI k) a w fc fs fr fu fh fl fw od ev b v = some (nI c, od1, ev1, b1, v1) ∧ vR (2 * k) q bits n lo1 hi1 x1 g b1 v1 ∧ frm (2 * k) g b v g b1 v1 := by
  obtain ⟨e1, e2, e3⟩ := hR.2 h6
  obtain ⟨c, o1, v1, lo1, hi1, x1, g1, w1, m1, m2, m3, m4, m5⟩ := wenc (g0 := b) (v0 := v) hfc hfs hfr hfu hfh hfl hfw (b := 46 * (2 * k)) (s := 24 * (2 * k)) (by omega) (by omega) (sd_n k hk).2.1 (sd_n k hk).1 a w od ev ⟨e1, e2, fun _ _ => rfl⟩ ⟨e3, fun _ _ => rfl⟩
  rw [fX4_encode, kd_W q hq, if_neg (by omega), cl_eq, br_f1 (by decide), m2, cl_eq, nm_eq, nm_eq, nm_eq, nm_eq, m3]
  exact ⟨c, o1, v1, lo1, hi1, x1, g1, w1, m1, rfl, rfl, ⟨fun _ h => absurd h (by omega), fun _ => ⟨m4.1, m4.2.1, m5.1⟩⟩, fun _ _ => rfl, m4.2.2, m5.2⟩
set_option maxHeartbeats 1000000 in
/-- a code is heard -/
theorem dec_b (hT : mt4 t2 t3 t4 t5 lT2 lT3 lT4 lT5) (hW : mt4 w2 w3 w4 w5 lW2 lW3 lW4 lW5) (hP : mt4 p2 p3 p4 p5 lP2 lP3 lP4 lP5) (hfc : mt fc lCo) (hfr : mt fr lRoots) (hfu : mt fu lUps) (hfh : mt fh lHig) (hfl : mt fl lLw) (hfw : mt fw lHw) (h56 : mt f56 lH56) (h64 : mt f64 lH64) {k q c : Nat} (hk : k < 4) (hq : q < 9) {fk : Nat → Int32} (hfk : fk k = nI q) (hc : c < 2 ^ bt q) {bits : Int32} {n lo hi x g b v : Nat → Int32} (hR : vR (2 * k + 1) q bits n lo hi x g b v) (se sz st sec z e y od ev : Int32) (fse : Nat → Int32) :
    ∃ (r se1 sz1 st1 sec1 z1 e1 y1 od1 ev1 : Int32) (n1 lo1 hi1 x1 fse1 g1 b1 v1 : Nat → Int32), fX4_decode (nI c) (nI q) bits se sz st n sec lo hi x = some (r, se1, sz1, st1, n1, sec1, lo1, hi1, x1) ∧ fX7_hears (nI k) (nI c) fk t2 t3 t4 t5 w2 w3 w4 w5 p2 p3 p4 p5 fc fr fu fh fl fw f56 f64 z e y od ev fse g b v = some (r, z1, e1, y1, od1, ev1, fse1, g1, b1, v1) ∧ vR (2 * k + 1) q bits n1 lo1 hi1 x1 g1 b1 v1 ∧ frm (2 * k + 1) g b v g1 b1 v1 ∧ (-32768 ≤ r.toInt ∧ r.toInt ≤ 32767) ∧ (∀ p, p ≠ k → fse1 p = fse p) ∧ (6 ≤ q → fse1 k = sec1 ∧ (-32768 ≤ sec1.toInt ∧ sec1.toInt ≤ 32767)) := by
  have hpw := kd_pw q
  rw [fX4_decode, kd_W q hq, cl_eq, fX7_hears, rd_in (j := k) rfl hk (by omega), rd_in (j := k) rfl hk (by omega), rd_in (j := k) rfl hk (by omega), hfk]
  by_cases h6 : 6 ≤ q
  · obtain ⟨e1, e2, e3⟩ := hR.2 h6
    obtain ⟨r, s1, o1, w1, lo1, hi1, x1, g1, v1, m1, m2, m3, m4, m5, m6⟩ := wdec (g0 := b) (v0 := v) (fse := fse) hfc hfr hfu hfh hfl hfw h56 h64 (b := 46 * (2 * k + 1)) (s := 24 * (2 * k + 1)) (by omega) (by omega) hk (sd_n k hk).2.2.2 (sd_n k hk).2.2.1 (c := c) (by omega) (kd := q) (by omega) sec od ev hfk ⟨e1, e2, fun _ _ => rfl⟩ ⟨e3, fun _ _ => rfl⟩
    have hz0 := (by decide +kernel : ∀ q, q < 9 → 6 ≤ q → ¬ nI q = (0 : Int32) ∧ ¬ nI q = (1 : Int32) ∧ (6 : Int32) ≤ nI q) q hq h6
    rw [if_neg (by omega), br_f1 (by decide), m1, cl_eq, nm_eq, nm_eq, nm_eq, nm_eq, nm_eq, br_f1 hz0.1, br_f1 hz0.2.1, br_t1 hz0.2.2, m2, cl_eq, nm_eq, nm_eq, nm_eq, nm_eq, nm_eq, nm_eq]
    refine ⟨r, se, sz, st, s1, z, e, y, o1, w1, n, lo1, hi1, x1, _, g, g1, v1, rfl, rfl, ⟨fun _ h => absurd h (by omega), fun _ => ⟨m3.1, m3.2.1, m4.1⟩⟩, ⟨fun _ _ => rfl, m3.2.2, m4.2⟩, m5, fun p hp => ?_, fun _ => ⟨?_, m6⟩⟩
    · show upd fse k s1 p = fse p
      unfold upd; rw [if_neg hp]
    · show upd fse k s1 k = s1
      unfold upd; rw [if_pos rfl]
  · have h6' : q < 6 := by omega
    rw [if_pos h6', br_t1 rfl, kd_A q hq, cl_eq]
    by_cases h0 : q = 0
    · subst h0
      obtain ⟨r, k1, k2, k3⟩ := mu_hears (c := c) hc
      rw [if_neg (by decide), br_t1 rfl, br_t1 z_0, br_t1 z_0, k1, cl_eq, k2, cl_eq]
      exact ⟨r, se, sz, st, sec, z, e, y, od, ev, n, lo, hi, x, fse, g, b, v, rfl, rfl, hR, frm.rf _ _ _ _, k3, fun _ _ => rfl, fun h => absurd h (by omega)⟩
    · have hz : ¬ nI q = (0 : Int32) := (by decide +kernel : ∀ q, q < 6 → q ≠ 0 → ¬ nI q = (0 : Int32)) q h6' h0
      by_cases h1 : q = 1
      · subst h1
        obtain ⟨r, k1, k2, k3⟩ := a_hears (c := c) hc
        rw [if_neg (by decide), br_t1 rfl, br_f1 hz, br_f1 hz, br_t1 z_1, k1, cl_eq, k2, cl_eq]
        exact ⟨r, se, sz, st, sec, z, e, y, od, ev, n, lo, hi, x, fse, g, b, v, rfl, rfl, hR, frm.rf _ _ _ _, k3, fun _ _ => rfl, fun h => absurd h (by omega)⟩
      · have hk2 : 2 ≤ q ∧ q ≤ 5 := by omega
        have hz1 := (by decide +kernel : ∀ q, q < 6 → q ≠ 1 → ¬ nI q = (1 : Int32) ∧ ¬ (6 : Int32) ≤ nI q) q h6' h1
        obtain ⟨e1, e2, e3⟩ := hR.1 hk2.1 hk2.2
        subst e1
        have hc2 : c < 2 ^ q := by unfold bt at hc; rw [if_pos hk2] at hc; exact hc
        obtain ⟨r, se1, sz1, st1, n1, g1, m2, m3, m4, m5, m6⟩ := adec (g0 := g) hT hW hP hk2 (b := 24 * (2 * k + 1)) (by omega) (sd_n k hk).2.2.1 hc2 se sz st z e y ⟨e2, fun _ _ => rfl⟩ e3
        rw [if_pos hk2, br_f1 (by decide), m2, cl_eq, nm_eq, nm_eq, nm_eq, nm_eq, nm_eq, br_f1 hz, br_f1 hz1.1, br_f1 hz1.2, rd_in (j := k) rfl hk (by omega), hfk, m3, cl_eq, nm_eq, nm_eq, nm_eq, nm_eq, nm_eq]
        exact ⟨r, se1, sz1, st1, sec, sz1, se1, st1, od, ev, n1, lo, hi, x, fse, g1, b, v, rfl, rfl, ⟨fun _ _ => ⟨rfl, m4.1, m5⟩, fun h => absurd h (by omega)⟩, ⟨m4.2, fun _ _ => rfl, fun _ _ => rfl⟩, m6, fun _ _ => rfl, fun h => absurd h (by omega)⟩
end LN
