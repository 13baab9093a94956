/-! a line opened; a code passed from one line to another; the laws' edges -/
theorem br_s {β : Type} {c : Prop} [Decidable c] (a : Option β) : pq_br c a a = a := by unfold pq_br; split <;> rfl
theorem br_q {β : Type} {x y : Int32} (h : x = y) (a b : Option β) : pq_br (x = y) a b = a := if_pos h
set_option maxHeartbeats 1000000 in
theorem open_L {k : Nat} (hk : k < 4) {L : lnT} {fk fse g b v : Nat → Int32} (hL : LR k L fk fse g b v) (a2 to : Int32) : ∃ (r kd bS bH sS sH : Int32) (nS nH loS hiS xS loH hiH xH fk1 fse1 g1 b1 v1 g2 b2 v2 : Nat → Int32), fX6_open_i (nI k) a2 (L.1 0) (L.1 1) (L.2 0) (L.1 5) (L.2 1) (L.1 9) (L.2 2) (L.2 3) (L.2 4) (L.1 10) (L.2 5) (L.2 6) (L.2 7) = some (r, kd, bS, nS, bH, nH, sS, loS, hiS, xS, sH, loH, hiH, xH) ∧ fX7_open (nI k) a2 to fk fse g b v = some (r, 0, fk1, fse1, g2, b2, v2) ∧ (∀ p, p ≠ k → fk1 p = fk p) ∧ (∀ p, p ≠ k → fse1 p = fse p) ∧ frm (2 * k) g b v g1 b1 v1 ∧ frm (2 * k + 1) g1 b1 v1 g2 b2 v2 ∧ LR k (va_up (va_up (va_up (va_up (va_up L.1 0 kd) 1 bS) 5 bH) 9 sS) 10 sH, va_up (va_up (va_up (va_up (va_up (va_up (va_up (va_up L.2 0 nS) 1 nH) 2 loS) 3 hiS) 4 xS) 5 loH) 6 hiH) 7 xH) fk1 fse1 g2 b2 v2 := by
  rw [fX6_open_i, br_f1 (nI_pos (by omega)), br_f1 (show ¬ (4 : Int32) ≤ nI k from nI_ge (b := 4) hk (by omega)), fX7_open, rk_line hk, cl_eq, br_f1 one]
  by_cases g0 : a2 < (0 : Int32)
  · rw [br_t1 g0, br_t1 g0]
    exact ⟨_, _, _, _, _, _, _, _, _, _, _, _, _, _, fk, fse, g, b, v, g, b, v, rfl, rfl, fun _ _ => rfl, fun _ _ => rfl, frm.rf _ _ _ _, frm.rf _ _ _ _, hL.1, hL.2⟩
  · rw [br_f1 g0, br_f1 g0]
    by_cases g1 : a2 ≤ (8 : Int32)
    · obtain ⟨q, hq, rfl⟩ := nI_of2 (n := 8) rfl g0 g1
      obtain ⟨bS, bH, sS, sH, nS, nH, loS, hiS, xS, loH, hiH, xH, k1, k2, k3⟩ := begin_c (q := q) (by omega) (L.1 0) (L.1 1) (L.1 5) (L.1 9) (L.1 10) (L.2 0) (L.2 1) (L.2 2) (L.2 3) (L.2 4) (L.2 5) (L.2 6) (L.2 7)
      obtain ⟨ga, ba, va, gc, bc, vc, o1, o2, o3, o4, o5⟩ := op_43 hk 0 (upd fk k (nI q)) (upd fse k 0) g b v
      rw [br_t1 g1, br_t1 g1, ix_in hk (by omega), k1, cl_eq, nm_eq, nm_eq, nm_eq, nm_eq, nm_eq, nm_eq, nm_eq, nm_eq, nm_eq, nm_eq, nm_eq, nm_eq, nm_eq, wr_in (j := k) rfl hk (by omega), wr_in (j := k) rfl hk (by omega), ml_2, nm_eq, o1]
      exact ⟨1, nI q, bS, bH, sS, sH, nS, nH, loS, hiS, xS, loH, hiH, xH, _, _, ga, ba, va, gc, bc, vc, rfl, rfl, fun p hp => pk_un hp, fun p hp => pk_un hp, o4, o5, pk_us, Or.inr ⟨q, by omega, rfl, o2.vA (fun h2 h5 => (k2 h2 h5).1) (fun h6 => (k3 h6).1), o3.vA (fun h2 h5 => (k2 h2 h5).2) (fun h6 => (k3 h6).2.1), fun h6 => pk_us.trans (k3 h6).2.2.symm⟩⟩
    · rw [br_f1 g1, br_f1 g1]
      exact ⟨_, _, _, _, _, _, _, _, _, _, _, _, _, _, fk, fse, g, b, v, g, b, v, rfl, rfl, fun _ _ => rfl, fun _ _ => rfl, frm.rf _ _ _ _, frm.rf _ _ _ _, hL.1, hL.2⟩
section PS
variable {b2 b3 b4 b5 t2 t3 t4 t5 w2 w3 w4 w5 p2 p3 p4 p5 fc fs fr fu fh fl fw f56 f64 : Nat → Int32}
set_option maxHeartbeats 2000000 in
theorem pass_core (hB : mt4 b2 b3 b4 b5 lB2 lB3 lB4 lB5) (hT : mt4 t2 t3 t4 t5 lT2 lT3 lT4 lT5) (hW : mt4 w2 w3 w4 w5 lW2 lW3 lW4 lW5) (hP : mt4 p2 p3 p4 p5 lP2 lP3 lP4 lP5) (hfc : mt fc lCo) (hfs : mt fs lSt) (hfr : mt fr lRoots) (hfu : mt fu lUps) (hfh : mt fh lHig) (hfl : mt fl lLw) (hfw : mt fw lHw) (h56 : mt f56 lH56) (h64 : mt f64 lH64) {k1 k2 q1 q2 c : Nat} (hk1 : k1 < 4) (hk2 : k2 < 4) (hq1 : q1 < 9) (hq2 : q2 < 9) {fk fse : Nat → Int32} (hf1 : fk k1 = nI q1) (hf2 : fk k2 = nI q2) (hc : c < 2 ^ bt q1) (hcd : fX7_isCode (nI k1) (nI c) fk = some 1) (hw : q1 < 6 ↔ q2 < 6) {bH bS : Int32} {nH loH hiH xH nS loS hiS xS g b v : Nat → Int32} (hH : vR (2 * k1 + 1) q1 bH nH loH hiH xH g b v) (hS : vR (2 * k2) q2 bS nS loS hiS xS g b v) (seH szH stH sec seS szS stS to z e y od ev : Int32) : ∃ (rr r se1 sz1 st1 sec1 se2 sz2 st2 z1 e1 y1 od1 ev1 : Int32) (n1 lo1 hi1 x1 n2 lo2 hi2 x2 fse1 g1 bb1 v1 g2 bb2 v2 : Nat → Int32), fX4_decode (nI c) (nI q1) bH seH szH stH nH sec loH hiH xH = some (rr, se1, sz1, st1, n1, sec1, lo1, hi1, x1) ∧ fX4_encode rr sec1 (nI q2) bS seS szS stS nS loS hiS xS = some (r, se2, sz2, st2, n2, lo2, hi2, x2) ∧ fX7_pass (nI k1) (nI k2) (nI c) fk b2 b3 b4 b5 t2 t3 t4 t5 w2 w3 w4 w5 p2 p3 p4 p5 fc fs fr fu fh fl fw f56 f64 to z e y od ev fse g b v = some (r, 0, z1, e1, y1, od1, ev1, fse1, g2, bb2, v2) ∧ vR (2 * k1 + 1) q1 bH n1 lo1 hi1 x1 g2 bb2 v2 ∧ vR (2 * k2) q2 bS n2 lo2 hi2 x2 g2 bb2 v2 ∧ frm (2 * k1 + 1) g b v g1 bb1 v1 ∧ frm (2 * k2) g1 bb1 v1 g2 bb2 v2 ∧ (∀ p, p ≠ k1 → fse1 p = fse p) ∧  (6 ≤ q1 → fse1 k1 = sec1) := by
  obtain ⟨rr, se1, sz1, st1, sec1, z1, e1, y1, od1, ev1, n1, lo1, hi1, x1, fse1, g1, bb1, v1, m1, m2, m3, m4, m5, m6, m7⟩ := dec_b hT hW hP hfc hfr hfu hfh hfl hfw h56 h64 hk1 hq1 hf1 hc hH seH szH stH sec z e y od ev fse
  have hS' := hS.other (s' := 2 * k1 + 1) (by omega) m4
  have ew : (if q1 < 6 then (0 : Int32) else 1) = (if q2 < 6 then (0 : Int32) else 1) := by
    by_cases h6 : q1 < 6
    · rw [if_pos h6, if_pos (hw.mp h6)]
    · rw [if_neg h6, if_neg (fun q => h6 (hw.mpr q))]
  rw [fX7_pass, rk_open hk1, hf1, if_neg (ne_NONE q1 hq1), cl_eq, br_f1 one, hcd, cl_eq, br_f1 one, rk_open hk2, hf2, if_neg (ne_NONE q2 hq2), cl_eq, br_f1 one, rk_pair hk1 hq1 hf1, cl_eq, rk_pair hk2 hq2 hf2, cl_eq, br_q ew, m2, cl_eq, nm_eq, nm_eq, nm_eq, nm_eq, nm_eq, nm_eq, nm_eq, nm_eq, nm_eq, nm_eq, cl_eq]
  by_cases h6 : q1 < 6
  · obtain ⟨c1, se2, sz2, st2, z2, e2, y2, n2, g2, p1, p2, p3, p4, p5⟩ := enc_n hB hT hW hP hk2 (hw.mp h6) hf2 rr sec1 m5 hS' seS szS stS z1 e1 y1
    rw [if_pos h6, br_t1 rfl]
    dsimp only
    rw [p3, cl_eq, nm_eq, nm_eq, nm_eq, nm_eq, nm_eq]
    exact ⟨rr, nI c1, se1, sz1, st1, sec1, se2, sz2, st2, z2, e2, y2, od1, ev1, n1, lo1, hi1, x1, n2, _, _, _, fse1, g1, bb1, v1, g2, bb1, v1, m1, p2, rfl, m3.other (by omega) p5, p4, m4, p5, m6, fun h => (m7 h).1⟩
  · have h6' : 6 ≤ q2 := by
      rcases Nat.lt_or_ge q2 6 with h | h
      · exact absurd (hw.mpr h) h6
      · exact h
    obtain ⟨c1, o2, ev2, lo2, hi2, x2, bb2, v2, p1, p2, p3, p4, p5⟩ := enc_w hfc hfs hfr hfu hfh hfl hfw hk2 hq2 h6' rr sec1 hS' seS szS stS od1 ev1
    rw [if_neg h6, br_f1 one]
    dsimp only
    rw [rd_in (j := k1) rfl hk1 (by omega), (m7 (by omega)).1, p3, cl_eq, nm_eq, nm_eq, nm_eq, nm_eq, nm_eq]
    exact ⟨rr, nI c1, se1, sz1, st1, sec1, seS, szS, stS, z1, e1, y1, o2, ev2, n1, lo1, hi1, x1, nS, lo2, hi2, x2, fse1, g1, bb1, v1, g1, bb2, v2, m1, p2, rfl, m3.other (by omega) p5, p4, m4, p5, m6, fun h => (m7 h).1⟩
theorem pass_nr {k1 k2 : Nat} (hk1 : k1 < 4) (hk2 : k2 < 4) {fk fse g b v : Nat → Int32} (a3 to z e y od ev : Int32) (h : fk k1 = -100000 ∨ (∃ q, q < 9 ∧ fk k1 = nI q ∧ (fX7_isCode (nI k1) a3 fk = some 0 ∨ fX7_isCode (nI k1) a3 fk = some 1 ∧ (fk k2 = -100000 ∨ ∃ q2, q2 < 9 ∧ fk k2 = nI q2 ∧ ¬ (q < 6 ↔ q2 < 6))))) : fX7_pass (nI k1) (nI k2) a3 fk b2 b3 b4 b5 t2 t3 t4 t5 w2 w3 w4 w5 p2 p3 p4 p5 fc fs fr fu fh fl fw f56 f64 to z e y od ev fse g b v = some ((-100000 : Int32), (0 : Int32), z, e, y, od, ev, fse, g, b, v) := by
  rw [fX7_pass, rk_open hk1]
  rcases h with h | ⟨q, hq, hf, h | ⟨h, h2⟩⟩
  · rw [if_pos h, cl_eq, br_t1 rfl]
  · rw [if_neg (by rw [hf]; exact ne_NONE q hq), cl_eq, br_f1 one, h, cl_eq, br_t1 rfl]
  · rw [if_neg (by rw [hf]; exact ne_NONE q hq), cl_eq, br_f1 one, h, cl_eq, br_f1 one, rk_open hk2]
    rcases h2 with h2 | ⟨q2, hq2, hf2, hw⟩
    · rw [if_pos h2, cl_eq, br_t1 rfl]
    · rw [if_neg (by rw [hf2]; exact ne_NONE q2 hq2), cl_eq, br_f1 one, rk_pair hk1 hq hf, cl_eq, rk_pair hk2 hq2 hf2, cl_eq, br_f1]
      intro ew
      apply hw
      constructor
      · intro h6
        rw [if_pos h6] at ew
        rcases Nat.lt_or_ge q2 6 with h | h
        · exact h
        · rw [if_neg (by omega)] at ew; exact absurd ew (by decide)
      · intro h6
        rw [if_pos h6] at ew
        rcases Nat.lt_or_ge q 6 with h | h
        · exact h
        · rw [if_neg (by omega)] at ew; exact absurd ew (by decide)
set_option maxHeartbeats 2000000 in
theorem pass_ii_L (hB : mt4 b2 b3 b4 b5 lB2 lB3 lB4 lB5) (hT : mt4 t2 t3 t4 t5 lT2 lT3 lT4 lT5) (hW : mt4 w2 w3 w4 w5 lW2 lW3 lW4 lW5) (hP : mt4 p2 p3 p4 p5 lP2 lP3 lP4 lP5) (hfc : mt fc lCo) (hfs : mt fs lSt) (hfr : mt fr lRoots) (hfu : mt fu lUps) (hfh : mt fh lHig) (hfl : mt fl lLw) (hfw : mt fw lHw) (h56 : mt f56 lH56) (h64 : mt f64 lH64) {k1 k2 : Nat} (hk1 : k1 < 4) (hk2 : k2 < 4) (hne : k1 ≠ k2) {L L2 : lnT} {fk fse g b v : Nat → Int32} (hL : LR k1 L fk fse g b v) (hL2 : LR k2 L2 fk fse g b v) (a3 to z e y od ev : Int32) : ∃ (r se1 sz1 st1 sec1 se2 sz2 st2 z1 e1 y1 od1 ev1 : Int32) (n1 lo1 hi1 x1 n2 lo2 hi2 x2 fse1 g1 bb1 v1 g2 bb2 v2 : Nat → Int32), fX6_pass_ii (nI k1) (nI k2) a3 (L.1 0) (L.1 5) (L2.1 0) (L2.1 1) (L.1 6) (L.1 7) (L.1 8) (L.2 1) (L.1 10) (L.2 5) (L.2 6) (L.2 7) (L2.1 2) (L2.1 3) (L2.1 4) (L2.2 0) (L2.2 2) (L2.2 3) (L2.2 4) = some (r, se1, sz1, st1, n1, sec1, lo1, hi1, x1, se2, sz2, st2, n2, lo2, hi2, x2) ∧ fX7_pass (nI k1) (nI k2) a3 fk b2 b3 b4 b5 t2 t3 t4 t5 w2 w3 w4 w5 p2 p3 p4 p5 fc fs fr fu fh fl fw f56 f64 to z e y od ev fse g b v = some (r, 0, z1, e1, y1, od1, ev1, fse1, g2, bb2, v2) ∧ frm (2 * k1 + 1) g b v g1 bb1 v1 ∧ frm (2 * k2) g1 bb1 v1 g2 bb2 v2 ∧ (∀ p, p ≠ k1 → fse1 p = fse p) ∧ LR k1 (va_up (va_up (va_up (va_up L.1 6 se1) 7 sz1) 8 st1) 10 sec1, va_up (va_up (va_up (va_up L.2 1 n1) 5 lo1) 6 hi1) 7 x1) fk fse1 g2 bb2 v2 ∧ LR k2 (va_up (va_up (va_up L2.1 2 se2) 3 sz2) 4 st2, va_up (va_up (va_up (va_up L2.2 0 n2) 2 lo2) 3 hi2) 4 x2) fk fse1 g2 bb2 v2 := by
  have no : some ((-100000 : Int32), L.1 6, L.1 7, L.1 8, L.2 1, L.1 10, L.2 5, L.2 6, L.2 7, L2.1 2, L2.1 3, L2.1 4, L2.2 0, L2.2 2, L2.2 3, L2.2 4) = some ((-100000 : Int32), L.1 6, L.1 7, L.1 8, L.2 1, L.1 10, L.2 5, L.2 6, L.2 7, L2.1 2, L2.1 3, L2.1 4, L2.2 0, L2.2 2, L2.2 3, L2.2 4) ∧ fX7_pass (nI k1) (nI k2) a3 fk b2 b3 b4 b5 t2 t3 t4 t5 w2 w3 w4 w5 p2 p3 p4 p5 fc fs fr fu fh fl fw f56 f64 to z e y od ev fse g b v = some ((-100000 : Int32), (0 : Int32), z, e, y, od, ev, fse, g, b, v) → ∃ (r se1 sz1 st1 sec1 se2 sz2 st2 z1 e1 y1 od1 ev1 : Int32) (n1 lo1 hi1 x1 n2 lo2 hi2 x2 fse1 g1 bb1 v1 g2 bb2 v2 : Nat → Int32), some ((-100000 : Int32), L.1 6, L.1 7, L.1 8, L.2 1, L.1 10, L.2 5, L.2 6, L.2 7, L2.1 2, L2.1 3, L2.1 4, L2.2 0, L2.2 2, L2.2 3, L2.2 4) = some (r, se1, sz1, st1, n1, sec1, lo1, hi1, x1, se2, sz2, st2, n2, lo2, hi2, x2) ∧ fX7_pass (nI k1) (nI k2) a3 fk b2 b3 b4 b5 t2 t3 t4 t5 w2 w3 w4 w5 p2 p3 p4 p5 fc fs fr fu fh fl fw f56 f64 to z e y od ev fse g b v = some (r, 0, z1, e1, y1, od1, ev1, fse1, g2, bb2, v2) ∧ frm (2 * k1 + 1) g b v g1 bb1 v1 ∧ frm (2 * k2) g1 bb1 v1 g2 bb2 v2 ∧ (∀ p, p ≠ k1 → fse1 p = fse p) ∧ LR k1 (va_up (va_up (va_up (va_up L.1 6 se1) 7 sz1) 8 st1) 10 sec1, va_up (va_up (va_up (va_up L.2 1 n1) 5 lo1) 6 hi1) 7 x1) fk fse1 g2 bb2 v2 ∧ LR k2 (va_up (va_up (va_up L2.1 2 se2) 3 sz2) 4 st2, va_up (va_up (va_up (va_up L2.2 0 n2) 2 lo2) 3 hi2) 4 x2) fk fse1 g2 bb2 v2 := fun h => ⟨_, _, _, _, _, _, _, _, z, e, y, od, ev, _, _, _, _, _, _, _, _, fse, g, b, v, g, b, v, rfl, h.2, frm.rf _ _ _ _, frm.rf _ _ _ _, fun _ _ => rfl, ⟨hL.1, hL.2⟩, hL2.1, hL2.2⟩
  obtain ⟨e0, c | ⟨q, hq, eq, hS, hH, hs⟩⟩ := id hL
  · rw [fX6_pass_ii, ol_i hk1, if_pos c, cl_eq, br_t1 rfl, ol_i hk2, cl_eq, br_s]
    exact no ⟨rfl, pass_nr hk1 hk2 a3 to z e y od ev (Or.inl (e0.trans c))⟩
  · rw [fX6_pass_ii, eq, ol_i hk1, if_neg (ne_NONE q hq), cl_eq, br_f1 one, ol_i hk2]
    have hf1 : fk k1 = nI q := e0.trans eq
    obtain ⟨e2, c2 | ⟨q2, hq2, eq2, hS2, hH2, hs2⟩⟩ := id hL2
    · rw [if_pos c2, cl_eq, br_t1 rfl]
      refine no ⟨rfl, pass_nr hk1 hk2 a3 to z e y od ev (Or.inr ⟨q, hq, hf1, ?_⟩)⟩
      rcases has_both hk1 hq hf1 a3 with ⟨s1, s2⟩ | ⟨c, hc, -, s1, s2⟩
      · exact Or.inl s2
      · exact Or.inr ⟨s2, Or.inl (e2.trans c2)⟩
    · have hf2 : fk k2 = nI q2 := e2.trans eq2
      rw [if_neg (by rw [eq2]; exact ne_NONE q2 hq2), cl_eq, br_f1 one]
      rcases has_both hk1 hq hf1 a3 with ⟨s1, s2⟩ | ⟨c, hc, rfl, s1, s2⟩
      · rw [s1, cl_eq, br_t1 rfl]
        exact no ⟨rfl, pass_nr hk1 hk2 a3 to z e y od ev (Or.inr ⟨q, hq, hf1, Or.inl s2⟩)⟩
      · rw [s1, cl_eq, br_f1 one, kd_W q hq, cl_eq, eq2, kd_W q2 hq2, cl_eq]
        by_cases hw : (q < 6 ↔ q2 < 6)
        · obtain ⟨rr, r, se1, sz1, st1, sec1, se2, sz2, st2, z1, e1, y1, od1, ev1, n1, lo1, hi1, x1, n2, lo2, hi2, x2, fse1, g1, bb1, v1, g2, bb2, v2, m1, m2, m3, m4, m5, m6, m7, m8, m9⟩ := pass_core (fse := fse) hB hT hW hP hfc hfs hfr hfu hfh hfl hfw h56 h64 hk1 hk2 hq hq2 hf1 hf2 hc s2 hw hH hS2 (L.1 6) (L.1 7) (L.1 8) (L.1 10) (L2.1 2) (L2.1 3) (L2.1 4) to z e y od ev
          have ew : (if q < 6 then (0 : Int32) else 1) = (if q2 < 6 then (0 : Int32) else 1) := by
            by_cases h6 : q < 6
            · rw [if_pos h6, if_pos (hw.mp h6)]
            · rw [if_neg h6, if_neg (fun q => h6 (hw.mpr q))]
          rw [br_q ew, m1, cl_eq, nm_eq, nm_eq, nm_eq, nm_eq, nm_eq, nm_eq, nm_eq, nm_eq, nm_eq, fX4_secondHeard, cl_eq]
          dsimp only
          rw [m2, cl_eq, nm_eq, nm_eq, nm_eq, nm_eq, nm_eq, nm_eq, nm_eq, nm_eq]
          exact ⟨r, se1, sz1, st1, sec1, se2, sz2, st2, z1, e1, y1, od1, ev1, n1, lo1, hi1, x1, n2, lo2, hi2, x2, fse1, g1, bb1, v1, g2, bb2, v2, rfl, m3, m6, m7, m8, ⟨e0, Or.inr ⟨q, hq, eq, (hS.other (by omega) m6).other (by omega) m7, m4, m9⟩⟩, e2, Or.inr ⟨q2, hq2, eq2, m5, (hH2.other (by omega) m6).other (by omega) m7, fun h6 => (m8 k2 (Ne.symm hne)).trans (hs2 h6)⟩⟩
        · rw [br_f1 (fun ew => hw (by
            constructor
            · intro h6
              rw [if_pos h6] at ew
              rcases Nat.lt_or_ge q2 6 with h | h
              · exact h
              · rw [if_neg (by omega)] at ew; exact absurd ew (by decide)
            · intro h6
              rw [if_pos h6] at ew
              rcases Nat.lt_or_ge q 6 with h | h
              · exact h
              · rw [if_neg (by omega)] at ew; exact absurd ew (by decide)))]
          exact no ⟨rfl, pass_nr hk1 hk2 (nI c) to z e y od ev (Or.inr ⟨q, hq, hf1, Or.inr ⟨s2, Or.inr ⟨q2, hq2, hf2, hw⟩⟩⟩)⟩
set_option maxHeartbeats 2000000 in
theorem pass_is_L (hB : mt4 b2 b3 b4 b5 lB2 lB3 lB4 lB5) (hT : mt4 t2 t3 t4 t5 lT2 lT3 lT4 lT5) (hW : mt4 w2 w3 w4 w5 lW2 lW3 lW4 lW5) (hP : mt4 p2 p3 p4 p5 lP2 lP3 lP4 lP5) (hfc : mt fc lCo) (hfs : mt fs lSt) (hfr : mt fr lRoots) (hfu : mt fu lUps) (hfh : mt fh lHig) (hfl : mt fl lLw) (hfw : mt fw lHw) (h56 : mt f56 lH56) (h64 : mt f64 lH64) {k : Nat} (hk : k < 4) {L : lnT} {fk fse g b v : Nat → Int32} (hL : LR k L fk fse g b v) (a3 to z e y od ev : Int32) : ∃ (r se1 sz1 st1 sec1 se2 sz2 st2 z1 e1 y1 od1 ev1 : Int32) (n1 lo1 hi1 x1 n2 lo2 hi2 x2 fse1 g1 bb1 v1 g2 bb2 v2 : Nat → Int32), fX6_pass_is (nI k) (nI k) a3 (L.1 0) (L.1 1) (L.1 5) (L.1 2) (L.1 3) (L.1 4) (L.2 0) (L.1 6) (L.1 7) (L.1 8) (L.2 1) (L.2 2) (L.2 3) (L.2 4) (L.1 10) (L.2 5) (L.2 6) (L.2 7) = some (r, se2, sz2, st2, n2, se1, sz1, st1, n1, lo2, hi2, x2, sec1, lo1, hi1, x1) ∧ fX7_pass (nI k) (nI k) a3 fk b2 b3 b4 b5 t2 t3 t4 t5 w2 w3 w4 w5 p2 p3 p4 p5 fc fs fr fu fh fl fw f56 f64 to z e y od ev fse g b v = some (r, 0, z1, e1, y1, od1, ev1, fse1, g2, bb2, v2) ∧ frm (2 * k + 1) g b v g1 bb1 v1 ∧ frm (2 * k) g1 bb1 v1 g2 bb2 v2 ∧ (∀ p, p ≠ k → fse1 p = fse p) ∧ LR k (va_up (va_up (va_up (va_up (va_up (va_up (va_up L.1 2 se2) 3 sz2) 4 st2) 6 se1) 7 sz1) 8 st1) 10 sec1, va_up (va_up (va_up (va_up (va_up (va_up (va_up (va_up L.2 0 n2) 1 n1) 2 lo2) 3 hi2) 4 x2) 5 lo1) 6 hi1) 7 x1) fk fse1 g2 bb2 v2 := by
  have no : fX7_pass (nI k) (nI k) a3 fk b2 b3 b4 b5 t2 t3 t4 t5 w2 w3 w4 w5 p2 p3 p4 p5 fc fs fr fu fh fl fw f56 f64 to z e y od ev fse g b v = some ((-100000 : Int32), (0 : Int32), z, e, y, od, ev, fse, g, b, v) → ∃ (r se1 sz1 st1 sec1 se2 sz2 st2 z1 e1 y1 od1 ev1 : Int32) (n1 lo1 hi1 x1 n2 lo2 hi2 x2 fse1 g1 bb1 v1 g2 bb2 v2 : Nat → Int32), some ((-100000 : Int32), L.1 2, L.1 3, L.1 4, L.2 0, L.1 6, L.1 7, L.1 8, L.2 1, L.2 2, L.2 3, L.2 4, L.1 10, L.2 5, L.2 6, L.2 7) = some (r, se2, sz2, st2, n2, se1, sz1, st1, n1, lo2, hi2, x2, sec1, lo1, hi1, x1) ∧ fX7_pass (nI k) (nI k) a3 fk b2 b3 b4 b5 t2 t3 t4 t5 w2 w3 w4 w5 p2 p3 p4 p5 fc fs fr fu fh fl fw f56 f64 to z e y od ev fse g b v = some (r, 0, z1, e1, y1, od1, ev1, fse1, g2, bb2, v2) ∧ frm (2 * k + 1) g b v g1 bb1 v1 ∧ frm (2 * k) g1 bb1 v1 g2 bb2 v2 ∧ (∀ p, p ≠ k → fse1 p = fse p) ∧ LR k (va_up (va_up (va_up (va_up (va_up (va_up (va_up L.1 2 se2) 3 sz2) 4 st2) 6 se1) 7 sz1) 8 st1) 10 sec1, va_up (va_up (va_up (va_up (va_up (va_up (va_up (va_up L.2 0 n2) 1 n1) 2 lo2) 3 hi2) 4 x2) 5 lo1) 6 hi1) 7 x1) fk fse1 g2 bb2 v2 := fun h => ⟨_, _, _, _, _, _, _, _, z, e, y, od, ev, _, _, _, _, _, _, _, _, fse, g, b, v, g, b, v, rfl, h, frm.rf _ _ _ _, frm.rf _ _ _ _, fun _ _ => rfl, hL.1, hL.2⟩
  obtain ⟨e0, c | ⟨q, hq, eq, hS, hH, hs⟩⟩ := id hL
  · rw [fX6_pass_is, ol_i hk, if_pos c, cl_eq, br_t1 rfl, cl_eq, br_s]
    exact no (pass_nr hk hk a3 to z e y od ev (Or.inl (e0.trans c)))
  · rw [fX6_pass_is, eq, ol_i hk, if_neg (ne_NONE q hq), cl_eq, br_f1 one, cl_eq, br_f1 one]
    have hf1 : fk k = nI q := e0.trans eq
    rcases has_both hk hq hf1 a3 with ⟨s1, s2⟩ | ⟨c, hc, rfl, s1, s2⟩
    · rw [s1, cl_eq, br_t1 rfl]
      exact no (pass_nr hk hk a3 to z e y od ev (Or.inr ⟨q, hq, hf1, Or.inl s2⟩))
    · obtain ⟨rr, r, se1, sz1, st1, sec1, se2, sz2, st2, z1, e1, y1, od1, ev1, n1, lo1, hi1, x1, n2, lo2, hi2, x2, fse1, g1, bb1, v1, g2, bb2, v2, m1, m2, m3, m4, m5, m6, m7, m8, m9⟩ := pass_core (fse := fse) hB hT hW hP hfc hfs hfr hfu hfh hfl hfw h56 h64 hk hk hq hq hf1 hf1 hc s2 Iff.rfl hH hS (L.1 6) (L.1 7) (L.1 8) (L.1 10) (L.1 2) (L.1 3) (L.1 4) to z e y od ev
      rw [s1, cl_eq, br_f1 one, kd_W q hq, cl_eq, cl_eq, br_q rfl, m1, cl_eq, nm_eq, nm_eq, nm_eq, nm_eq, nm_eq, nm_eq, nm_eq, nm_eq, nm_eq, fX4_secondHeard, cl_eq]
      dsimp only
      rw [m2, cl_eq, nm_eq, nm_eq, nm_eq, nm_eq, nm_eq, nm_eq, nm_eq, nm_eq]
      exact ⟨r, se1, sz1, st1, sec1, se2, sz2, st2, z1, e1, y1, od1, ev1, n1, lo1, hi1, x1, n2, lo2, hi2, x2, fse1, g1, bb1, v1, g2, bb2, v2, rfl, m3, m6, m7, m8, e0, Or.inr ⟨q, hq, eq, m5, m4, m9⟩⟩
end PS
def RF (found : Int32) (l g : Nat → Int32) : Prop := found = 0 ∨ (found = 1 ∧ ivF l g)
theorem finds_any {found : Int32} {l g : Nat → Int32} (h : RF found l g) : ∃ l1 g1, fX7_finds found l g = some (1, l1, g1) ∧ ivF l1 g1 := by
  rcases h with rfl | ⟨rfl, h⟩
  · exact finds_eq l g
  · exact ⟨l, g, by rw [fX7_finds, br_f1 one], h⟩
theorem ne_lt {a c : Int32} (h : a < c) : ¬ a = c := fun z => by rw [z] at h; exact Int32.lt_irrefl h
theorem ne_gt {a c : Int32} (h : c < a) : ¬ a = c := fun z => by rw [z] at h; exact Int32.lt_irrefl h
set_option maxHeartbeats 1000000 in
theorem law_both {found : Int32} {l g : Nat → Int32} (h : RF found l g) (a1 a2 a3 to : Int32) : ∃ (r f1 : Int32) (l1 g1 : Nat → Int32), fX6_law a1 a2 a3 = some r ∧ fX7_law a1 a2 a3 to found l g = some (r, 0, f1, l1, g1) ∧ RF f1 l1 g1 := by
  rw [fX6_law, fX7_law]
  rcases pk_ix a1 (n := 2) (by omega) with g0 | g0 | ⟨j, hj, rfl⟩
  · rw [br_f1 (ne_lt g0), br_f1 (ne_lt (Int32.lt_trans g0 (by decide))), br_t1 g0]
    exact ⟨_, found, l, g, rfl, rfl, h⟩
  · have g1 : (1 : Int32) < a1 := Int32.lt_of_lt_of_le (by decide) g0
    have g2 : (0 : Int32) < a1 := Int32.lt_of_lt_of_le (by decide) g0
    rw [br_f1 (ne_gt g2), br_f1 (ne_gt g1), br_f1 (Int32.not_lt.mpr (Int32.le_of_lt g2)), br_t1 g1]
    exact ⟨_, found, l, g, rfl, rfl, h⟩
  · have ec : pq_br (nI j = (0 : Int32)) (fX6_law_b9 (nI j) a2 a3) (pq_br (nI j = (1 : Int32)) (fX6_law_b9 (nI j) a2 a3) (some ((-100000 : Int32)))) = fX6_law_b9 (nI j) a2 a3 := by
      rcases (show j = 0 ∨ j = 1 by omega) with rfl | rfl
      · rw [br_t1 z_0]
      · rw [br_f1 (by decide), br_t1 z_1]
    have ej := (by decide +kernel : ∀ j, j < 2 → ¬ nI j < (0 : Int32) ∧ ¬ (1 : Int32) < nI j) j hj
    rw [ec, br_f1 ej.1, br_f1 ej.2, fX6_law_b9]
    rcases pk_ix a2 (n := 256) (by omega) with g0 | g0 | ⟨c, hc, rfl⟩
    · rw [br_t1 g0, br_t1 g0]
      exact ⟨_, found, l, g, rfl, rfl, h⟩
    · have g1 : (255 : Int32) < a2 := Int32.lt_of_lt_of_le (by decide) g0
      have g2 : ¬ a2 < (0 : Int32) := Int32.not_lt.mpr (Int32.le_trans (by decide) g0)
      rw [br_f1 g2, br_f1 (Int32.not_le.mpr g1), br_f1 g2, br_t1 g1]
      exact ⟨_, found, l, g, rfl, rfl, h⟩
    · have c0 : ¬ nI c < (0 : Int32) := nI_pos (by omega)
      have c1 : nI c ≤ (255 : Int32) := nI_le (b := 255) (by omega) (by omega)
      rw [br_f1 c0, br_t1 c1, br_f1 c0, br_f1 (Int32.not_lt.mpr c1)]
      obtain ⟨l1, g1, f1, f2⟩ := finds_any h
      have ix : (256 : Int32) * nI j + nI c = nI (256 * j + c) := by rw [show (256 : Int32) * nI j = nI (256 * j) from pk_mul 256 j, nI_add]
      have hI := f2 j hj c hc
      rcases pk_ix a3 (n := 3) (by omega) with g0 | g0 | ⟨i, hi, rfl⟩
      · rw [br_f1 (ne_lt g0), br_f1 (ne_lt (Int32.lt_trans g0 (by decide))), br_f1 (ne_lt (Int32.lt_trans g0 (by decide))), br_t1 g0]
        exact ⟨_, found, l, g, rfl, rfl, h⟩
      · have q2 : (2 : Int32) < a3 := Int32.lt_of_lt_of_le (by decide) g0
        have q1 : (1 : Int32) < a3 := Int32.lt_of_lt_of_le (by decide) g0
        have q0 : (0 : Int32) < a3 := Int32.lt_of_lt_of_le (by decide) g0
        rw [br_f1 (ne_gt q0), br_f1 (ne_gt q1), br_f1 (ne_gt q2), br_f1 (Int32.not_lt.mpr (Int32.le_of_lt q0)), br_f1 (Int32.not_le.mpr q2)]
        exact ⟨_, found, l, g, rfl, rfl, h⟩
      · have ei := (by decide +kernel : ∀ i, i < 3 → ¬ nI i < (0 : Int32) ∧ nI i ≤ (2 : Int32)) i hi
        rw [br_f1 ei.1, br_t1 ei.2]
        rcases (show i = 0 ∨ i = 1 ∨ i = 2 by omega) with rfl | rfl | rfl
        · rw [br_t1 z_0, br_f1 (show ¬ nI 0 = (2 : Int32) from by decide), f1, cl_eq, nm_eq, nm_eq, nm_eq, br_t1 z_0, ix, rd_in (j := 256 * j + c) rfl (by omega) (by omega)]
          have es := edg_some j hj 0 (by omega) c hc
          rcases (show j = 0 ∨ j = 1 by omega) with rfl | rfl
          · rw [if_pos rfl] at es
            rw [br_t1 z_0, show (0 : Int32) = nI 0 from rfl, es, cl_eq]
            exact ⟨_, _, _, _, rfl, by rw [← hI.1], Or.inr ⟨rfl, f2⟩⟩
          · rw [if_neg (by decide)] at es
            rw [br_f1 (by decide), show (0 : Int32) = nI 0 from rfl, es, cl_eq]
            exact ⟨_, _, _, _, rfl, by rw [← hI.1], Or.inr ⟨rfl, f2⟩⟩
        · rw [br_f1 (show ¬ nI 1 = (0 : Int32) from by decide), br_t1 z_1, br_f1 (show ¬ nI 1 = (2 : Int32) from by decide), f1, cl_eq, nm_eq, nm_eq, nm_eq, br_f1 (show ¬ nI 1 = (0 : Int32) from by decide), ix, rd_in (j := 256 * j + c) rfl (by omega) (by omega)]
          have es := edg_some j hj 1 (by omega) c hc
          rcases (show j = 0 ∨ j = 1 by omega) with rfl | rfl
          · rw [if_pos rfl] at es
            rw [br_t1 z_0, show (1 : Int32) = nI 1 from rfl, es, cl_eq]
            exact ⟨_, _, _, _, rfl, by rw [← hI.2]; rfl, Or.inr ⟨rfl, f2⟩⟩
          · rw [if_neg (by decide)] at es
            rw [br_f1 (show ¬ nI 1 = (0 : Int32) from by decide), show (1 : Int32) = nI 1 from rfl, es, cl_eq]
            exact ⟨_, _, _, _, rfl, by rw [← hI.2]; rfl, Or.inr ⟨rfl, f2⟩⟩
        · rw [br_f1 (show ¬ nI 2 = (0 : Int32) from by decide), br_f1 (show ¬ nI 2 = (1 : Int32) from by decide), br_t1 (show nI 2 = (2 : Int32) from rfl), br_t1 (show nI 2 = (2 : Int32) from rfl)]
          rcases (show j = 0 ∨ j = 1 by omega) with rfl | rfl
          · obtain ⟨w, w1, w2, w3⟩ := mu_hears hc
            obtain ⟨a0, q0, r, t, -, -, -, -, -, -, u1, u2⟩ := mu_both w
            rw [br_t1 z_0, br_t1 z_0, w1, cl_eq, u1, cl_eq, w2, cl_eq, u2, cl_eq]
            exact ⟨_, found, l, g, rfl, rfl, h⟩
          · obtain ⟨w, w1, w2, w3⟩ := a_hears hc
            obtain ⟨q0, r, t, -, -, -, -, -, u1, u2⟩ := a_both w3
            rw [br_f1 (show ¬ nI 1 = (0 : Int32) from by decide), br_f1 (show ¬ nI 1 = (0 : Int32) from by decide), w1, cl_eq, u1, cl_eq, w2, cl_eq, u2, cl_eq]
            exact ⟨_, found, l, g, rfl, rfl, h⟩
