/-! rows of bytes unpacked, on both sides -/
section UK
variable {fk t2 t3 t4 t5 w2 w3 w4 w5 p2 p3 p4 p5 fc fr fu fh fl fw f56 f64 tr tf : Nat → Int32}
def wd (q : Nat) : Nat := if q < 6 then 2 else 4
set_option maxHeartbeats 2000000 in
theorem unpL (hT : mt4 t2 t3 t4 t5 lT2 lT3 lT4 lT5) (hW : mt4 w2 w3 w4 w5 lW2 lW3 lW4 lW5) (hP : mt4 p2 p3 p4 p5 lP2 lP3 lP4 lP5) (hfc : mt fc lCo) (hfr : mt fr lRoots) (hfu : mt fu lUps) (hfh : mt fh lHig) (hfl : mt fl lLw) (hfw : mt fw lHw) (h56 : mt f56 lH56) (h64 : mt f64 lH64) {k q t n : Nat} (hk : k < 4) (hq : q < 9) (hfk : fk k = nI q) (hn : n ≤ 250) (ht : t ≤ 1000) (hm : n * bt q ≤ 8 * t) {bits : Int32} (hT0 : ag t tr tf) (first to : Int32) : ∀ (F i : Nat) (r f nn lo hi x fse g b v : Nat → Int32) (se sz st sec z e y od ev : Int32), i ≤ n → n < F + i → ag (wd q * i) r f → vR (2 * k + 1) q bits nn lo hi x g b v → (6 ≤ q → fse k = sec) → ∃ (se1 sz1 st1 sec1 z1 e1 y1 od1 ev1 : Int32) (n1 lo1 hi1 x1 fse1 g1 b1 v1 r1 f1 : Nat → Int32), fX6_unpack_i_b64 tr (nI q) bits F first (nI n) (nI (bt q)) (nI i) (nI t) (nI (wd q * i)) r se sz st nn sec lo hi x = some (nI (wd q * n), 0, nI (wd q * n), r1, se1, sz1, st1, n1, sec1, lo1, hi1, x1) ∧ fX7_unpack_b62 fk t2 t3 t4 t5 w2 w3 w4 w5 p2 p3 p4 p5 fc fr fu fh fl fw f56 f64 tf F (nI k) first (nI n) (nI (bt q)) (nI i) to z e y od ev (nI t) (nI (wd q * i)) fse g b v f = some (nI (wd q * n), to, z1, e1, y1, od1, ev1, 0, nI (wd q * n), fse1, g1, b1, v1, f1) ∧ vR (2 * k + 1) q bits n1 lo1 hi1 x1 g1 b1 v1 ∧ frm (2 * k + 1) g b v g1 b1 v1 ∧ (∀ p, p ≠ k → fse1 p = fse p) ∧ (6 ≤ q → fse1 k = sec1) ∧ ag (wd q * n) r1 f1 := by
  intro F
  induction F with
  | zero => intro i r f nn lo hi x fse g b v se sz st sec z e y od ev h1 h2; exact absurd h2 (by omega)
  | succ F ih =>
    intro i r f nn lo hi x fse g b v se sz st sec z e y od ev h1 h2 hr hR hse
    rw [fX6_unpack_i_b64, fX7_unpack_b62]
    by_cases g0 : n ≤ i
    · have e0 : i = n := by omega
      subst e0
      rw [br_t1 (nI_le g0 (by omega)), br_t1 (nI_le g0 (by omega))]
      exact ⟨se, sz, st, sec, z, e, y, od, ev, nn, lo, hi, x, fse, g, b, v, r, f, rfl, rfl, hR, frm.rf _ _ _ _, fun _ _ => rfl, hse, hr⟩
    · obtain ⟨c, c1, c2, c3⟩ := get_all (fk := fk) (t2 := t2) (t3 := t3) (t4 := t4) (t5 := t5) (w2 := w2) (w3 := w3) (w4 := w4) (w5 := w5) (p2 := p2) (p3 := p3) (p4 := p4) (p5 := p5) (fc := fc) (fr := fr) (fu := fu) (fh := fh) (fl := fl) (fw := fw) (f56 := f56) (f64 := f64) (bt_le q).1 ht (mul_in (i := i) (by omega) hm) hT0 (fX7_unpack_b62 fk t2 t3 t4 t5 w2 w3 w4 w5 p2 p3 p4 p5 fc fr fu fh fl fw f56 f64 tf F) first (nI k) (nI n) to z e y od ev (nI t) (nI (wd q * i)) fse g b v f
      obtain ⟨rr, se1, sz1, st1, sec1, z1, e1, y1, od1, ev1, n1, lo1, hi1, x1, fse1, g1, b1, v1, m1, m2, m3, m4, m5, m6, m7⟩ := dec_b hT hW hP hfc hfr hfu hfh hfl hfw h56 h64 hk hq hfk c1 hR se sz st sec z e y od ev fse
      rw [br_f1 (nI_ge (by omega) (by omega)), br_f1 (nI_ge (by omega) (by omega)), c2, cl_eq, c3, m1, cl_eq, nm_eq, nm_eq, nm_eq, nm_eq, nm_eq, nm_eq, nm_eq, nm_eq, nm_eq, fX7_unpack_b74, br_t1 (nI_le (Nat.le_refl _) (by have := (bt_le q).1; omega)), m2, cl_eq, nm_eq, nm_eq, nm_eq, nm_eq, nm_eq, nm_eq, nm_eq, nm_eq, nm_eq, nm_eq, kd_W q hq, rk_pair hk hq hfk]
      by_cases h6 : q < 6
      · have ew : wd q = 2 := if_pos h6
        rw [ew] at hr ih ⊢
        obtain ⟨se2, sz2, st2, sec2, z2, e2, y2, od2, ev2, n2, lo2, hi2, x2, fse2, g2, b2', v2, r2, f2, k1, k2, k3, k4, k5, k6, k7⟩ := ih (i + 1) _ _ n1 lo1 hi1 x1 fse1 g1 b1 v1 se1 sz1 st1 sec1 z1 e1 y1 od1 ev1 (by omega) (by omega) ((hr.up ((rr >>> ((8 : Int32) &&& 31)) &&& 255)).up (rr &&& 255)) m3 (fun h => absurd h (by omega))
        refine ⟨se2, sz2, st2, sec2, z2, e2, y2, od2, ev2, n2, lo2, hi2, x2, fse2, g2, b2', v2, r2, f2, ?_, ?_, k3, m4.tr k4, fun p hp => by rw [k5 p hp, m6 p hp], k6, k7⟩
        · rw [addS_c (by omega), cl_eq, nm_eq, nm_eq, cl_eq, if_pos h6, br_t1 rfl, fX6_unpack_i_b114, nm_eq, nI_1]; exact k1
        · rw [addS_r (by omega), cl_eq, nm_eq, nm_eq, cl_eq, if_pos h6, br_t1 rfl, fX7_unpack_b185, nm_eq, nI_1]; exact k2
      · have ew : wd q = 4 := if_neg h6
        obtain ⟨m8, -⟩ := m7 (by omega)
        rw [ew] at hr ih ⊢
        obtain ⟨se2, sz2, st2, sec2, z2, e2, y2, od2, ev2, n2, lo2, hi2, x2, fse2, g2, b2', v2, r2, f2, k1, k2, k3, k4, k5, k6, k7⟩ := ih (i + 1) _ _ n1 lo1 hi1 x1 fse1 g1 b1 v1 se1 sz1 st1 sec1 z1 e1 y1 od1 ev1 (by omega) (by omega) ((((hr.up ((rr >>> ((8 : Int32) &&& 31)) &&& 255)).up (rr &&& 255)).up ((sec1 >>> ((8 : Int32) &&& 31)) &&& 255)).up (sec1 &&& 255)) m3 (fun _ => m8)
        refine ⟨se2, sz2, st2, sec2, z2, e2, y2, od2, ev2, n2, lo2, hi2, x2, fse2, g2, b2', v2, r2, f2, ?_, ?_, k3, m4.tr k4, fun p hp => by rw [k5 p hp, m6 p hp], k6, k7⟩
        · rw [addS_c (by omega), cl_eq, nm_eq, nm_eq, cl_eq, if_neg h6, br_f1 (by decide), fX4_secondHeard, cl_eq, addS_c (by omega), cl_eq, nm_eq, nm_eq, fX6_unpack_i_b114, nm_eq, nI_1]; exact k1
        · rw [addS_r (by omega), cl_eq, nm_eq, nm_eq, cl_eq, if_neg h6, br_f1 (by decide), rd_in (j := k) rfl hk (by omega)]
          dsimp only
          rw [m8, addS_r (by omega), cl_eq, nm_eq, nm_eq, fX7_unpack_b185, nm_eq, nI_1]; exact k2
set_option maxHeartbeats 2000000 in
theorem unp_both (hT : mt4 t2 t3 t4 t5 lT2 lT3 lT4 lT5) (hW : mt4 w2 w3 w4 w5 lW2 lW3 lW4 lW5) (hP : mt4 p2 p3 p4 p5 lP2 lP3 lP4 lP5) (hfc : mt fc lCo) (hfr : mt fr lRoots) (hfu : mt fu lUps) (hfh : mt fh lHig) (hfl : mt fl lLw) (hfw : mt fw lHw) (h56 : mt f56 lH56) (h64 : mt f64 lH64) {k q t o : Nat} (hk : k < 4) (hq : q < 9) (hfk : fk k = nI q) (ht : t ≤ 1000) (ho : o ≤ 1000) {bits : Int32} {nn lo hi x fse g b v r f : Nat → Int32} (hT0 : ag t tr tf) (hO : ag o r f) (hR : vR (2 * k + 1) q bits nn lo hi x g b v) (first a se sz st sec to z e y od ev : Int32) (hse : 6 ≤ q → fse k = sec) : ∃ (w : Int32) (t1 o1 : Nat) (se1 sz1 st1 sec1 z1 e1 y1 od1 ev1 : Int32) (n1 lo1 hi1 x1 fse1 g1 b1 v1 r1 f1 : Nat → Int32), t1 ≤ t ∧ o1 ≤ 1000 ∧ fX6_unpack_i (nI k) first a tr (nI q) bits (nI t) (nI o) r se sz st nn sec lo hi x = some (w, nI t1, nI o1, r1, se1, sz1, st1, n1, sec1, lo1, hi1, x1) ∧ fX7_unpack (nI k) first a fk t2 t3 t4 t5 w2 w3 w4 w5 p2 p3 p4 p5 fc fr fu fh fl fw f56 f64 tf to z e y od ev (nI t) (nI o) fse g b v f = some (w, 0, z1, e1, y1, od1, ev1, nI t1, nI o1, fse1, g1, b1, v1, f1) ∧ vR (2 * k + 1) q bits n1 lo1 hi1 x1 g1 b1 v1 ∧ frm (2 * k + 1) g b v g1 b1 v1 ∧ (∀ p, p ≠ k → fse1 p = fse p) ∧ (6 ≤ q → fse1 k = sec1) ∧ ag o1 r1 f1 := by
  have no : ∃ (w : Int32) (t1 o1 : Nat) (se1 sz1 st1 sec1 z1 e1 y1 od1 ev1 : Int32) (n1 lo1 hi1 x1 fse1 g1 b1 v1 r1 f1 : Nat → Int32), t1 ≤ t ∧ o1 ≤ 1000 ∧ some ((-100000 : Int32), nI t, nI o, r, se, sz, st, nn, sec, lo, hi, x) = some (w, nI t1, nI o1, r1, se1, sz1, st1, n1, sec1, lo1, hi1, x1) ∧ some ((-100000 : Int32), (0 : Int32), z, e, y, od, ev, nI t, nI o, fse, g, b, v, f) = some (w, 0, z1, e1, y1, od1, ev1, nI t1, nI o1, fse1, g1, b1, v1, f1) ∧ vR (2 * k + 1) q bits n1 lo1 hi1 x1 g1 b1 v1 ∧ frm (2 * k + 1) g b v g1 b1 v1 ∧ (∀ p, p ≠ k → fse1 p = fse p) ∧ (6 ≤ q → fse1 k = sec1) ∧ ag o1 r1 f1 := ⟨_, t, o, se, sz, st, sec, z, e, y, od, ev, nn, lo, hi, x, fse, g, b, v, r, f, by omega, ho, rfl, rfl, hR, frm.rf _ _ _ _, fun _ _ => rfl, hse, hO⟩
  have hb8 := (bt_le q).1
  rw [fX6_unpack_i, ol_i hk, if_neg (ne_NONE q hq), cl_eq, br_f1 (show ¬ (1 : Int32) = 0 from by decide), fX7_unpack, rk_open hk, hfk, if_neg (ne_NONE q hq), cl_eq, br_f1 (show ¬ (1 : Int32) = 0 from by decide)]
  by_cases g0 : a < (0 : Int32)
  · rw [br_t1 g0, br_t1 g0]; exact no
  · rw [br_f1 g0, br_f1 g0]
    by_cases g1 : a ≤ (250 : Int32)
    · obtain ⟨n, hn, rfl⟩ := nI_of2 (n := 250) rfl g0 g1
      have hn8 : n * bt q ≤ 250 * 8 := Nat.mul_le_mul hn hb8
      rw [br_t1 g1, br_f1 (Int32.not_lt.mpr g1), kd_B q hq, cl_eq, needed_c hb8 (by omega), cl_eq, rk_bits hk hq hfk, cl_eq, cl_eq, nz_8, pk_mul, ix_7, p_div (by omega)]
      by_cases g2 : t = (n * bt q + 7) / 8
      · rw [br_t1 (by rw [g2]), br_t1 (by rw [g2])]
        obtain ⟨se1, sz1, st1, sec1, z1, e1, y1, od1, ev1, n1, lo1, hi1, x1, fse1, g1, b1, v1, r1, f1, k1, k2, k3, k4, k5, k6, k7⟩ := unpL hT hW hP hfc hfr hfu hfh hfl hfw h56 h64 hk hq hfk hn ht (by omega) hT0 first 0 1100 0 r f nn lo hi x fse g b v se sz st sec z e y od ev (by omega) (by omega) (fun j hj => absurd hj (by omega)) hR hse
        have hw : wd q * n ≤ 1000 := by unfold wd; split <;> omega
        rw [show wd q * 0 = 0 from rfl] at k1 k2
        exact ⟨nI (wd q * n), 0, wd q * n, se1, sz1, st1, sec1, z1, e1, y1, od1, ev1, n1, lo1, hi1, x1, fse1, g1, b1, v1, r1, f1, by omega, hw, k1, k2, k3, k4, k5, k6, k7⟩
      · have ne : ¬ nI t = nI ((n * bt q + 7) / 8) := fun h => g2 ((nI_eq (by omega) (by omega)).mp h)
        rw [br_f1 ne, br_f1 ne]; exact no
    · rw [br_f1 g1, br_t1 (Int32.not_le.mp g1)]; exact no
end UK
