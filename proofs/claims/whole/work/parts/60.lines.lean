/-! a line on both sides: closed, or of one kind with two sides alike -/
abbrev lnT : Type := (Nat → Int32) × (Nat → Nat → Int32)
def LR (k : Nat) (L : lnT) (fk fse g b v : Nat → Int32) : Prop := fk k = L.1 0 ∧ (L.1 0 = (-100000 : Int32) ∨ ∃ q, q < 9 ∧ L.1 0 = nI q ∧ vR (2 * k) q (L.1 1) (L.2 0) (L.2 2) (L.2 3) (L.2 4) g b v ∧ vR (2 * k + 1) q (L.1 5) (L.2 1) (L.2 5) (L.2 6) (L.2 7) g b v ∧ (6 ≤ q → fse k = L.1 10))
theorem LR.other {j : Nat} {L : lnT} {fk fse g b v fk1 fse1 g1 b1 v1 : Nat → Int32} (h : LR j L fk fse g b v) (hfk : fk1 j = fk j) (hse : fse1 j = fse j) {s : Nat} (h1 : 2 * j ≠ s) (h2 : 2 * j + 1 ≠ s) (hf : frm s g b v g1 b1 v1) : LR j L fk1 fse1 g1 b1 v1 := ⟨hfk.trans h.1, h.2.imp id fun ⟨q, hq, e, hS, hH, hs⟩ => ⟨q, hq, e, hS.other h1 hf, hH.other h2 hf, fun h6 => hse.trans (hs h6)⟩⟩
theorem one : ¬ (1 : Int32) = 0 := by decide
theorem kind_L {k : Nat} (hk : k < 4) {L : lnT} {fk fse g b v : Nat → Int32} (hL : LR k L fk fse g b v) (to : Int32) : fX6_kind_i (nI k) (L.1 0) = some (L.1 0) ∧ fX7_kind (nI k) fk to = some (L.1 0, 0) := by
  constructor
  · rw [fX6_kind_i, ol_i hk, cl_eq]
    by_cases c : L.1 0 = (-100000 : Int32)
    · rw [if_pos c, br_t1 rfl, c]
    · rw [if_neg c, br_f1 one]
  · rw [fX7_kind, rk_line hk, cl_eq, br_f1 one, rd_in (j := k) rfl hk (by omega), hL.1]
theorem second_L {k : Nat} (hk : k < 4) {L : lnT} {fk fse g b v : Nat → Int32} (hL : LR k L fk fse g b v) (to : Int32) : ∃ r, fX6_second_i (nI k) (L.1 0) (L.1 10) = some r ∧ fX7_second (nI k) fk fse to = some (r, 0) := by
  obtain ⟨e0, c | ⟨q, hq, e, hS, hH, hs⟩⟩ := hL
  · rw [fX6_second_i, ol_i hk, if_pos c, cl_eq, br_t1 rfl, fX7_second, rk_open hk, e0, if_pos c, cl_eq, br_t1 rfl]
    exact ⟨_, rfl, rfl⟩
  · have hfk : fk k = nI q := e0.trans e
    rw [fX6_second_i, e, ol_i hk, if_neg (ne_NONE q hq), cl_eq, br_f1 one, kd_W q hq, cl_eq, fX7_second, rk_open hk, hfk, if_neg (ne_NONE q hq), cl_eq, br_f1 one, rk_pair hk hq hfk, cl_eq]
    by_cases h6 : q < 6
    · rw [if_pos h6, br_t1 rfl, br_t1 rfl]; exact ⟨_, rfl, rfl⟩
    · rw [if_neg h6, br_f1 one, br_f1 one, fX4_secondHeard, cl_eq, rd_in (j := k) rfl hk (by omega), hs (by omega)]; exact ⟨_, rfl, rfl⟩
theorem lit_lt (j c : Nat) (hj : j < 100000) (hc : c < 100000) : (nI j < nI c ↔ j < c) ∧ (nI c ≤ nI j ↔ c ≤ j) := ⟨nI_ltI (by omega) (by omega), nI_leI (by omega) (by omega)⟩
theorem numA {s : Nat} (hs : s < 8) {n g : Nat → Int32} (h : ∀ j, j < 24 → g (24 * s + j) = n j) (a : Int32) : ∃ r, fX0_number a n = some r ∧ pq_br (a < (0 : Int32)) (some ((-100000 : Int32), (0 : Int32))) (pq_br ((24 : Int32) ≤ a) (some ((-100000 : Int32), (0 : Int32))) (pq_rd 192 g (((24 : Int32) * nI s) + a) fun (v23 : Int32) => some (v23, (0 : Int32)))) = some (r, 0) := by
  rw [fX0_number]
  rcases pk_ix a (n := 24) (by omega) with g0 | g0 | ⟨j, hj, rfl⟩
  · rw [br_t1 g0, br_t1 g0]; exact ⟨_, rfl, rfl⟩
  · by_cases g1 : a < (0 : Int32)
    · rw [br_t1 g1, br_t1 g1]; exact ⟨_, rfl, rfl⟩
    · have g2 : (24 : Int32) ≤ a := g0
      rw [br_f1 g1, br_f1 g1, br_f1 (Int32.not_lt.mpr g2), br_t1 g2]; exact ⟨_, rfl, rfl⟩
  · have g1 : nI j < (24 : Int32) := nI_lt (b := 24) hj (by omega)
    have g2 : ¬ nI j < (0 : Int32) := nI_pos (by omega)
    rw [br_f1 g2, br_f1 g2, br_t1 g1, br_f1 (Int32.not_le.mpr g1), rd_in (j := j) rfl hj (by omega), (sd_24 s hs).1, rd_in (j := 24 * s + j) (nI_add _ _) (by omega) (by omega), h j hj]
    exact ⟨_, rfl, rfl⟩
theorem num1_no {a : Int32} (lo : Nat → Int32) (h : a < 0 ∨ nI 23 ≤ a) : fX1_number a lo = some (-100000) := by
  rw [fX1_number]
  by_cases g1 : a < (0 : Int32)
  · rw [br_t1 g1]; rfl
  · rw [br_f1 g1, br_f1 (show ¬ a < (23 : Int32) from Int32.not_lt.mpr (h.resolve_left g1))]; rfl
theorem num1_in {j : Nat} (hj : j < 23) (lo : Nat → Int32) : fX1_number (nI j) lo = some (lo j) := by
  rw [fX1_number, br_f1 (nI_pos (by omega)), br_t1 (show nI j < (23 : Int32) from nI_lt (b := 23) hj (by omega)), rd_in (j := j) rfl hj (by omega)]
theorem numW {s : Nat} (hs : s < 8) {lo hi x b v : Nat → Int32} (h1 : ∀ j, j < 23 → b (46 * s + j) = lo j) (h2 : ∀ j, j < 23 → b (46 * s + 23 + j) = hi j) (h3 : ∀ j, j < 24 → v (24 * s + j) = x j) (fk g : Nat → Int32) (a : Int32) : ∃ r, fX5_number a lo hi x = some r ∧ pq_br (a < (0 : Int32)) (fX7_inner_b101 fk g b v a (nI s) (0 : Int32)) (pq_br ((23 : Int32) ≤ a) (fX7_inner_b101 fk g b v a (nI s) (0 : Int32)) (pq_rd 368 b (((46 : Int32) * nI s) + a) fun (v18 : Int32) => some (v18, (0 : Int32)))) = some (r, 0) := by
  have no30 : a < (30 : Int32) → fX7_inner_b101 fk g b v a (nI s) (0 : Int32) = some ((-100000 : Int32), 0) := fun h => by
    have h60 : a < (60 : Int32) := Int32.lt_trans h (by decide)
    rw [fX7_inner_b101, br_t1 h, fX7_inner_b129, br_t1 h60]
  rw [fX5_number]
  rcases pk_ix a (n := 84) (by omega) with g0 | g0 | ⟨j, hj, rfl⟩
  · have g1 : a < (30 : Int32) := Int32.lt_trans g0 (by decide)
    rw [br_f1 (Int32.not_le.mpr g1), num1_no lo (Or.inl g0), cl_eq, br_t1 g0, no30 g1]; exact ⟨_, rfl, rfl⟩
  · have g84 : (84 : Int32) ≤ a := g0
    have g60 : (60 : Int32) ≤ a := Int32.le_trans (by decide) g84
    have g53 : (53 : Int32) ≤ a := Int32.le_trans (by decide) g84
    have g30 : (30 : Int32) ≤ a := Int32.le_trans (by decide) g84
    have g23 : (23 : Int32) ≤ a := Int32.le_trans (by decide) g84
    have g00 : ¬ a < (0 : Int32) := Int32.not_lt.mpr (Int32.le_trans (by decide) g84)
    rw [br_t1 g30, br_t1 g60, br_t1 g84, br_f1 g00, br_t1 g23, fX7_inner_b101, br_f1 (Int32.not_lt.mpr g30), br_t1 g53, fX7_inner_b129, br_f1 (Int32.not_lt.mpr g60), br_t1 g84]
    exact ⟨_, rfl, rfl⟩
  · have g00 : ¬ nI j < (0 : Int32) := nI_pos (by omega)
    have l23 : (23 : Int32) ≤ nI j ↔ 23 ≤ j := (lit_lt j 23 (by omega) (by omega)).2
    have l30 : (30 : Int32) ≤ nI j ↔ 30 ≤ j := (lit_lt j 30 (by omega) (by omega)).2
    have l53 : (53 : Int32) ≤ nI j ↔ 53 ≤ j := (lit_lt j 53 (by omega) (by omega)).2
    have l60 : (60 : Int32) ≤ nI j ↔ 60 ≤ j := (lit_lt j 60 (by omega) (by omega)).2
    have l84 : (84 : Int32) ≤ nI j ↔ 84 ≤ j := (lit_lt j 84 (by omega) (by omega)).2
    rw [br_f1 g00]
    by_cases c30 : 30 ≤ j
    · rw [br_t1 (l30.mpr c30), br_t1 (l23.mpr (by omega))]
      by_cases c60 : 60 ≤ j
      · rw [br_t1 (l60.mpr c60), br_f1 (fun q => by have := l84.mp q; omega), rd_in (i := nI j - (60 : Int32)) (j := j - 60) (pk_sub (b := 60) c60) (by omega) (by omega), fX7_inner_b101, br_f1 (Int32.not_lt.mpr (l30.mpr c30)), br_t1 (l53.mpr (by omega)), fX7_inner_b129, br_f1 (Int32.not_lt.mpr (l60.mpr c60)), br_f1 (fun q => by have := l84.mp q; omega), (sd_24 s hs).1, nI_add, rd_in (i := nI (24 * s + j) - (60 : Int32)) (j := 24 * s + (j - 60)) (by rw [← Nat.add_sub_assoc c60]; exact pk_sub (b := 60) (by omega)) (by omega) (by omega), h3 (j - 60) (by omega)]
        exact ⟨_, rfl, rfl⟩
      · have e30 : nI j - (30 : Int32) = nI (j - 30) := pk_sub (b := 30) c30
        rw [br_f1 (fun q => c60 (l60.mp q)), e30, fX7_inner_b101, br_f1 (Int32.not_lt.mpr (l30.mpr c30))]
        by_cases c53 : 53 ≤ j
        · rw [num1_no hi (Or.inr (nI_le (by omega) (by omega))), cl_eq, br_t1 (l53.mpr c53), fX7_inner_b129, br_t1 (Int32.not_le.mp (fun q => c60 (l60.mp q)))]
          exact ⟨_, rfl, rfl⟩
        · rw [num1_in (j := j - 30) (by omega), cl_eq, br_f1 (fun q => c53 (l53.mp q)), (sd_24 s hs).2, nI_add, rd_in (i := nI (46 * s + j) - (7 : Int32)) (j := 46 * s + 23 + (j - 30)) (by rw [show 46 * s + 23 + (j - 30) = 46 * s + j - 7 from by omega]; exact pk_sub (b := 7) (by omega)) (by omega) (by omega), h2 (j - 30) (by omega)]
          exact ⟨_, rfl, rfl⟩
    · rw [br_f1 (fun q => c30 (l30.mp q))]
      by_cases c23 : 23 ≤ j
      · rw [num1_no lo (Or.inr (nI_le c23 (by omega))), cl_eq, br_t1 (l23.mpr c23), no30 (Int32.not_le.mp (fun q => c30 (l30.mp q)))]
        exact ⟨_, rfl, rfl⟩
      · rw [num1_in (by omega), cl_eq, br_f1 (fun q => c23 (l23.mp q)), (sd_24 s hs).2, rd_in (j := 46 * s + j) (nI_add _ _) (by omega) (by omega), h1 j (by omega)]
        exact ⟨_, rfl, rfl⟩
/-- one side's number, at s -/
theorem num_s {s q : Nat} (hs : s < 8) (hq : q < 9) {k : Nat} (hk : k < 4) {fk : Nat → Int32} (hfk : fk k = nI q) {bits : Int32} {n lo hi x g b v : Nat → Int32} (hR : vR s q bits n lo hi x g b v) (a : Int32) : ∃ r, pq_cl (fX4_isWide (nI q)) (fun (r1 : Int32) => pq_br (r1 = (0 : Int32)) (pq_cl (fX4_isAdpcm (nI q)) fun (r4 : Int32) => pq_br (r4 = (0 : Int32)) (some ((-100000 : Int32))) (fX0_number a n)) (fX5_number a lo hi x)) = some r ∧ pq_br ((2 : Int32) ≤ nI q) (pq_cl (fX7_isPaired (nI k) fk) fun (r12 : Int32) => pq_br (r12 = (0 : Int32)) (pq_br (a < (0 : Int32)) (some ((-100000 : Int32), (0 : Int32))) (pq_br ((24 : Int32) ≤ a) (some ((-100000 : Int32), (0 : Int32))) (pq_rd 192 g (((24 : Int32) * nI s) + a) fun (v23 : Int32) => some (v23, (0 : Int32))))) (pq_br (a < (0 : Int32)) (fX7_inner_b101 fk g b v a (nI s) (0 : Int32)) (pq_br ((23 : Int32) ≤ a) (fX7_inner_b101 fk g b v a (nI s) (0 : Int32)) (pq_rd 368 b (((46 : Int32) * nI s) + a) fun (v18 : Int32) => some (v18, (0 : Int32)))))) (some ((-100000 : Int32), (0 : Int32))) = some (r, 0) := by
  rw [kd_W q hq, cl_eq, kd_A q hq, cl_eq, rk_pair hk hq hfk, cl_eq]
  have l2 : (2 : Int32) ≤ nI q ↔ 2 ≤ q := (lit_lt q 2 (by omega) (by omega)).2
  by_cases h6 : q < 6
  · rw [if_pos h6, br_t1 rfl, br_t1 rfl]
    by_cases h2 : 2 ≤ q
    · rw [if_pos ⟨h2, by omega⟩, br_f1 one, br_t1 (l2.mpr h2)]
      exact numA hs (hR.1 h2 (by omega)).2.1 a
    · rw [if_neg (by omega), br_t1 rfl, br_f1 (fun z => h2 (l2.mp z))]
      exact ⟨_, rfl, rfl⟩
  · obtain ⟨e1, e2, e3⟩ := hR.2 (by omega)
    rw [if_neg h6, br_f1 one, br_f1 one, br_t1 (l2.mpr (by omega))]
    exact numW hs e1 e2 e3 fk g a
theorem cl_id {α : Type} (o : Option α) : pq_cl o (fun r => some r) = o := by cases o <;> rfl
theorem inner_L {k : Nat} (hk : k < 4) {L : lnT} {fk fse g b v : Nat → Int32} (hL : LR k L fk fse g b v) (a2 a3 to : Int32) : ∃ r, fX6_inner_i (nI k) a2 a3 (L.1 0) (L.2 0) (L.2 1) (L.2 2) (L.2 3) (L.2 4) (L.2 5) (L.2 6) (L.2 7) = some r ∧ fX7_inner (nI k) a2 a3 fk g b v to = some (r, 0) := by
  obtain ⟨e0, c | ⟨q, hq, e, hS, hH, hs⟩⟩ := hL
  · rw [fX6_inner_i, ol_i hk, if_pos c, cl_eq, br_t1 rfl, fX7_inner, rk_open hk, e0, if_pos c, cl_eq, br_t1 rfl]
    exact ⟨_, rfl, rfl⟩
  · have hfk : fk k = nI q := e0.trans e
    rw [fX6_inner_i, e, ol_i hk, if_neg (ne_NONE q hq), cl_eq, br_f1 one, fX7_inner, rk_open hk, hfk, if_neg (ne_NONE q hq), cl_eq, br_f1 one]
    rcases pk_ix a2 (n := 2) (by omega) with g0 | g0 | ⟨j, hj, rfl⟩
    · have n0' : ¬ a2 = (0 : Int32) := fun z => by rw [z] at g0; exact absurd g0 (by decide)
      have n1' : ¬ a2 = (1 : Int32) := fun z => by rw [z] at g0; exact absurd g0 (by decide)
      rw [br_f1 n0', br_f1 n1', br_t1 g0]; exact ⟨_, rfl, rfl⟩
    · have n0' : ¬ a2 = (0 : Int32) := fun z => by rw [z] at g0; exact absurd g0 (by decide)
      have n1' : ¬ a2 = (1 : Int32) := fun z => by rw [z] at g0; exact absurd g0 (by decide)
      have g00 : ¬ a2 < (0 : Int32) := Int32.not_lt.mpr (Int32.le_trans (by decide) g0)
      have g01 : (1 : Int32) < a2 := Int32.lt_of_lt_of_le (by decide) g0
      rw [br_f1 n0', br_f1 n1', br_f1 g00, br_t1 g01]; exact ⟨_, rfl, rfl⟩
    · rcases (show j = 0 ∨ j = 1 by omega) with rfl | rfl
      · obtain ⟨r, k1, k2⟩ := num_s (s := 2 * k) (by omega) hq hk hfk hS a3
        refine ⟨r, ?_, ?_⟩
        · rw [br_t1 z_0, fX6_inner_i_b24, br_t1 z_0, fX6_inner_i_b35, cl_id, fX4_number, br_f1 one, br_f1 one, cl_id, cl_id]
          exact k1
        · rw [br_f1 (by decide), br_f1 (by decide), rd_in (j := k) rfl hk (by omega), hfk, ml_2, nI_add, nm_eq]
          exact k2
      · obtain ⟨r, k1, k2⟩ := num_s (s := 2 * k + 1) (by omega) hq hk hfk hH a3
        refine ⟨r, ?_, ?_⟩
        · rw [br_f1 (by decide), br_t1 z_1, fX6_inner_i_b24, br_f1 (by decide), fX6_inner_i_b35, cl_id, fX4_number, br_t1 rfl, br_t1 rfl, cl_id, cl_id]
          exact k1
        · rw [br_f1 (by decide), br_f1 (by decide), rd_in (j := k) rfl hk (by omega), hfk, ml_2, nI_add, nm_eq]
          exact k2
section LL
variable {b2 b3 b4 b5 t2 t3 t4 t5 w2 w3 w4 w5 p2 p3 p4 p5 fc fs fr fu fh fl fw f56 f64 : Nat → Int32}
theorem say_L (hB : mt4 b2 b3 b4 b5 lB2 lB3 lB4 lB5) (hT : mt4 t2 t3 t4 t5 lT2 lT3 lT4 lT5) (hW : mt4 w2 w3 w4 w5 lW2 lW3 lW4 lW5) (hP : mt4 p2 p3 p4 p5 lP2 lP3 lP4 lP5) {k : Nat} (hk : k < 4) {L : lnT} {fk fse g b v : Nat → Int32} (hL : LR k L fk fse g b v) (a2 to z e y : Int32) : ∃ (r se1 sz1 st1 z1 e1 y1 : Int32) (n1 lo1 hi1 x1 g1 : Nat → Int32), fX6_say_i (nI k) a2 (L.1 0) (L.1 1) (L.1 2) (L.1 3) (L.1 4) (L.2 0) (L.2 2) (L.2 3) (L.2 4) = some (r, se1, sz1, st1, n1, lo1, hi1, x1) ∧ fX7_say (nI k) a2 fk b2 b3 b4 b5 t2 t3 t4 t5 w2 w3 w4 w5 p2 p3 p4 p5 to z e y g = some (r, 0, z1, e1, y1, g1) ∧ frm (2 * k) g b v g1 b v ∧ LR k (va_up (va_up (va_up L.1 2 se1) 3 sz1) 4 st1, va_up (va_up (va_up (va_up L.2 0 n1) 2 lo1) 3 hi1) 4 x1) fk fse g1 b v := by
  obtain ⟨e0, c | ⟨q, hq, eq, hS, hH, hs⟩⟩ := hL
  · rw [fX6_say_i, ol_i hk, if_pos c, cl_eq, br_t1 rfl, fX7_say, rk_open hk, e0, if_pos c, cl_eq, br_t1 rfl]
    exact ⟨_, _, _, _, z, e, y, _, _, _, _, g, rfl, rfl, frm.rf _ _ _ _, e0, Or.inl c⟩
  · have hfk : fk k = nI q := e0.trans eq
    rw [fX6_say_i, eq, ol_i hk, if_neg (ne_NONE q hq), cl_eq, br_f1 one, kd_W q hq, cl_eq, fX7_say, rk_open hk, hfk, if_neg (ne_NONE q hq), cl_eq, br_f1 one, rk_pair hk hq hfk, cl_eq]
    by_cases h6 : q < 6
    · rw [if_pos h6, br_t1 rfl, br_t1 rfl]
      rcases is_sam a2 with ⟨s1, s2⟩ | ⟨s1, s2, s3⟩
      · rw [s1, cl_eq, br_t1 rfl, s2, cl_eq, br_t1 rfl]
        exact ⟨_, _, _, _, z, e, y, _, _, _, _, g, rfl, rfl, frm.rf _ _ _ _, e0, Or.inr ⟨q, hq, eq, hS, hH, hs⟩⟩
      · obtain ⟨c, se1, sz1, st1, z1, e1, y1, n1, g1, m1, m2, m3, m4, m5⟩ := enc_n hB hT hW hP hk h6 hfk a2 0 s3 hS (L.1 2) (L.1 3) (L.1 4) z e y
        rw [s1, cl_eq, br_f1 one, m2, cl_eq, nm_eq, nm_eq, nm_eq, nm_eq, nm_eq, nm_eq, nm_eq, nm_eq, s2, cl_eq, br_f1 one, m3, cl_eq, nm_eq, nm_eq, nm_eq, nm_eq, nm_eq]
        exact ⟨nI c, se1, sz1, st1, z1, e1, y1, n1, _, _, _, g1, rfl, rfl, m5, e0, Or.inr ⟨q, hq, eq, m4, hH.other (by omega) m5, hs⟩⟩
    · rw [if_neg h6, br_f1 one, br_f1 one]
      exact ⟨_, _, _, _, z, e, y, _, _, _, _, g, rfl, rfl, frm.rf _ _ _ _, e0, Or.inr ⟨q, hq, eq, hS, hH, hs⟩⟩
theorem pair_L (hfc : mt fc lCo) (hfs : mt fs lSt) (hfr : mt fr lRoots) (hfu : mt fu lUps) (hfh : mt fh lHig) (hfl : mt fl lLw) (hfw : mt fw lHw) {k : Nat} (hk : k < 4) {L : lnT} {fk fse g b v : Nat → Int32} (hL : LR k L fk fse g b v) (a2 a3 to od ev : Int32) : ∃ (r se1 sz1 st1 od1 ev1 : Int32) (n1 lo1 hi1 x1 b1 v1 : Nat → Int32), fX6_pair_i (nI k) a2 a3 (L.1 0) (L.1 1) (L.1 2) (L.1 3) (L.1 4) (L.2 0) (L.2 2) (L.2 3) (L.2 4) = some (r, se1, sz1, st1, n1, lo1, hi1, x1) ∧ fX7_pair (nI k) a2 a3 fk fc fs fr fu fh fl fw to od ev b v = some (r, 0, od1, ev1, b1, v1) ∧ frm (2 * k) g b v g b1 v1 ∧ LR k (va_up (va_up (va_up L.1 2 se1) 3 sz1) 4 st1, va_up (va_up (va_up (va_up L.2 0 n1) 2 lo1) 3 hi1) 4 x1) fk fse g b1 v1 := by
  obtain ⟨e0, c | ⟨q, hq, eq, hS, hH, hs⟩⟩ := hL
  · rw [fX6_pair_i, ol_i hk, if_pos c, cl_eq, br_t1 rfl, fX7_pair, rk_open hk, e0, if_pos c, cl_eq, br_t1 rfl]
    exact ⟨_, _, _, _, od, ev, _, _, _, _, b, v, rfl, rfl, frm.rf _ _ _ _, e0, Or.inl c⟩
  · have hfk : fk k = nI q := e0.trans eq
    rw [fX6_pair_i, eq, ol_i hk, if_neg (ne_NONE q hq), cl_eq, br_f1 one, kd_W q hq, cl_eq, fX7_pair, rk_open hk, hfk, if_neg (ne_NONE q hq), cl_eq, br_f1 one, rk_pair hk hq hfk, cl_eq]
    by_cases h6 : q < 6
    · rw [if_pos h6, br_t1 rfl, br_t1 rfl]
      exact ⟨_, _, _, _, od, ev, _, _, _, _, b, v, rfl, rfl, frm.rf _ _ _ _, e0, Or.inr ⟨q, hq, eq, hS, hH, hs⟩⟩
    · rw [if_neg h6, br_f1 one, br_f1 one]
      rcases is_sam a2 with ⟨s1, s2⟩ | ⟨s1, s2, s3⟩
      · rw [s1, cl_eq, br_t1 rfl, s2, cl_eq, br_t1 rfl]
        exact ⟨_, _, _, _, od, ev, _, _, _, _, b, v, rfl, rfl, frm.rf _ _ _ _, e0, Or.inr ⟨q, hq, eq, hS, hH, hs⟩⟩
      · rw [s1, cl_eq, br_f1 one, s2, cl_eq, br_f1 one]
        rcases is_sam a3 with ⟨p1, p2⟩ | ⟨p1, p2, p3⟩
        · rw [p1, cl_eq, br_t1 rfl, p2, cl_eq, br_t1 rfl]
          exact ⟨_, _, _, _, od, ev, _, _, _, _, b, v, rfl, rfl, frm.rf _ _ _ _, e0, Or.inr ⟨q, hq, eq, hS, hH, hs⟩⟩
        · obtain ⟨c, o1, ev1, lo1, hi1, x1, b1, v1, m1, m2, m3, m4, m5⟩ := enc_w hfc hfs hfr hfu hfh hfl hfw hk hq (by omega) a2 a3 hS (L.1 2) (L.1 3) (L.1 4) od ev
          rw [p1, cl_eq, br_f1 one, m2, cl_eq, nm_eq, nm_eq, nm_eq, nm_eq, nm_eq, nm_eq, nm_eq, nm_eq, p2, cl_eq, br_f1 one, m3, cl_eq, nm_eq, nm_eq, nm_eq, nm_eq, nm_eq]
          exact ⟨nI c, _, _, _, o1, ev1, _, lo1, hi1, x1, b1, v1, rfl, rfl, m5, e0, Or.inr ⟨q, hq, eq, m4, hH.other (by omega) m5, hs⟩⟩
theorem hear_L (hT : mt4 t2 t3 t4 t5 lT2 lT3 lT4 lT5) (hW : mt4 w2 w3 w4 w5 lW2 lW3 lW4 lW5) (hP : mt4 p2 p3 p4 p5 lP2 lP3 lP4 lP5) (hfc : mt fc lCo) (hfr : mt fr lRoots) (hfu : mt fu lUps) (hfh : mt fh lHig) (hfl : mt fl lLw) (hfw : mt fw lHw) (h56 : mt f56 lH56) (h64 : mt f64 lH64) {k : Nat} (hk : k < 4) {L : lnT} {fk fse g b v : Nat → Int32} (hL : LR k L fk fse g b v) (a2 to z e y od ev : Int32) : ∃ (r se1 sz1 st1 sec1 z1 e1 y1 od1 ev1 : Int32) (n1 lo1 hi1 x1 fse1 g1 b1 v1 : Nat → Int32), fX6_hear_i (nI k) a2 (L.1 0) (L.1 5) (L.1 6) (L.1 7) (L.1 8) (L.2 1) (L.1 10) (L.2 5) (L.2 6) (L.2 7) = some (r, se1, sz1, st1, n1, sec1, lo1, hi1, x1) ∧ fX7_hear (nI k) a2 fk t2 t3 t4 t5 w2 w3 w4 w5 p2 p3 p4 p5 fc fr fu fh fl fw f56 f64 to z e y od ev fse g b v = some (r, 0, z1, e1, y1, od1, ev1, fse1, g1, b1, v1) ∧ frm (2 * k + 1) g b v g1 b1 v1 ∧ (∀ p, p ≠ k → fse1 p = fse p) ∧ LR k (va_up (va_up (va_up (va_up L.1 6 se1) 7 sz1) 8 st1) 10 sec1, va_up (va_up (va_up (va_up L.2 1 n1) 5 lo1) 6 hi1) 7 x1) fk fse1 g1 b1 v1 := by
  obtain ⟨e0, c | ⟨q, hq, eq, hS, hH, hs⟩⟩ := hL
  · rw [fX6_hear_i, ol_i hk, if_pos c, cl_eq, br_t1 rfl, fX7_hear, rk_open hk, e0, if_pos c, cl_eq, br_t1 rfl]
    exact ⟨_, _, _, _, _, z, e, y, od, ev, _, _, _, _, fse, g, b, v, rfl, rfl, frm.rf _ _ _ _, fun _ _ => rfl, e0, Or.inl c⟩
  · have hfk : fk k = nI q := e0.trans eq
    rw [fX6_hear_i, eq, ol_i hk, if_neg (ne_NONE q hq), cl_eq, br_f1 one, fX7_hear, rk_open hk, hfk, if_neg (ne_NONE q hq), cl_eq, br_f1 one]
    rcases has_both hk hq hfk a2 with ⟨s1, s2⟩ | ⟨c, hc, rfl, s1, s2⟩
    · rw [s1, cl_eq, br_t1 rfl, s2, cl_eq, br_t1 rfl]
      exact ⟨_, _, _, _, _, z, e, y, od, ev, _, _, _, _, fse, g, b, v, rfl, rfl, frm.rf _ _ _ _, fun _ _ => rfl, e0, Or.inr ⟨q, hq, eq, hS, hH, hs⟩⟩
    · obtain ⟨r, se1, sz1, st1, sec1, z1, e1, y1, od1, ev1, n1, lo1, hi1, x1, fse1, g1, b1, v1, m1, m2, m3, m4, m5, m6, m7⟩ := dec_b hT hW hP hfc hfr hfu hfh hfl hfw h56 h64 hk hq hfk hc hH (L.1 6) (L.1 7) (L.1 8) (L.1 10) z e y od ev fse
      rw [s1, cl_eq, br_f1 one, m1, cl_eq, nm_eq, nm_eq, nm_eq, nm_eq, nm_eq, nm_eq, nm_eq, nm_eq, nm_eq, s2, cl_eq, br_f1 one, m2, cl_eq, nm_eq, nm_eq, nm_eq, nm_eq, nm_eq, nm_eq, nm_eq, nm_eq, nm_eq, nm_eq]
      exact ⟨r, se1, sz1, st1, sec1, z1, e1, y1, od1, ev1, n1, lo1, hi1, x1, fse1, g1, b1, v1, rfl, rfl, m4, m6, e0, Or.inr ⟨q, hq, eq, hS.other (by omega) m4, m3, fun h6 => (m7 h6).1⟩⟩
theorem pack_L (hB : mt4 b2 b3 b4 b5 lB2 lB3 lB4 lB5) (hT : mt4 t2 t3 t4 t5 lT2 lT3 lT4 lT5) (hW : mt4 w2 w3 w4 w5 lW2 lW3 lW4 lW5) (hP : mt4 p2 p3 p4 p5 lP2 lP3 lP4 lP5) (hfc : mt fc lCo) (hfs : mt fs lSt) (hfr : mt fr lRoots) (hfu : mt fu lUps) (hfh : mt fh lHig) (hfl : mt fl lLw) (hfw : mt fw lHw) {k t o : Nat} (hk : k < 4) (ht : t ≤ 1000) (ho : o ≤ 1000) {L : lnT} {fk fse g b v tr tf r f : Nat → Int32} (hT0 : ag t tr tf) (hO : ag o r f) (hL : LR k L fk fse g b v) (first to z e y od ev : Int32) : ∃ (w : Int32) (t1 o1 : Nat) (se1 sz1 st1 z1 e1 y1 od1 ev1 : Int32) (n1 lo1 hi1 x1 g1 b1 v1 r1 f1 : Nat → Int32), t1 ≤ t ∧ o1 ≤ 1000 ∧ fX6_pack_i (nI k) first tr (L.1 0) (L.1 1) (nI t) (nI o) r (L.1 2) (L.1 3) (L.1 4) (L.2 0) (L.2 2) (L.2 3) (L.2 4) = some (w, nI t1, nI o1, r1, se1, sz1, st1, n1, lo1, hi1, x1) ∧ fX7_pack (nI k) first fk b2 b3 b4 b5 t2 t3 t4 t5 w2 w3 w4 w5 p2 p3 p4 p5 fc fs fr fu fh fl fw tf to z e y od ev (nI t) (nI o) g b v f = some (w, 0, z1, e1, y1, od1, ev1, nI t1, nI o1, g1, b1, v1, f1) ∧ frm (2 * k) g b v g1 b1 v1 ∧ ag o1 r1 f1 ∧ LR k (va_up (va_up (va_up L.1 2 se1) 3 sz1) 4 st1, va_up (va_up (va_up (va_up L.2 0 n1) 2 lo1) 3 hi1) 4 x1) fk fse g1 b1 v1 := by
  obtain ⟨e0, c | ⟨q, hq, eq, hS, hH, hs⟩⟩ := hL
  · rw [fX6_pack_i, ol_i hk, if_pos c, cl_eq, br_t1 rfl, fX7_pack, rk_open hk, e0, if_pos c, cl_eq, br_t1 rfl]
    exact ⟨_, t, o, _, _, _, z, e, y, od, ev, _, _, _, _, g, b, v, r, f, Nat.le_refl _, ho, rfl, rfl, frm.rf _ _ _ _, hO, e0, Or.inl c⟩
  · have hfk : fk k = nI q := e0.trans eq
    obtain ⟨w, t1, o1, se1, sz1, st1, z1, e1, y1, od1, ev1, n1, lo1, hi1, x1, g1, b1, v1, r1, f1, m1, m2, m3, m4, m5, m6, m7⟩ := pack_both hB hT hW hP hfc hfs hfr hfu hfh hfl hfw hk hq hfk ht ho hT0 hO hS first (L.1 2) (L.1 3) (L.1 4) to z e y od ev
    rw [eq]
    exact ⟨w, t1, o1, se1, sz1, st1, z1, e1, y1, od1, ev1, n1, lo1, hi1, x1, g1, b1, v1, r1, f1, m1, m2, m3, m4, m6, m7, e0, Or.inr ⟨q, hq, eq, m5, hH.other (by omega) m6, hs⟩⟩
theorem unpack_L (hT : mt4 t2 t3 t4 t5 lT2 lT3 lT4 lT5) (hW : mt4 w2 w3 w4 w5 lW2 lW3 lW4 lW5) (hP : mt4 p2 p3 p4 p5 lP2 lP3 lP4 lP5) (hfc : mt fc lCo) (hfr : mt fr lRoots) (hfu : mt fu lUps) (hfh : mt fh lHig) (hfl : mt fl lLw) (hfw : mt fw lHw) (h56 : mt f56 lH56) (h64 : mt f64 lH64) {k t o : Nat} (hk : k < 4) (ht : t ≤ 1000) (ho : o ≤ 1000) {L : lnT} {fk fse g b v tr tf r f : Nat → Int32} (hT0 : ag t tr tf) (hO : ag o r f) (hL : LR k L fk fse g b v) (first a to z e y od ev : Int32) : ∃ (w : Int32) (t1 o1 : Nat) (se1 sz1 st1 sec1 z1 e1 y1 od1 ev1 : Int32) (n1 lo1 hi1 x1 fse1 g1 b1 v1 r1 f1 : Nat → Int32), t1 ≤ t ∧ o1 ≤ 1000 ∧ fX6_unpack_i (nI k) first a tr (L.1 0) (L.1 5) (nI t) (nI o) r (L.1 6) (L.1 7) (L.1 8) (L.2 1) (L.1 10) (L.2 5) (L.2 6) (L.2 7) = some (w, nI t1, nI o1, r1, se1, sz1, st1, n1, sec1, lo1, hi1, x1) ∧ fX7_unpack (nI k) first a fk t2 t3 t4 t5 w2 w3 w4 w5 p2 p3 p4 p5 fc fr fu fh fl fw f56 f64 tf to z e y od ev (nI t) (nI o) fse g b v f = some (w, 0, z1, e1, y1, od1, ev1, nI t1, nI o1, fse1, g1, b1, v1, f1) ∧ frm (2 * k + 1) g b v g1 b1 v1 ∧ (∀ p, p ≠ k → fse1 p = fse p) ∧ ag o1 r1 f1 ∧ LR k (va_up (va_up (va_up (va_up L.1 6 se1) 7 sz1) 8 st1) 10 sec1, va_up (va_up (va_up (va_up L.2 1 n1) 5 lo1) 6 hi1) 7 x1) fk fse1 g1 b1 v1 := by
  obtain ⟨e0, c | ⟨q, hq, eq, hS, hH, hs⟩⟩ := hL
  · rw [fX6_unpack_i, ol_i hk, if_pos c, cl_eq, br_t1 rfl, fX7_unpack, rk_open hk, e0, if_pos c, cl_eq, br_t1 rfl]
    exact ⟨_, t, o, _, _, _, _, z, e, y, od, ev, _, _, _, _, fse, g, b, v, r, f, Nat.le_refl _, ho, rfl, rfl, frm.rf _ _ _ _, fun _ _ => rfl, hO, e0, Or.inl c⟩
  · have hfk : fk k = nI q := e0.trans eq
    obtain ⟨w, t1, o1, se1, sz1, st1, sec1, z1, e1, y1, od1, ev1, n1, lo1, hi1, x1, fse1, g1, b1, v1, r1, f1, m1, m2, m3, m4, m5, m6, m7, m8, m9⟩ := unp_both hT hW hP hfc hfr hfu hfh hfl hfw h56 h64 hk hq hfk ht ho hT0 hO hH first a (L.1 6) (L.1 7) (L.1 8) (L.1 10) to z e y od ev hs
    rw [eq]
    exact ⟨w, t1, o1, se1, sz1, st1, sec1, z1, e1, y1, od1, ev1, n1, lo1, hi1, x1, fse1, g1, b1, v1, r1, f1, m1, m2, m3, m4, m6, m7, m9, e0, Or.inr ⟨q, hq, eq, hS.other (by omega) m6, m5, m8⟩⟩
end LL
