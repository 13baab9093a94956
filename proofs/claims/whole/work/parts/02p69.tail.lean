theorem wrap_rng (v : Int32) : -32768 ≤ (tWrap v).toInt ∧ (tWrap v).toInt ≤ 32767 := by
  unfold tWrap
  rw [Int16.toInt_toInt32]
  exact ⟨Int16.le_toInt _, Int16.toInt_le _⟩
theorem abs_rng {v : Int32} (h : -32768 ≤ v.toInt ∧ v.toInt ≤ 32767) (h2 : ¬ v = (-32768 : Int32)) : ∃ j : Nat, j < 32768 ∧ tAbs v = nI j := by
  have h3 : v.toInt ≠ -32768 := fun q => h2 ((nq_eq _ _).mpr q)
  unfold tAbs
  by_cases h0 : (0 : Int32) ≤ v
  · rw [if_pos h0]
    rw [nq_le] at h0
    obtain ⟨j, q1, q2, q3⟩ := nq_of (x := v) h0
    exact ⟨j, by omega, q2⟩
  · rw [if_neg h0]
    rw [nq_le] at h0
    have z : (0 : Int32).toInt = 0 := rfl
    have e : (-v).toInt = -v.toInt := by rw [Int32.toInt_neg, Int.bmod_eq_of_le (by omega) (by omega)]
    obtain ⟨j, q1, q2, q3⟩ := nq_of (x := -v) (by omega)
    exact ⟨j, by omega, q2⟩
section REM
variable {b k c : Nat} {g0 t2 t3 t4 t5 w2 w3 w4 w5 p2 p3 p4 p5 : Nat → Int32} {Z E Y : Int32}
theorem shf_loop (hb : b + 24 ≤ 192) (kk cc y t bl sr tr p a : Int32) : ∀ (i f1 f2 : Nat) (n g : Nat → Int32), vA 24 b n g g0 → i ≤ 5 → i < f1 → i < f2 →
    ∃ n1 g1 e1 e2, (∀ a1 a2 a3 : Int32, fX0_remember_b3 f1 a1 a2 a3 (nI i) n = fX0_remember_b3 (e1 + 1) a1 a2 a3 (0 : Int32) n1) ∧ fX7_comes_b456 Z E Y t2 t3 t4 t5 w2 w3 w4 w5 p2 p3 p4 p5 f2 kk cc (nI b) y t bl sr tr p a (nI i) g = fX7_comes_b456 Z E Y t2 t3 t4 t5 w2 w3 w4 w5 p2 p3 p4 p5 (e2 + 1) kk cc (nI b) y t bl sr tr p a (0 : Int32) g1 ∧ vA 24 b n1 g1 g0 ∧ ∀ j, (j < 16 ∨ 22 ≤ j) → n1 j = n j := by
  intro i
  induction i with
  | zero =>
    intro f1 f2 n g hR h1 h2 h3
    exact ⟨n, g, f1 - 1, f2 - 1, fun _ _ _ => by rw [show f1 - 1 + 1 = f1 by omega]; rfl, by rw [show f2 - 1 + 1 = f2 by omega]; rfl, hR, fun _ _ => rfl⟩
  | succ i ih =>
    intro f1 f2 n g hR h1 h2 h3
    cases f1 with
    | zero => exact absurd h2 (by omega)
    | succ f1 =>
    cases f2 with
    | zero => exact absurd h3 (by omega)
    | succ f2 =>
      have x1 : ((16 : Int32) + nI (i + 1)) - (1 : Int32) = nI (16 + i) := by
        rw [show (16 : Int32) + nI (i + 1) = nI (16 + i + 1) from nI_add 16 (i + 1)]; exact nI_pred _
      have x2 : ((nI b + (16 : Int32)) + nI (i + 1)) - (1 : Int32) = nI (b + (16 + i)) := by
        rw [zer_ix b (i + 1) 16 16 rfl, show b + (16 + (i + 1)) = b + (16 + i) + 1 by omega]; exact nI_pred _
      obtain ⟨n1, g1, e1, e2, q1, q2, q3, q4⟩ := ih f1 f2 _ _ (hR.up (j := 16 + (i + 1)) (by omega) (n (16 + i))) (by omega) (by omega) (by omega)
      refine ⟨n1, g1, e1, e2, fun a1 a2 a3 => ?_, ?_, q3, fun j hj => by rw [q4 j hj, pk_un (by omega)]⟩
      · rw [fX0_remember_b3, br_f1 (nI_nle (by omega) (by omega)), rd_in (j := 16 + i) x1 (by omega) (by omega), wr_in (j := 16 + (i + 1)) (ix_r (i + 1) 16) (by omega) (by omega), nm_eq, pk_m1]
        exact q1 a1 a2 a3
      · rw [fX7_comes_b456, br_f1 (nI_nle (by omega) (by omega)), rd_in (j := b + (16 + i)) x2 (by omega) (by omega), wr_in (j := b + (16 + (i + 1))) (zer_ix b (i + 1) 16 16 rfl) (by omega) (by omega), nm_eq, pk_m1, hR.1 (16 + i) (by omega)]
        exact q2
theorem tail_both (hP : mt4 p2 p3 p4 p5 lP2 lP3 lP4 lP5) (hk : 2 ≤ k ∧ k ≤ 5) (hc : c < 2 ^ k) (hb : b + 24 ≤ 192) (y sr ds tr a bl : Int32) {tt : Nat} (htt : tt < 32768) (hsr : -32768 ≤ sr.toInt ∧ sr.toInt ≤ 32767) (htr : tr = 0 ∨ tr = 1) {n g : Nat → Int32} (hR : vA 24 b n g g0) (h7 : -12288 ≤ (n 7).toInt ∧ (n 7).toInt ≤ 12288) (ha : tr = 0 → n 7 = a) (bb se sz : Int32) :
    sm (fun (u : Int32 × (Nat → Int32)) (w : Int32 × (Nat → Int32)) => u.1 = sr ∧ w.1 = tLim (sr * 4) ∧ vA 24 b u.2 w.2 g0 ∧ inv u.2) (fX0_settle_b132 bb se sz y (nI (tPl k c)) bl (nI tt) sr ds tr n) (fX7_comes_b453 Z E Y t2 t3 t4 t5 w2 w3 w4 w5 p2 p3 p4 p5 (nI k) (nI c) (nI b) y (nI tt) bl sr tr (tSgn ds) a g) := by
  rw [fX0_settle_b132, fX7_comes_b453, nq_abs]
  obtain ⟨r1, f1, f2⟩ := flo_both htt bl
  rw [f1, cl_eq, nm_eq]
  obtain ⟨n1, g1, e1, e2, s1, s2, hR1, hj⟩ := shf_loop (t2 := t2) (t3 := t3) (t4 := t4) (t5 := t5) (w2 := w2) (w3 := w3) (w4 := w4) (w5 := w5) (p2 := p2) (p3 := p3) (p4 := p4) (p5 := p5) (Z := Z) (E := E) (Y := Y) hb (nI k) (nI c) y (nI tt) bl sr tr (tSgn ds) a 5 1100 1100 n g hR (by omega) (by omega) (by omega)
  rw [show (5 : Int32) = nI 5 from rfl, s2, fX7_comes_b456, br_t1 (show (0 : Int32) ≤ 0 by decide), f2, cl_eq, wr_in (j := b + 16) (ix_l b 16) (by omega) (by omega), rd_in (j := b + 14) (ix_l b 14) (by omega) (by omega), wr_in (j := b + 15) (ix_l b 15) (by omega) (by omega)]
  have hRa := hR1.up (j := 16) (by omega) r1
  rw [hRa.1 14 (by omega)]
  have hRb := hRa.up (j := 15) (by omega) (upd n1 16 r1 14)
  have rest : ∀ (v2 s3 r2 : Int32), fX0_floatOf v2 s3 = some r2 → sm (fun (u : Int32 × (Nat → Int32)) (w : Int32 × (Nat → Int32)) => u.1 = sr ∧ w.1 = tLim (sr * 4) ∧ vA 24 b u.2 w.2 g0 ∧ inv u.2) (fX0_settle_b154 bb se sz y (nI (tPl k c)) sr ds tr r1 v2 s3 n) (fX7_comes_b576 Z E Y t2 t3 t4 t5 w2 w3 w4 w5 p2 p3 p4 p5 (nI k) (nI c) (nI b) y sr tr (tSgn ds) a (nI b + (14 : Int32)) r2 (upd (upd g1 (b + 16) r1) (b + 15) (upd n1 16 r1 14))) := by
    intro v2 s3 r2 hfl
    have hRc := hRb.up (j := 14) (by omega) r2
    have hRd := hRc.up (j := 23) (by omega) (upd (upd (upd n1 16 r1) 15 (upd n1 16 r1 14)) 14 r2 22)
    have hRe := hRd.up (j := 22) (by omega) (tSgn ds)
    rw [fX0_settle_b154, hfl, cl_eq, eX6_sign, cl_eq, fX0_remember, show (5 : Int32) = nI 5 from rfl, s1, fX0_remember_b3, br_t1 (show (0 : Int32) ≤ 0 by decide), wr_in (j := 16) (nq_z 16) (by omega) (by omega), rd_in (j := 14) (nq_z 14) (by omega) (by omega), wr_in (j := 15) (nq_z 15) (by omega) (by omega), wr_in (j := 14) (nq_z 14) (by omega) (by omega), rd_in (j := 22) (nq_z 22) (by omega) (by omega), wr_in (j := 23) (nq_z 23) (by omega) (by omega), wr_in (j := 22) (nq_z 22) (by omega) (by omega), cl_eq]
    rw [fX7_comes_b576, wr_in (j := b + 14) (ix_l b 14) (by omega) (by omega), rd_in (j := b + 22) (ix_l b 22) (by omega) (by omega), hRc.1 22 (by omega), wr_in (j := b + 23) (ix_l b 23) (by omega) (by omega), wr_in (j := b + 22) (ix_l b 22) (by omega) (by omega)]
    have v7 : upd (upd (upd (upd (upd n1 16 r1) 15 (upd n1 16 r1 14)) 14 r2) 23 (upd (upd (upd n1 16 r1) 15 (upd n1 16 r1 14)) 14 r2 22)) 22 (tSgn ds) 7 = n 7 := by
      rw [pk_un (by omega), pk_un (by omega), pk_un (by omega), pk_un (by omega), pk_un (by omega), hj 7 (by omega)]
    generalize upd (upd (upd (upd (upd n1 16 r1) 15 (upd n1 16 r1 14)) 14 r2) 23 (upd (upd (upd n1 16 r1) 15 (upd n1 16 r1 14)) 14 r2 22)) 22 (tSgn ds) = nf at hRe v7 ⊢
    generalize upd (upd (upd (upd (upd g1 (b + 16) r1) (b + 15) (upd n1 16 r1 14)) (b + 14) r2) (b + 23) (upd (upd (upd n1 16 r1) 15 (upd n1 16 r1 14)) 14 r2 22)) (b + 22) (tSgn ds) = gf at hRe ⊢
    have h7f : -12288 ≤ (nf 7).toInt ∧ (nf 7).toInt ≤ 12288 := by rw [v7]; exact h7
    have fin : ∀ td : Int32, td = 0 ∨ td = 1 → sm (fun (u : Int32 × (Nat → Int32)) (w : Int32 × (Nat → Int32)) => u.1 = sr ∧ w.1 = tLim (sr * 4) ∧ vA 24 b u.2 w.2 g0 ∧ inv u.2) (fX0_settle_b193 bb se sz y (nI (tPl k c)) sr tr (5 : Int32) td nf) (fX7_comes_b635 Z E Y t2 t3 t4 t5 w2 w3 w4 w5 p2 p3 p4 p5 (nI k) (nI c) (nI b) y sr tr (nI b + (5 : Int32)) td gf) := fun td htd => pace_both hP hk hc hb y sr tr td htr htd hRe h7f bb se sz
    by_cases h0 : tr = (0 : Int32)
    · rw [br_t1 h0, br_t1 h0, rd_in (j := 7) (nq_z 7) (by omega) (by omega), v7, ha h0]
      by_cases h1 : (-11776 : Int32) ≤ a
      · rw [br_t1 h1, br_t1 h1, fX0_settle_b192, fX7_comes_b634]
        exact fin 0 (Or.inl rfl)
      · rw [br_f1 h1, br_f1 h1]
        exact fin 1 (Or.inr rfl)
    · rw [br_f1 h0, br_f1 h0, fX0_settle_b192, fX7_comes_b634]
      exact fin 0 (Or.inl rfl)
  by_cases hm : sr = (-32768 : Int32)
  · rw [br_t1 hm, br_f1 (show ¬ (0 : Int32) ≤ sr by rw [hm]; decide)]
    exact rest _ _ _ (by rw [hm]; decide)
  · obtain ⟨j, hj1, hj2⟩ := abs_rng hsr hm
    rw [br_f1 hm, eX7_amount, cl_eq, hj2]
    by_cases h0 : (0 : Int32) ≤ sr
    · obtain ⟨r2, d1, d2⟩ := flo_both hj1 0
      rw [br_t1 h0, br_t1 h0, fX7_comes_b573, d2, cl_eq]
      exact rest _ _ _ d1
    · obtain ⟨r2, d1, d2⟩ := flo_both hj1 1
      rw [br_f1 h0, br_f1 h0, fX7_comes_b573, d2, cl_eq]
      exact rest _ _ _ d1
/-- what comes of a code -/
theorem settle_core (hT : mt4 t2 t3 t4 t5 lT2 lT3 lT4 lT5) (hW : mt4 w2 w3 w4 w5 lW2 lW3 lW4 lW5) (hP : mt4 p2 p3 p4 p5 lP2 lP3 lP4 lP5) (hk : 2 ≤ k ∧ k ≤ 5) (hc : c < 2 ^ k) (hb : b + 24 ≤ 192) (bl s0 : Int32) {tt : Nat} (htt : tt < 32768) {n g : Nat → Int32} (hR : vA 24 b n g g0) (hi : inv n) :
    sm (fun (u : Int32 × (Nat → Int32)) (w : Int32 × (Nat → Int32)) => w.1 = tLim (u.1 * 4) ∧ vA 24 b u.2 w.2 g0 ∧ inv u.2) (fX0_settle_b62 (nI k) E Z Y (nI (tPl k c)) bl (nI tt) s0 n) (fX7_comes_b100 Z E Y t2 t3 t4 t5 w2 w3 w4 w5 p2 p3 p4 p5 (nI k) (nI c) (nI b) Y (nI tt) bl s0 g) := by
  rw [fX0_settle_b62, fX7_comes_b100, eX6_wrapped, eX7_wrapped, cl_eq, cl_eq, eX6_wrapped, eX7_wrapped, cl_eq, cl_eq, eX0_isTransition, cl_eq]
  have hsr := wrap_rng s0
  generalize tWrap s0 = sr at hsr ⊢
  generalize tWrap ((sr + Z) - E) = ds
  obtain ⟨hpl1, hpl2⟩ := place_eq hk hc
  rw [rd_in (j := tPl k c) rfl hpl2 (by omega), eX0_adaptStep, cl_eq]
  -- the model's transition is the class's
  have htr : (pq_rd 192 g (nI b + (5 : Int32)) fun (v15 : Int32) => pq_br (v15 = (1 : Int32)) (pq_rd 192 g (nI b) fun (v19 : Int32) => pq_nm (v19 >>> ((15 : Int32) &&& 31)) fun (v21 : Int32) => pq_br (v21 ≤ (9 : Int32)) (pq_rd 192 g (nI b) fun (v25 : Int32) => fX7_comes_b183 Z E Y t2 t3 t4 t5 w2 w3 w4 w5 p2 p3 p4 p5 (nI k) (nI c) (nI b) Y (nI tt) bl sr ds (((32 : Int32) + ((v25 >>> ((10 : Int32) &&& 31)) &&& (31 : Int32))) <<< (v21 &&& 31)) g) (fX7_comes_b183 Z E Y t2 t3 t4 t5 w2 w3 w4 w5 p2 p3 p4 p5 (nI k) (nI c) (nI b) Y (nI tt) bl sr ds (31744 : Int32) g)) (fX7_comes_b210 Z E Y t2 t3 t4 t5 w2 w3 w4 w5 p2 p3 p4 p5 (nI k) (nI c) (nI b) Y (nI tt) bl sr ds (0 : Int32) g)) = fX7_comes_b210 Z E Y t2 t3 t4 t5 w2 w3 w4 w5 p2 p3 p4 p5 (nI k) (nI c) (nI b) Y (nI tt) bl sr ds (tTr (nI tt) n) g := by
    rw [rd_in (j := b + 5) (ix_l b 5) (by omega) (by omega), hR.1 5 (by omega)]
    unfold tTr
    rcases hi.1 with h5 | h5
    · rw [br_f1 (by rw [h5]; decide), if_pos h5]
    · rw [br_t1 h5, if_neg (by rw [h5]; decide), rd_in (i := nI b) (j := b + 0) rfl (by omega) (by omega), hR.1 0 (by omega), nm_eq]
      unfold tH
      by_cases h9 : n 0 >>> ((15 : Int32) &&& 31) ≤ (9 : Int32)
      · rw [br_t1 h9, if_pos h9, rd_in (i := nI b) (j := b + 0) rfl (by omega) (by omega), hR.1 0 (by omega), fX7_comes_b183, nm_eq]
        split
        · rename_i q; rw [br_t1 q, fX7_comes_b208]
        · rename_i q; rw [br_f1 q, fX7_comes_b208]
      · rw [br_f1 h9, if_neg h9, fX7_comes_b183, nm_eq]
        split
        · rename_i q; rw [br_t1 q, fX7_comes_b208]
        · rename_i q; rw [br_f1 q, fX7_comes_b208]
  rw [htr]
  have h01 := tTr_01 (nI tt) n
  generalize tTr (nI tt) n = tr at h01
  rw [fX7_comes_b210, weight_eq hW hk hc, cl_eq, eX7_cut _ _ _ (by decide), cl_eq, wr_in (j := b + 1) (ix_l b 1) (by omega) (by omega)]
  generalize hcut : tCut (Y + ((pq_t_WEIGHT (tPl k c) - Y) >>> ((5 : Int32) &&& 31))) 544 5120 = cu
  have hR1 := hR.up (j := 1) (by omega) cu
  rw [rd_in (i := nI b) (j := b + 0) rfl (by omega) (by omega), rd_in (j := b + 1) (ix_l b 1) (by omega) (by omega), rd_in (i := nI b) (j := b + 0) rfl (by omega) (by omega), hR1.1 0 (by omega), hR1.1 1 (by omega), pk_us, pk_un (by omega : (0 : Nat) ≠ 1), wr_in (i := nI b) (j := b + 0) rfl (by omega) (by omega), Int32.add_assoc]
  have hR2 := hR1.up (j := 0) (by omega) (n 0 + (cu + ((-(n 0)) >>> ((6 : Int32) &&& 31))))
  have eAS : tAS (pq_t_WEIGHT (tPl k c)) Y n = upd (upd n 1 cu) 0 (n 0 + (cu + ((-(n 0)) >>> ((6 : Int32) &&& 31)))) := by unfold tAS; rw [hcut]
  rw [eAS, eX7_sign, cl_eq]
  have u5 : upd (upd n 1 cu) 0 (n 0 + (cu + ((-(n 0)) >>> ((6 : Int32) &&& 31)))) 5 = n 5 := by rw [pk_un (by omega), pk_un (by omega)]
  have u7 : upd (upd n 1 cu) 0 (n 0 + (cu + ((-(n 0)) >>> ((6 : Int32) &&& 31)))) 7 = n 7 := by rw [pk_un (by omega), pk_un (by omega)]
  generalize upd (upd n 1 cu) 0 (n 0 + (cu + ((-(n 0)) >>> ((6 : Int32) &&& 31)))) = m at hR2 u5 u7 ⊢
  generalize upd (upd g (b + 1) cu) (b + 0) (n 0 + (cu + ((-(n 0)) >>> ((6 : Int32) &&& 31)))) = q at hR2 ⊢
  have m7 : -12288 ≤ (m 7).toInt ∧ (m 7).toInt ≤ 12288 := by rw [u7]; exact hi.2
  have out : ∀ (x : Option (Int32 × (Nat → Int32))) (w : Option (Int32 × (Nat → Int32))), sm (fun (u : Int32 × (Nat → Int32)) (w : Int32 × (Nat → Int32)) => u.1 = sr ∧ w.1 = tLim (sr * 4) ∧ vA 24 b u.2 w.2 g0 ∧ inv u.2) x w → sm (fun (u : Int32 × (Nat → Int32)) (w : Int32 × (Nat → Int32)) => w.1 = tLim (u.1 * 4) ∧ vA 24 b u.2 w.2 g0 ∧ inv u.2) x w := fun x w h => sm_imp h (fun u v hh => ⟨by rw [hh.2.1, hh.1], hh.2.2.1, hh.2.2.2⟩)
  rcases h01 with rfl | rfl
  · rw [br_t1 rfl, br_f1 (by decide)]
    obtain ⟨n1, n2, g2, a, a1, a2, a3, a4, a5, a6, a7⟩ := adapts_both hR2 hb ds m7
    rw [a1, cl_eq, a2, cl_eq, a3, cl_eq, nm_eq, nm_eq]
    obtain ⟨n3, g3, z1, z2, z3, z4⟩ := zer_both (t2 := t2) (t3 := t3) (t4 := t4) (t5 := t5) (w2 := w2) (w3 := w3) (w4 := w4) (w5 := w5) (p2 := p2) (p3 := p3) (p4 := p4) (p5 := p5) (Z := Z) (E := E) (Y := Y) hk hb (nI c) Y (nI tt) bl sr 0 (tSgn ds) a a4
    rw [z1, cl_eq, z2]
    have e7 : n3 7 = a := (z4 7 (by omega)).trans a5
    exact out _ _ (tail_both hP hk hc hb Y sr ds 0 a bl htt hsr (Or.inl rfl) z3 (by rw [e7]; exact a6) (fun _ => e7) (nI k) E Z)
  · rw [br_f1 (by decide), br_t1 rfl]
    obtain ⟨n3, g3, z1, z2, z3, z4, z5⟩ := fgt_both (t2 := t2) (t3 := t3) (t4 := t4) (t5 := t5) (w2 := w2) (w3 := w3) (w4 := w4) (w5 := w5) (p2 := p2) (p3 := p3) (p4 := p4) (p5 := p5) (Z := Z) (E := E) (Y := Y) hb (nI c) Y (nI tt) bl sr 1 (tSgn ds) 0 (nI k) hR2
    rw [z1, cl_eq, z2]
    exact out _ _ (tail_both hP hk hc hb Y sr ds 1 0 bl htt hsr (Or.inr rfl) z3 (by rw [z4]; decide) (fun q => absurd q (by decide)) (nI k) E Z)
theorem settle_both (hT : mt4 t2 t3 t4 t5 lT2 lT3 lT4 lT5) (hW : mt4 w2 w3 w4 w5 lW2 lW3 lW4 lW5) (hP : mt4 p2 p3 p4 p5 lP2 lP3 lP4 lP5) (hk : 2 ≤ k ∧ k ≤ 5) (hc : c < 2 ^ k) (hb : b + 24 ≤ 192) {s : Int32} (hs : (24 : Int32) * s = nI b) {n g : Nat → Int32} (hR : vA 24 b n g g0) (hi : inv n) :
    sm (fun (u : Int32 × (Nat → Int32)) (w : Int32 × (Nat → Int32)) => w.1 = tLim (u.1 * 4) ∧ vA 24 b u.2 w.2 g0 ∧ inv u.2) (fX0_settle (nI c) (nI k) E Z Y n) (fX7_comes s (nI k) (nI c) Z E Y t2 t3 t4 t5 w2 w3 w4 w5 p2 p3 p4 p5 g) := by
  rw [fX0_settle, fX7_comes, nm_eq, hs, (place_eq hk hc).1, cl_eq, table_eq hT hk hc, cl_eq, nm_eq]
  generalize hq : pq_t_TABLE (tPl k c) + (Y >>> ((2 : Int32) &&& 31)) = q
  have e59 : pq_br ((0 : Int32) ≤ q) (fX7_comes_b59 Z E Y t2 t3 t4 t5 w2 w3 w4 w5 p2 p3 p4 p5 (nI k) (nI c) (nI b) Y ((((128 : Int32) + (q &&& (127 : Int32))) * (128 : Int32)) >>> (((14 : Int32) - ((q >>> ((7 : Int32) &&& 31)) &&& (15 : Int32))) &&& 31)) g) (fX7_comes_b59 Z E Y t2 t3 t4 t5 w2 w3 w4 w5 p2 p3 p4 p5 (nI k) (nI c) (nI b) Y (0 : Int32) g) = fX7_comes_b59 Z E Y t2 t3 t4 t5 w2 w3 w4 w5 p2 p3 p4 p5 (nI k) (nI c) (nI b) Y (tAm q) g := by
    unfold tAm
    by_cases h : (0 : Int32) ≤ q
    · rw [br_t1 h, if_pos h]
    · rw [br_f1 h, if_neg h]
  rw [e59]
  obtain ⟨tt, htt, et⟩ := tAm_rng q
  have cls : ∀ bl : Int32, fX0_settle_b23 (nI k) E Z Y (nI (tPl k c)) bl n = pq_br (bl = (0 : Int32)) (fX0_settle_b62 (nI k) E Z Y (nI (tPl k c)) bl (nI tt) (E + nI tt) n) (fX0_settle_b62 (nI k) E Z Y (nI (tPl k c)) bl (nI tt) (E - nI tt) n) := by
    intro bl
    rw [fX0_settle_b23, rd_in (j := tPl k c) rfl (place_eq hk hc).2 (by omega), hq, eX0_amount, cl_eq, et]
  rw [cls, cls, et, fX7_comes_b59]
  have bel := below_eq hk hc
  by_cases h1 : nI c < ((1 : Int32) <<< ((nI k - (1 : Int32)) &&& 31))
  · rw [br_t1 h1, br_f1 (bel.mp h1), fX7_comes_b75, br_t1 rfl, br_t1 rfl]
    exact settle_core hT hW hP hk hc hb _ _ htt hR hi
  · rw [br_f1 h1, br_t1 (Decidable.byContradiction fun z => h1 (bel.mpr z)), fX7_comes_b75, br_f1 (by decide), br_f1 (by decide)]
    exact settle_core hT hW hP hk hc hb _ _ htt hR hi
end REM
