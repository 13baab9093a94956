/-! G.722: a band -/
theorem lim_rng (v : Int32) : -32768 ≤ (tLim v).toInt ∧ (tLim v).toInt ≤ 32767 := by
  unfold tLim
  by_cases h1 : (-32768 : Int32) ≤ v
  · rw [if_pos h1]
    by_cases h2 : v ≤ (32767 : Int32)
    · rw [if_pos h2]
      rw [nq_le] at h1 h2
      have e1 : (-32768 : Int32).toInt = -32768 := by decide
      have e2 : (32767 : Int32).toInt = 32767 := by decide
      omega
    · rw [if_neg h2]; decide
  · rw [if_neg h1]; decide
theorem lim_le (v : Int32) : tLim v ≤ (32767 : Int32) := by
  rw [nq_le]
  have := lim_rng v
  have e2 : (32767 : Int32).toInt = 32767 := by decide
  omega
theorem cut_rng (v : Int32) : -12288 ≤ (tCut v (-12288) 12288).toInt ∧ (tCut v (-12288) 12288).toInt ≤ 12288 := by
  unfold tCut
  by_cases h1 : (-12288 : Int32) ≤ v
  · rw [if_pos h1]
    by_cases h2 : v ≤ (12288 : Int32)
    · rw [if_pos h2]
      rw [nq_le] at h1 h2
      have e1 : (-12288 : Int32).toInt = -12288 := by decide
      have e2 : (12288 : Int32).toInt = 12288 := by decide
      omega
    · rw [if_neg h2]; decide
  · rw [if_neg h1]; decide
section BAND
variable {b : Nat} {g0 : Nat → Int32}
theorem eX1_product {n : Nat → Int32} {i j : Nat} {a c : Int32} (ha : a = nI i) (hc : c = nI j) (hi : i < 23) (hj : j < 23) : fX1_product a c n = some ((n i * tLim ((2 : Int32) * n j)) >>> ((15 : Int32) &&& 31)) := by
  rw [fX1_product, rd_in ha hi (by omega), rd_in hc hj (by omega), eX6_limited, cl_eq]
theorem bd_sum : ∀ (i f1 f2 : Nat) (x : Int32) (n g : Nat → Int32), (∀ j, (7 ≤ j ∧ j < 13) ∨ (17 ≤ j ∧ j < 23) → g (b + j) = n j) → b + 23 ≤ 368 → i ≤ 6 → i < f1 → i < f2 →
    ∃ z e1 e2, fX1_settle_b71 f1 x (nI (6 - i)) n = fX1_settle_b71 (e1 + 1) z (6 : Int32) n ∧ fX7_goesOn_b535 f2 (nI b) x (nI (6 - i)) g = fX7_goesOn_b535 (e2 + 1) (nI b) z (6 : Int32) g := by
  intro i
  induction i with
  | zero =>
    intro f1 f2 x n g hg hb h1 h2 h3
    exact ⟨x, f1 - 1, f2 - 1, by rw [show f1 - 1 + 1 = f1 by omega]; rfl, by rw [show f2 - 1 + 1 = f2 by omega]; rfl⟩
  | succ i ih =>
    intro f1 f2 x n g hg hb h1 h2 h3
    cases f1 with
    | zero => exact absurd h2 (by omega)
    | succ f1 =>
    cases f2 with
    | zero => exact absurd h3 (by omega)
    | succ f2 =>
      have hn := not6 (i := 6 - (i + 1)) (by omega)
      obtain ⟨z, e1, e2, q1, q2⟩ := ih f1 f2 (x + ((n (7 + (6 - (i + 1))) * tLim ((2 : Int32) * n (17 + (6 - (i + 1))))) >>> ((15 : Int32) &&& 31))) n g hg hb (by omega) (by omega) (by omega)
      have e6 : 6 - (i + 1) + 1 = 6 - i := by omega
      refine ⟨z, e1, e2, ?_, ?_⟩
      · rw [fX1_settle_b71, br_f1 hn, eX1_product (i := 7 + (6 - (i + 1))) (j := 17 + (6 - (i + 1))) (ix_r _ 7) (ix_r _ 17) (by omega) (by omega), cl_eq, nm_eq, nm_eq, nI_1, e6]
        exact q1
      · rw [fX7_goesOn_b535, br_f1 hn, rd_in (j := b + (7 + (6 - (i + 1)))) (zer_ix b _ 7 7 rfl) (by omega) (by omega), rd_in (j := b + (17 + (6 - (i + 1)))) (zer_ix b _ 17 17 rfl) (by omega) (by omega), hg (7 + (6 - (i + 1))) (Or.inl (by omega)), hg (17 + (6 - (i + 1))) (Or.inr (by omega)), eX7_limited, cl_eq, nm_eq, nm_eq, nI_1, e6]
        exact q2
/-- behind the shift: P and R, SP, SZ, S -/
theorem bd_end (hb : b + 23 ≤ 368) (d r p p1 : Int32) {n g : Nat → Int32} (hR : vA 23 b n g g0) (h15 : n 15 = p1) (e f : Nat) :
    ∃ n1 n2 g1, fX1_remember_b3 (e + 1) d r p (0 : Int32) n = some n1 ∧ fX1_settle_b71 1100 (0 : Int32) (0 : Int32) n1 = some n2 ∧ fX7_goesOn_b356 (f + 1) (nI b) d r p p1 (0 : Int32) g = some g1 ∧ vA 23 b n2 g1 g0 := by
  have hRa := hR.up (j := 17) (by omega) d
  have hRb := hRa.up (j := 14) (by omega) (upd n 17 d 13)
  have hRc := hRb.up (j := 13) (by omega) r
  have e15 : upd (upd (upd n 17 d) 14 (upd n 17 d 13)) 13 r 15 = p1 := by rw [pk_un (by omega), pk_un (by omega), pk_un (by omega)]; exact h15
  have hRd := hRc.up (j := 16) (by omega) p1
  have hRe := hRd.up (j := 15) (by omega) p
  have c1 : fX1_remember_b3 (e + 1) d r p (0 : Int32) n = some (upd (upd (upd (upd (upd n 17 d) 14 (upd n 17 d 13)) 13 r) 16 p1) 15 p) := by
    rw [fX1_remember_b3, br_t1 (show (0 : Int32) ≤ 0 by decide), wr_in (j := 17) (nq_z 17) (by omega) (by omega), rd_in (j := 13) (nq_z 13) (by omega) (by omega), wr_in (j := 14) (nq_z 14) (by omega) (by omega), wr_in (j := 13) (nq_z 13) (by omega) (by omega), rd_in (j := 15) (nq_z 15) (by omega) (by omega), e15, wr_in (j := 16) (nq_z 16) (by omega) (by omega), wr_in (j := 15) (nq_z 15) (by omega) (by omega)]
  rw [fX7_goesOn_b356, br_t1 (show (0 : Int32) ≤ 0 by decide), wr_in (j := b + 17) (ix_l b 17) (by omega) (by omega), rd_in (j := b + 13) (ix_l b 13) (by omega) (by omega), hRa.1 13 (by omega), wr_in (j := b + 14) (ix_l b 14) (by omega) (by omega), wr_in (j := b + 13) (ix_l b 13) (by omega) (by omega), wr_in (j := b + 16) (ix_l b 16) (by omega) (by omega), wr_in (j := b + 15) (ix_l b 15) (by omega) (by omega)]
  generalize upd (upd (upd (upd (upd n 17 d) 14 (upd n 17 d 13)) 13 r) 16 p1) 15 p = m at hRe c1
  generalize upd (upd (upd (upd (upd g (b + 17) d) (b + 14) (upd n 17 d 13)) (b + 13) r) (b + 16) p1) (b + 15) p = q at hRe ⊢
  rw [rd_in (j := b + 5) (ix_l b 5) (by omega) (by omega), rd_in (j := b + 13) (ix_l b 13) (by omega) (by omega), hRe.1 5 (by omega), hRe.1 13 (by omega), eX7_limited, cl_eq, nm_eq, rd_in (j := b + 6) (ix_l b 6) (by omega) (by omega), rd_in (j := b + 14) (ix_l b 14) (by omega) (by omega), hRe.1 6 (by omega), hRe.1 14 (by omega), eX7_limited, cl_eq, nm_eq, eX7_limited, cl_eq, wr_in (j := b + 3) (ix_l b 3) (by omega) (by omega)]
  generalize hsp : tLim (((m 5 * tLim ((2 : Int32) * m 13)) >>> ((15 : Int32) &&& 31)) + ((m 6 * tLim ((2 : Int32) * m 14)) >>> ((15 : Int32) &&& 31))) = sp
  have hR3 := hRe.up (j := 3) (by omega) sp
  obtain ⟨z, e1, e2, q1, q2⟩ := bd_sum (b := b) 6 1100 1100 0 m (upd q (b + 3) sp) (fun j hj => by rw [hR3.1 j (by omega), pk_un (by omega)]) hb (by omega) (by omega) (by omega)
  have hR4 := hR3.up (j := 4) (by omega) (tLim z)
  have hR5 := hR4.up (j := 2) (by omega) (tLim (sp + tLim z))
  have v3 : upd (upd m 3 sp) 4 (tLim z) 3 = sp := by rw [pk_un (by omega), pk_us]
  have v4 : upd (upd m 3 sp) 4 (tLim z) 4 = tLim z := pk_us
  refine ⟨m, upd (upd (upd m 3 sp) 4 (tLim z)) 2 (tLim (sp + tLim z)), upd (upd (upd q (b + 3) sp) (b + 4) (tLim z)) (b + 2) (tLim (sp + tLim z)), c1, ?_, ?_, hR5⟩
  · refine Eq.trans q1 ?_
    rw [fX1_settle_b71, br_t1 (show (6 : Int32) ≤ 6 by decide), eX1_product (i := 5) (j := 13) (nq_z 5) (nq_z 13) (by omega) (by omega), cl_eq, eX1_product (i := 6) (j := 14) (nq_z 6) (nq_z 14) (by omega) (by omega), cl_eq, eX6_limited, cl_eq, hsp, wr_in (j := 3) (nq_z 3) (by omega) (by omega), eX6_limited, cl_eq, wr_in (j := 4) (nq_z 4) (by omega) (by omega), rd_in (j := 3) (nq_z 3) (by omega) (by omega), rd_in (j := 4) (nq_z 4) (by omega) (by omega), v3, v4, eX6_limited, cl_eq, wr_in (j := 2) (nq_z 2) (by omega) (by omega)]
  · refine Eq.trans q2 ?_
    rw [fX7_goesOn_b535, br_t1 (show (6 : Int32) ≤ 6 by decide), eX7_limited, cl_eq, wr_in (j := b + 4) (ix_l b 4) (by omega) (by omega), rd_in (j := b + 3) (ix_l b 3) (by omega) (by omega), rd_in (j := b + 4) (ix_l b 4) (by omega) (by omega), hR4.1 3 (by omega), hR4.1 4 (by omega), v3, v4, eX7_limited, cl_eq, wr_in (j := b + 2) (ix_l b 2) (by omega) (by omega)]
theorem bd_shift (hb : b + 23 ≤ 368) (d r p p1 : Int32) : ∀ (i f1 f2 : Nat) (n g : Nat → Int32), vA 23 b n g g0 → i ≤ 5 → i < f1 → i < f2 →
    ∃ n1 g1 e1 e2, fX1_remember_b3 f1 d r p (nI i) n = fX1_remember_b3 (e1 + 1) d r p (0 : Int32) n1 ∧ fX7_goesOn_b356 f2 (nI b) d r p p1 (nI i) g = fX7_goesOn_b356 (e2 + 1) (nI b) d r p p1 (0 : Int32) g1 ∧ vA 23 b n1 g1 g0 ∧ ∀ j, (j < 17) → n1 j = n j := by
  intro i
  induction i with
  | zero =>
    intro f1 f2 n g hR h1 h2 h3
    exact ⟨n, g, f1 - 1, f2 - 1, by rw [show f1 - 1 + 1 = f1 by omega]; rfl, by rw [show f2 - 1 + 1 = f2 by omega]; rfl, hR, fun _ _ => rfl⟩
  | succ i ih =>
    intro f1 f2 n g hR h1 h2 h3
    cases f1 with
    | zero => exact absurd h2 (by omega)
    | succ f1 =>
    cases f2 with
    | zero => exact absurd h3 (by omega)
    | succ f2 =>
      have x1 : ((17 : Int32) + nI (i + 1)) - (1 : Int32) = nI (17 + i) := by
        rw [show (17 : Int32) + nI (i + 1) = nI (17 + i + 1) from nI_add 17 (i + 1)]; exact nI_pred _
      have x2 : ((nI b + (17 : Int32)) + nI (i + 1)) - (1 : Int32) = nI (b + (17 + i)) := by
        rw [zer_ix b (i + 1) 17 17 rfl, show b + (17 + (i + 1)) = b + (17 + i) + 1 by omega]; exact nI_pred _
      obtain ⟨n1, g1, e1, e2, q1, q2, q3, q4⟩ := ih f1 f2 _ _ (hR.up (j := 17 + (i + 1)) (by omega) (n (17 + i))) (by omega) (by omega) (by omega)
      refine ⟨n1, g1, e1, e2, ?_, ?_, q3, fun j hj => by rw [q4 j hj, pk_un (by omega)]⟩
      · rw [fX1_remember_b3, br_f1 (nI_nle (by omega) (by omega)), rd_in (j := 17 + i) x1 (by omega) (by omega), wr_in (j := 17 + (i + 1)) (ix_r (i + 1) 17) (by omega) (by omega), nm_eq, pk_m1]
        exact q1
      · rw [fX7_goesOn_b356, br_f1 (nI_nle (by omega) (by omega)), rd_in (j := b + (17 + i)) x2 (by omega) (by omega), wr_in (j := b + (17 + (i + 1))) (zer_ix b (i + 1) 17 17 rfl) (by omega) (by omega), nm_eq, pk_m1, hR.1 (17 + i) (by omega)]
        exact q2
theorem bd_zeros (hb : b + 23 ≤ 368) (d r p p1 : Int32) : ∀ (i f1 f2 : Nat) (n g : Nat → Int32), vA 23 b n g g0 → i ≤ 6 → i < f1 → i < f2 →
    ∃ n1 g1, fX1_adaptZeros_b2 f1 d (nI (6 - i)) n = some n1 ∧ fX7_goesOn_b260 f2 (nI b) d r p p1 (nI (6 - i)) g = fX7_goesOn_b356 1100 (nI b) d r p p1 (5 : Int32) g1 ∧ vA 23 b n1 g1 g0 ∧ ∀ j, (j < 7 ∨ 13 ≤ j) → n1 j = n j := by
  intro i
  induction i with
  | zero =>
    intro f1 f2 n g hR h1 h2 h3
    cases f1 with
    | zero => exact absurd h2 (by omega)
    | succ f1 =>
    cases f2 with
    | zero => exact absurd h3 (by omega)
    | succ f2 =>
      refine ⟨n, g, ?_, ?_, hR, fun _ _ => rfl⟩
      · rw [fX1_adaptZeros_b2]; exact br_t1 (by decide) _ _
      · rw [fX7_goesOn_b260]; exact br_t1 (by decide) _ _
  | succ i ih =>
    intro f1 f2 n g hR h1 h2 h3
    cases f1 with
    | zero => exact absurd h2 (by omega)
    | succ f1 =>
    cases f2 with
    | zero => exact absurd h3 (by omega)
    | succ f2 =>
      have hn := not6 (i := 6 - (i + 1)) (by omega)
      have e6 : 6 - (i + 1) + 1 = 6 - i := by omega
      have turn : ∀ x : Int32, ∃ n1 g1, fX1_adaptZeros_b42 (fX1_adaptZeros_b2 f1) d (nI (6 - (i + 1))) x n = some n1 ∧ fX7_goesOn_b307 (fX7_goesOn_b260 f2) (nI b) d r p p1 (nI (6 - (i + 1))) x g = fX7_goesOn_b356 1100 (nI b) d r p p1 (5 : Int32) g1 ∧ vA 23 b n1 g1 g0 ∧ ∀ j, (j < 7 ∨ 13 ≤ j) → n1 j = n j := by
        intro x
        obtain ⟨n1, g1, q1, q2, q3, q4⟩ := ih f1 f2 _ _ (hR.up (j := 7 + (6 - (i + 1))) (by omega) (tLim (x + ((n (7 + (6 - (i + 1))) * (32640 : Int32)) >>> ((15 : Int32) &&& 31))))) (by omega) (by omega) (by omega)
        refine ⟨n1, g1, ?_, ?_, q3, fun j hj => by rw [q4 j hj, pk_un (by omega)]⟩
        · rw [fX1_adaptZeros_b42, rd_in (j := 7 + (6 - (i + 1))) (ix_r _ 7) (by omega) (by omega), eX6_limited, cl_eq, wr_in (j := 7 + (6 - (i + 1))) (ix_r _ 7) (by omega) (by omega), nm_eq, nI_1, e6]
          exact q1
        · rw [fX7_goesOn_b307, rd_in (j := b + (7 + (6 - (i + 1)))) (zer_ix b _ 7 7 rfl) (by omega) (by omega), hR.1 _ (by omega), eX7_limited, cl_eq, wr_in (j := b + (7 + (6 - (i + 1)))) (zer_ix b _ 7 7 rfl) (by omega) (by omega), nm_eq, nI_1, e6]
          exact q2
      rw [fX1_adaptZeros_b2, fX7_goesOn_b260, br_f1 hn, br_f1 hn, eX6_sign, cl_eq, rd_in (j := 17 + (6 - (i + 1))) (ix_r _ 17) (by omega) (by omega), eX6_sign, cl_eq]
      by_cases hd : d = (0 : Int32)
      · rw [br_t1 hd]
        have e0 : ∀ s0 : Int32, fX1_adaptZeros_b35 (fX1_adaptZeros_b2 f1) d (nI (6 - (i + 1))) s0 n = fX1_adaptZeros_b42 (fX1_adaptZeros_b2 f1) d (nI (6 - (i + 1))) (0 : Int32) n := by
          intro s0
          rw [fX1_adaptZeros_b35, br_t1 hd]
        rw [e0, e0]
        by_cases hs : tSgn d = tSgn (n (17 + (6 - (i + 1))))
        · rw [br_t1 hs]; exact turn 0
        · rw [br_f1 hs]; exact turn 0
      · have e0 : ∀ s0 : Int32, fX1_adaptZeros_b35 (fX1_adaptZeros_b2 f1) d (nI (6 - (i + 1))) s0 n = fX1_adaptZeros_b42 (fX1_adaptZeros_b2 f1) d (nI (6 - (i + 1))) s0 n := by
          intro s0
          rw [fX1_adaptZeros_b35, br_f1 hd]
        rw [br_f1 hd, e0, e0, eX7_sign, cl_eq, rd_in (j := b + (17 + (6 - (i + 1)))) (zer_ix b _ 17 17 rfl) (by omega) (by omega), hR.1 _ (by omega), eX7_sign, cl_eq]
        by_cases hs : tSgn d = tSgn (n (17 + (6 - (i + 1))))
        · rw [br_t1 hs, br_t1 hs]; exact turn 128
        · rw [br_f1 hs, br_f1 hs]; exact turn (-128)
end BAND
