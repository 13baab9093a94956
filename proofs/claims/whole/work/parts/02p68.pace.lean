section REM
variable {b k c : Nat} {g0 t2 t3 t4 t5 w2 w3 w4 w5 p2 p3 p4 p5 : Nat → Int32} {Z E Y : Int32}
/-- the end: PACE, AP -/
theorem pace_both (hP : mt4 p2 p3 p4 p5 lP2 lP3 lP4 lP5) (hk : 2 ≤ k ∧ k ≤ 5) (hc : c < 2 ^ k) (hb : b + 24 ≤ 192) (y sr tr td : Int32) (htr : tr = 0 ∨ tr = 1) (htd : td = 0 ∨ td = 1) {n g : Nat → Int32} (hR : vA 24 b n g g0) (h7 : -12288 ≤ (n 7).toInt ∧ (n 7).toInt ≤ 12288) (bb se sz : Int32) :
    sm (fun (u : Int32 × (Nat → Int32)) (w : Int32 × (Nat → Int32)) => u.1 = sr ∧ w.1 = tLim (sr * 4) ∧ vA 24 b u.2 w.2 g0 ∧ inv u.2) (fX0_settle_b193 bb se sz y (nI (tPl k c)) sr tr (5 : Int32) td n) (fX7_comes_b635 Z E Y t2 t3 t4 t5 w2 w3 w4 w5 p2 p3 p4 p5 (nI k) (nI c) (nI b) y sr tr (nI b + (5 : Int32)) td g) := by
  rw [fX0_settle_b193, fX7_comes_b635]
  refine sv_wr hR (j := 5) rfl (nI_add b 5) (by omega) (by omega) hb (by omega) rfl (fun n1 g1 e1 hR => ?_)
  have q7 : n1 7 = n 7 := by rw [e1, pk_un (by omega)]
  have q5 : n1 5 = td := by rw [e1, pk_us]
  refine sm_rdL (j := tPl k c) rfl (place_eq hk hc).2 (by omega) ?_
  refine sm_clR (pace_eq hP hk hc) ?_
  rw [fX0_adaptPace]
  generalize pq_t_PACE (tPl k c) = F
  -- the class's pace is a program of its own: its end is the end here
  have end4 : ∀ (n2 g2 : Nat → Int32) (v v' : Int32), vA 24 b n2 g2 g0 → n2 7 = n 7 → n2 5 = td → v = v' → sm (fun (u : Int32 × (Nat → Int32)) (w : Int32 × (Nat → Int32)) => u.1 = sr ∧ w.1 = tLim (sr * 4) ∧ vA 24 b u.2 w.2 g0 ∧ inv u.2) (pq_cl (pq_wr 24 n2 (4 : Int32) v fun (f56 : Nat → Int32) => some (f56)) fun (f52 : Nat → Int32) => some (sr, f52)) (pq_wr 192 g2 (nI b + (4 : Int32)) v' fun (f154 : Nat → Int32) => fX7_comes_b844 Z E Y t2 t3 t4 t5 w2 w3 w4 w5 p2 p3 p4 p5 sr f154) := by
    intro n2 g2 v v' hR2 z7 z5 hv
    subst hv
    rw [wr_in (j := 4) (nq_z 4) (by omega) (by omega), wr_in (j := b + 4) (ix_l b 4) (by omega) (by omega), cl_eq, fX7_comes_b844, eX7_limited, cl_eq]
    refine sm_ret ⟨rfl, rfl, hR2.up (j := 4) (by omega) v, ?_, ?_⟩
    · show upd n2 4 v 5 = 0 ∨ upd n2 4 v 5 = 1
      rw [pk_un (by omega), z5]; exact htd
    · show -12288 ≤ (upd n2 4 v 7).toInt ∧ (upd n2 4 v 7).toInt ≤ 12288
      rw [pk_un (by omega), z7]; exact h7
  rw [rd_in (j := 2) (nq_z 2) (by omega) (by omega), rd_in (j := 2) (nq_z 2) (by omega) (by omega), wr_in (j := 2) (nq_z 2) (by omega) (by omega)]
  rw [rd_in (j := b + 2) (ix_l b 2) (by omega) (by omega), rd_in (j := b + 2) (ix_l b 2) (by omega) (by omega), wr_in (j := b + 2) (ix_l b 2) (by omega) (by omega), hR.1 2 (by omega)]
  have hR2 := hR.up (j := 2) (by omega) (n1 2 + ((F - n1 2) >>> ((5 : Int32) &&& 31)))
  generalize e2 : upd n1 2 (n1 2 + ((F - n1 2) >>> ((5 : Int32) &&& 31))) = n2 at hR2 ⊢
  generalize upd g1 (b + 2) (n1 2 + ((F - n1 2) >>> ((5 : Int32) &&& 31))) = g2 at hR2 ⊢
  have z7 : n2 7 = n 7 := by rw [← e2, pk_un (by omega)]; exact q7
  have z5 : n2 5 = td := by rw [← e2, pk_un (by omega)]; exact q5
  rw [rd_in (j := 3) (nq_z 3) (by omega) (by omega), rd_in (j := 3) (nq_z 3) (by omega) (by omega), wr_in (j := 3) (nq_z 3) (by omega) (by omega)]
  rw [rd_in (j := b + 3) (ix_l b 3) (by omega) (by omega), rd_in (j := b + 3) (ix_l b 3) (by omega) (by omega), wr_in (j := b + 3) (ix_l b 3) (by omega) (by omega), hR2.1 3 (by omega)]
  have hR3 := hR2.up (j := 3) (by omega) (n2 3 + ((((4 : Int32) * F) - n2 3) >>> ((7 : Int32) &&& 31)))
  generalize e3 : upd n2 3 (n2 3 + ((((4 : Int32) * F) - n2 3) >>> ((7 : Int32) &&& 31))) = n3 at hR3 ⊢
  generalize upd g2 (b + 3) (n2 3 + ((((4 : Int32) * F) - n2 3) >>> ((7 : Int32) &&& 31))) = g3 at hR3 ⊢
  have y7 : n3 7 = n 7 := by rw [← e3, pk_un (by omega)]; exact z7
  have y5 : n3 5 = td := by rw [← e3, pk_un (by omega)]; exact z5
  rw [rd_in (j := 2) (nq_z 2) (by omega) (by omega), rd_in (j := 3) (nq_z 3) (by omega) (by omega), nq_abs, nm_eq]
  have fast : sm (fun (u : Int32 × (Nat → Int32)) (w : Int32 × (Nat → Int32)) => u.1 = sr ∧ w.1 = tLim (sr * 4) ∧ vA 24 b u.2 w.2 g0 ∧ inv u.2) (pq_cl (fX0_adaptPace_b108 y n3) fun (f52 : Nat → Int32) => some (sr, f52)) (fX7_comes_b830 Z E Y t2 t3 t4 t5 w2 w3 w4 w5 p2 p3 p4 p5 (nI b) sr (nI b + (4 : Int32)) (n3 4) (512 : Int32) g3) := by
    rw [fX0_adaptPace_b108, fX7_comes_b830, rd_in (j := 4) (nq_z 4) (by omega) (by omega), rd_in (j := 4) (nq_z 4) (by omega) (by omega), rd_in (j := b + 4) (ix_l b 4) (by omega) (by omega), hR3.1 4 (by omega)]
    exact end4 n3 g3 _ _ hR3 y7 y5 rfl
  rcases htr with rfl | rfl
  · rw [br_t1 rfl]
    have slow : ∀ s0 : Int32, fX7_comes_b778 Z E Y t2 t3 t4 t5 w2 w3 w4 w5 p2 p3 p4 p5 (nI b) sr (0 : Int32) s0 g3 = pq_br (s0 = (0 : Int32)) (fX7_comes_b830 Z E Y t2 t3 t4 t5 w2 w3 w4 w5 p2 p3 p4 p5 (nI b) sr (nI b + (4 : Int32)) (n3 4) (0 : Int32) g3) (fX7_comes_b830 Z E Y t2 t3 t4 t5 w2 w3 w4 w5 p2 p3 p4 p5 (nI b) sr (nI b + (4 : Int32)) (n3 4) (512 : Int32) g3) := by
      intro s0
      rw [fX7_comes_b778, br_f1 (by decide), rd_in (j := b + 4) (ix_l b 4) (by omega) (by omega), hR3.1 4 (by omega)]
    by_cases hy : y < (1536 : Int32)
    · rw [br_t1 hy, br_t1 hy, fX7_comes_b773, slow, br_f1 (by decide)]
      exact fast
    · rw [br_f1 hy, br_f1 hy, rd_in (j := 5) (nq_z 5) (by omega) (by omega), rd_in (j := b + 5) (ix_l b 5) (by omega) (by omega), hR3.1 5 (by omega)]
      by_cases h5 : n3 5 = (1 : Int32)
      · rw [br_t1 h5, br_t1 h5, fX7_comes_b773, slow, br_f1 (by decide)]
        exact fast
      · rw [br_f1 h5, br_f1 h5, rd_in (j := 3) (nq_z 3) (by omega) (by omega), rd_in (j := b + 2) (ix_l b 2) (by omega) (by omega), rd_in (j := b + 3) (ix_l b 3) (by omega) (by omega), hR3.1 2 (by omega), hR3.1 3 (by omega), eX7_amount, cl_eq, rd_in (j := b + 3) (ix_l b 3) (by omega) (by omega), hR3.1 3 (by omega)]
        by_cases ha : tAbs ((4 : Int32) * n3 2 - n3 3) < n3 3 >>> ((3 : Int32) &&& 31)
        · rw [br_t1 ha, br_t1 ha, slow, br_t1 rfl, fX7_comes_b830, rd_in (j := 4) (nq_z 4) (by omega) (by omega), rd_in (j := 4) (nq_z 4) (by omega) (by omega), rd_in (j := b + 4) (ix_l b 4) (by omega) (by omega), hR3.1 4 (by omega), nq_zsub]
          exact end4 n3 g3 _ _ hR3 y7 y5 rfl
        · rw [br_f1 ha, br_f1 ha, fX7_comes_b773, slow, br_f1 (by decide)]
          exact fast
  · rw [br_f1 (by decide)]
    have all : ∀ s0 : Int32, fX7_comes_b778 Z E Y t2 t3 t4 t5 w2 w3 w4 w5 p2 p3 p4 p5 (nI b) sr (1 : Int32) s0 g3 = (pq_wr 192 g3 (nI b + (4 : Int32)) (256 : Int32) fun (f146 : Nat → Int32) => fX7_comes_b844 Z E Y t2 t3 t4 t5 w2 w3 w4 w5 p2 p3 p4 p5 sr f146) := by
      intro s0
      rw [fX7_comes_b778, br_t1 rfl]
    have e0 : fX7_comes_b773 Z E Y t2 t3 t4 t5 w2 w3 w4 w5 p2 p3 p4 p5 (nI b) sr (1 : Int32) g3 = (pq_wr 192 g3 (nI b + (4 : Int32)) (256 : Int32) fun (f146 : Nat → Int32) => fX7_comes_b844 Z E Y t2 t3 t4 t5 w2 w3 w4 w5 p2 p3 p4 p5 sr f146) := by rw [fX7_comes_b773, all]
    rw [e0, all]
    by_cases hy : y < (1536 : Int32)
    · rw [br_t1 hy]
      exact end4 n3 g3 _ _ hR3 y7 y5 rfl
    · rw [br_f1 hy, rd_in (j := b + 5) (ix_l b 5) (by omega) (by omega)]
      refine sm_brR (fun _ => end4 n3 g3 _ _ hR3 y7 y5 rfl) (fun _ => ?_)
      rw [rd_in (j := b + 2) (ix_l b 2) (by omega) (by omega), rd_in (j := b + 3) (ix_l b 3) (by omega) (by omega), eX7_amount, cl_eq, rd_in (j := b + 3) (ix_l b 3) (by omega) (by omega)]
      exact sm_brR (fun _ => end4 n3 g3 _ _ hR3 y7 y5 rfl) (fun _ => end4 n3 g3 _ _ hR3 y7 y5 rfl)
end REM
