section BAND2
variable {b : Nat} {g0 : Nat → Int32}
/-- from A2 on: poles, zeros, shift, the end -/
theorem bd_poles (hb : b + 23 ≤ 368) (d r p p1 x4 s0 like : Int32) (hl : (like = 0 ∧ ¬ tSgn p = tSgn p1) ∨ (like = 1 ∧ tSgn p = tSgn p1)) {n g : Nat → Int32} (hR : vA 23 b n g g0) (h15 : n 15 = p1) :
    ∃ n1 n2 n3 n4 g1, fX1_adaptPoles_b86 like x4 s0 n = some n1 ∧ fX1_adaptZeros d n1 = some n2 ∧ fX1_remember d r p n2 = some n3 ∧ fX1_settle_b71 1100 (0 : Int32) (0 : Int32) n3 = some n4 ∧ fX7_goesOn_b125 (nI b) d r p p1 x4 s0 g = some g1 ∧ vA 23 b n4 g1 g0 := by
  rw [fX1_adaptPoles_b86, fX7_goesOn_b125, rd_in (j := 6) (nq_z 6) (by omega) (by omega), rd_in (j := b + 6) (ix_l b 6) (by omega) (by omega), hR.1 6 (by omega), nm_eq, nm_eq, eX6_cut, cl_eq, eX7_cut _ _ _ (by decide), cl_eq, wr_in (j := 6) (nq_z 6) (by omega) (by omega), wr_in (j := b + 6) (ix_l b 6) (by omega) (by omega), eX7_sign, cl_eq, eX7_sign, cl_eq]
  have ha := cut_rng ((s0 + (x4 >>> ((7 : Int32) &&& 31))) + ((n 6 * (32512 : Int32)) >>> ((15 : Int32) &&& 31)))
  generalize tCut ((s0 + (x4 >>> ((7 : Int32) &&& 31))) + ((n 6 * (32512 : Int32)) >>> ((15 : Int32) &&& 31))) (-12288) 12288 = a at ha ⊢
  obtain ⟨l1, l2, l3⟩ := lims ha
  have hR1 := hR.up (j := 6) (by omega) a
  have v5 : upd n 6 a 5 = n 5 := pk_un (by omega)
  have v6 : upd n 6 a 6 = a := pk_us
  have key : ∀ w : Int32, ∃ n1 n2 n3 n4 g1, fX1_adaptPoles_b140 w (upd n 6 a) = some n1 ∧ fX1_adaptZeros d n1 = some n2 ∧ fX1_remember d r p n2 = some n3 ∧ fX1_settle_b71 1100 (0 : Int32) (0 : Int32) n3 = some n4 ∧ fX7_goesOn_b196 (nI b) d r p p1 w (upd g (b + 6) a) = some g1 ∧ vA 23 b n4 g1 g0 := by
    intro w
    rw [fX1_adaptPoles_b140, fX7_goesOn_b196, rd_in (j := 5) (nq_z 5) (by omega) (by omega), rd_in (j := b + 5) (ix_l b 5) (by omega) (by omega), hR1.1 5 (by omega), v5, eX6_limited, cl_eq, eX7_limited, cl_eq, rd_in (j := 6) (nq_z 6) (by omega) (by omega), rd_in (j := b + 6) (ix_l b 6) (by omega) (by omega), rd_in (j := b + 6) (ix_l b 6) (by omega) (by omega), hR1.1 6 (by omega), v6, nm_eq, eX6_cut, cl_eq, eX7_cut _ _ _ (by rw [nq_le]; omega), cl_eq, l3, wr_in (j := 5) (nq_z 5) (by omega) (by omega), wr_in (j := b + 5) (ix_l b 5) (by omega) (by omega)]
    generalize tCut (tLim (w + ((n 5 * (32640 : Int32)) >>> ((15 : Int32) &&& 31)))) (-((15360 : Int32) - a)) ((15360 : Int32) - a) = c5
    have hR2 := hR1.up (j := 5) (by omega) c5
    obtain ⟨n2, g2, z1, z2, z3, z4⟩ := bd_zeros hb d r p p1 6 1100 1100 _ _ hR2 (by omega) (by omega) (by omega)
    obtain ⟨n3, g3, e1, e2, s1, s2, s3, s4⟩ := bd_shift hb d r p p1 5 1100 1100 _ _ z3 (by omega) (by omega) (by omega)
    have q15 : n3 15 = p1 := by rw [s4 15 (by omega), z4 15 (by omega), pk_un (by omega), pk_un (by omega)]; exact h15
    obtain ⟨m1, m2, h1, k1, k2, k3, k4⟩ := bd_end hb d r p p1 s3 q15 e1 e2
    exact ⟨_, n2, m1, m2, h1, rfl, z1, s1.trans k1, k2, z2.trans (s2.trans k3), k4⟩
  rcases hl with ⟨rfl, h⟩ | ⟨rfl, h⟩
  · rw [br_t1 rfl, br_f1 h]; exact key (-192)
  · rw [br_f1 (by decide), br_t1 h]; exact key 192
theorem bd_goes (hb : b + 23 ≤ 368) (d : Int32) {n g : Nat → Int32} (hR : vA 23 b n g g0) :
    ∃ n1 n2 n3 n4 g1, fX1_adaptPoles (tLim (n 4 + d)) n = some n1 ∧ fX1_adaptZeros d n1 = some n2 ∧ fX1_remember d (tLim (n 2 + d)) (tLim (n 4 + d)) n2 = some n3 ∧ fX1_settle_b71 1100 (0 : Int32) (0 : Int32) n3 = some n4 ∧ fX7_goesOn (nI b) d g = some g1 ∧ vA 23 b n4 g1 g0 := by
  rw [fX7_goesOn, rd_in (j := b + 2) (ix_l b 2) (by omega) (by omega), hR.1 2 (by omega), eX7_limited, cl_eq, rd_in (j := b + 4) (ix_l b 4) (by omega) (by omega), hR.1 4 (by omega), eX7_limited, cl_eq, rd_in (j := b + 15) (ix_l b 15) (by omega) (by omega), rd_in (j := b + 16) (ix_l b 16) (by omega) (by omega), rd_in (j := b + 5) (ix_l b 5) (by omega) (by omega), hR.1 15 (by omega), hR.1 16 (by omega), hR.1 5 (by omega), eX7_limited, cl_eq, eX7_sign, cl_eq, eX7_sign, cl_eq]
  generalize tLim (n 2 + d) = r
  generalize tLim (n 4 + d) = p
  rw [fX1_adaptPoles, eX6_sign, cl_eq, rd_in (j := 15) (nq_z 15) (by omega) (by omega), eX6_sign, cl_eq]
  -- the second likeness, in both
  have two : ∀ (like x4 : Int32), ((like = 0 ∧ ¬ tSgn p = tSgn (n 15)) ∨ (like = 1 ∧ tSgn p = tSgn (n 15))) → ∀ l2 : Int32, ((l2 = 0 ∧ ¬ tSgn p = tSgn (n 16)) ∨ (l2 = 1 ∧ tSgn p = tSgn (n 16))) → ∃ n1 n2 n3 n4 g1, fX1_adaptPoles_b74 like l2 x4 n = some n1 ∧ fX1_adaptZeros d n1 = some n2 ∧ fX1_remember d r p n2 = some n3 ∧ fX1_settle_b71 1100 (0 : Int32) (0 : Int32) n3 = some n4 ∧ fX7_goesOn_b102 (nI b) d r p (n 15) (n 16) x4 g = some g1 ∧ vA 23 b n4 g1 g0 := by
    intro like x4 hl l2 hl2
    rw [fX1_adaptPoles_b74, fX7_goesOn_b102, eX7_sign, cl_eq, eX7_sign, cl_eq]
    rcases hl2 with ⟨rfl, h⟩ | ⟨rfl, h⟩
    · rw [br_t1 rfl, br_f1 h]; exact bd_poles hb d r p (n 15) x4 _ like hl hR rfl
    · rw [br_f1 (by decide), br_t1 h]; exact bd_poles hb d r p (n 15) x4 _ like hl hR rfl
  have one : ∀ like : Int32, ((like = 0 ∧ ¬ tSgn p = tSgn (n 15)) ∨ (like = 1 ∧ tSgn p = tSgn (n 15))) → ∀ g' : Option (Nat → Int32), (like = 0 → g' = fX7_goesOn_b89 (nI b) d r p (n 15) (n 16) (tLim ((4 : Int32) * n 5)) g) → (like = 1 → g' = fX7_goesOn_b89 (nI b) d r p (n 15) (n 16) (-(tLim ((4 : Int32) * n 5))) g) → ∃ n1 n2 n3 n4 g1, fX1_adaptPoles_b22 p like n = some n1 ∧ fX1_adaptZeros d n1 = some n2 ∧ fX1_remember d r p n2 = some n3 ∧ fX1_settle_b71 1100 (0 : Int32) (0 : Int32) n3 = some n4 ∧ g' = some g1 ∧ vA 23 b n4 g1 g0 := by
    intro like hl g' hg0 hg1
    have b45 : ∀ l2 : Int32, ((l2 = 0 ∧ ¬ tSgn p = tSgn (n 16)) ∨ (l2 = 1 ∧ tSgn p = tSgn (n 16))) → ∃ n1 n2 n3 n4 g1, fX1_adaptPoles_b45 like l2 n = some n1 ∧ fX1_adaptZeros d n1 = some n2 ∧ fX1_remember d r p n2 = some n3 ∧ fX1_settle_b71 1100 (0 : Int32) (0 : Int32) n3 = some n4 ∧ g' = some g1 ∧ vA 23 b n4 g1 g0 := by
      intro l2 hl2
      rw [fX1_adaptPoles_b45, rd_in (j := 5) (nq_z 5) (by omega) (by omega), eX6_limited, cl_eq]
      have hle := lim_le ((4 : Int32) * n 5)
      generalize tLim ((4 : Int32) * n 5) = q at hg0 hg1 hle ⊢
      by_cases h0 : like = (0 : Int32)
      · rw [br_t1 h0, hg0 h0, fX7_goesOn_b89, br_t1 hle]
        exact two like q hl l2 hl2
      · have h1 : like = 1 := by
          rcases hl with ⟨h, -⟩ | ⟨h, -⟩
          · exact absurd h h0
          · exact h
        rw [br_f1 h0, hg1 h1, fX7_goesOn_b89, nm_eq]
        by_cases h2 : (32767 : Int32) < -q
        · rw [if_pos h2, br_f1 (by rw [nq_le]; rw [nq_lt] at h2; omega)]
          exact two like _ hl l2 hl2
        · rw [if_neg h2, br_t1 (by rw [nq_le]; rw [nq_lt] at h2; omega)]
          exact two like _ hl l2 hl2
    rw [fX1_adaptPoles_b22, eX6_sign, cl_eq, rd_in (j := 16) (nq_z 16) (by omega) (by omega), eX6_sign, cl_eq]
    by_cases h : tSgn p = tSgn (n 16)
    · rw [br_t1 h]; exact b45 1 (Or.inr ⟨rfl, h⟩)
    · rw [br_f1 h]; exact b45 0 (Or.inl ⟨rfl, h⟩)
  by_cases h : tSgn p = tSgn (n 15)
  · rw [br_t1 h, br_t1 h, nm_eq]
    exact one 1 (Or.inr ⟨rfl, h⟩) _ (fun q => absurd q (by decide)) (fun _ => rfl)
  · rw [br_f1 h, br_f1 h]
    exact one 0 (Or.inl ⟨rfl, h⟩) _ (fun _ => rfl) (fun q => absurd q (by decide))
/-- the model's root, and the class's scale -/
def tDet (nb sh : Int32) : Int32 := (4 : Int32) * (if (0 : Int32) ≤ sh - (nb >>> ((11 : Int32) &&& 31)) then pq_t_ROOTS ((nb >>> ((6 : Int32) &&& 31)) &&& (31 : Int32)).toNatClampNeg >>> ((sh - (nb >>> ((11 : Int32) &&& 31))) &&& 31) else pq_t_ROOTS ((nb >>> ((6 : Int32) &&& 31)) &&& (31 : Int32)).toNatClampNeg <<< ((-(sh - (nb >>> ((11 : Int32) &&& 31)))) &&& 31))
abbrev lRoots : List Int32 := [2048, 2093, 2139, 2186, 2233, 2282, 2332, 2383, 2435, 2489, 2543, 2599, 2656, 2714, 2774, 2834, 2896, 2960, 3025, 3091, 3158, 3228, 3298, 3371, 3444, 3520, 3597, 3676, 3756, 3838, 3922, 4008]
theorem root_ix (nb : Int32) : ∃ j : Nat, j < 32 ∧ (nb >>> ((6 : Int32) &&& 31)) &&& (31 : Int32) = nI j ∧ ((nb >>> ((6 : Int32) &&& 31)) &&& (31 : Int32)).toNatClampNeg = j := by
  obtain ⟨j, h1, h2⟩ := pk_andE (nb >>> ((6 : Int32) &&& 31)) (m := (31 : Int32)) 5 (by decide)
  exact ⟨j, h1, h2, by rw [h2]; exact nI_clamp (by omega)⟩
theorem eX7_root {fr : Nat → Int32} (hf : mt fr lRoots) (nb sh : Int32) : fX7_root nb sh fr = some (tDet nb sh) := by
  obtain ⟨j, h1, h2, h3⟩ := root_ix nb
  unfold tDet
  rw [fX7_root, rd_in (j := j) h2 h1 (by omega), h3, nm_eq, hf j h1, (by decide : ∀ j, j < 32 → lRoots.getD j 0 = pq_t_ROOTS j) j h1]
  by_cases h : (0 : Int32) ≤ sh - (nb >>> ((11 : Int32) &&& 31))
  · rw [br_t1 h, if_pos h]
  · rw [br_f1 h, if_neg h]
theorem eX1_adaptScale (w mx sh : Int32) (n : Nat → Int32) : fX1_adaptScale w mx sh n = some (upd (upd n 0 (tCut ((((127 : Int32) * n 0) >>> ((7 : Int32) &&& 31)) + w) 0 mx)) 1 (tDet (tCut ((((127 : Int32) * n 0) >>> ((7 : Int32) &&& 31)) + w) 0 mx) sh)) := by
  rw [fX1_adaptScale, rd_in (j := 0) (nq_z 0) (by omega) (by omega), eX6_cut, cl_eq]
  generalize tCut ((((127 : Int32) * n 0) >>> ((7 : Int32) &&& 31)) + w) 0 mx = nb
  obtain ⟨j, h1, h2, h3⟩ := root_ix nb
  unfold tDet
  rw [rd_in (j := j) h2 h1 (by omega), h3, nm_eq, wr_in (j := 0) (nq_z 0) (by omega) (by omega)]
  by_cases h : (0 : Int32) ≤ sh - (nb >>> ((11 : Int32) &&& 31))
  · rw [br_t1 h, if_pos h, fX1_adaptScale_b77, wr_in (j := 1) (nq_z 1) (by omega) (by omega)]
  · rw [br_f1 h, if_neg h, fX1_adaptScale_b77, wr_in (j := 1) (nq_z 1) (by omega) (by omega)]
/-- a band settles: the class's method, and the model's goesOn behind the new scale -/
theorem bd_settle (hb : b + 23 ≤ 368) (f w mx sh : Int32) {n g : Nat → Int32} (hR : vA 23 b n g g0) :
    ∃ n4 g1, fX1_settle f w mx sh n = some n4 ∧ fX7_goesOn (nI b) ((n 1 * f) >>> ((15 : Int32) &&& 31)) (upd (upd g (b + 0) (tCut ((((127 : Int32) * n 0) >>> ((7 : Int32) &&& 31)) + w) 0 mx)) (b + 1) (tDet (tCut ((((127 : Int32) * n 0) >>> ((7 : Int32) &&& 31)) + w) 0 mx) sh)) = some g1 ∧ vA 23 b n4 g1 g0 := by
  rw [fX1_settle, fX1_difference, rd_in (j := 1) (nq_z 1) (by omega) (by omega), cl_eq, rd_in (j := 2) (nq_z 2) (by omega) (by omega), eX6_limited, cl_eq, rd_in (j := 4) (nq_z 4) (by omega) (by omega), eX6_limited, cl_eq, eX1_adaptScale, cl_eq]
  generalize tCut ((((127 : Int32) * n 0) >>> ((7 : Int32) &&& 31)) + w) 0 mx = nb
  generalize (n 1 * f) >>> ((15 : Int32) &&& 31) = d
  have hR1 := (hR.up (j := 0) (by omega) nb).up (j := 1) (by omega) (tDet nb sh)
  have v2 : upd (upd n 0 nb) 1 (tDet nb sh) 2 = n 2 := by rw [pk_un (by omega), pk_un (by omega)]
  have v4 : upd (upd n 0 nb) 1 (tDet nb sh) 4 = n 4 := by rw [pk_un (by omega), pk_un (by omega)]
  obtain ⟨n1, n2, n3, n4, g1, k1, k2, k3, k4, k5, k6⟩ := bd_goes hb d hR1
  rw [v2, v4] at k3
  rw [v4] at k1
  exact ⟨n4, g1, by rw [k1, cl_eq, k2, cl_eq, k3, cl_eq, k4], k5, k6⟩
end BAND2
