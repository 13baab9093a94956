/-! FOREHAND -/
def tStep (n : Nat → Int32) : Int32 := if n 4 < (256 : Int32) then (if n 1 - (n 0 >>> ((6 : Int32) &&& 31)) ≤ (0 : Int32) then (if (0 : Int32) ≤ n 1 - (n 0 >>> ((6 : Int32) &&& 31)) then n 0 >>> ((6 : Int32) &&& 31) else n 0 >>> ((6 : Int32) &&& 31) + ((((n 1 - (n 0 >>> ((6 : Int32) &&& 31))) * (n 4 >>> ((2 : Int32) &&& 31))) + (63 : Int32)) >>> ((6 : Int32) &&& 31))) else n 0 >>> ((6 : Int32) &&& 31) + (((n 1 - (n 0 >>> ((6 : Int32) &&& 31))) * (n 4 >>> ((2 : Int32) &&& 31))) >>> ((6 : Int32) &&& 31))) else n 1
theorem eX0_stepNow (n : Nat → Int32) : fX0_stepNow n = some (tStep n) := by
  unfold fX0_stepNow tStep
  rw [rd_in (j := 4) (nq_z 4) (by omega) (by omega)]
  by_cases h : n 4 < (256 : Int32)
  · rw [if_pos h]
    unfold pq_br
    rw [if_pos h, rd_in (j := 0) (nq_z 0) (by omega) (by omega)]
    simp only [pq_nm]
    rw [rd_in (j := 1) (nq_z 1) (by omega) (by omega)]
    rw [rd_in (j := 4) (nq_z 4) (by omega) (by omega)]
    by_cases h2 : n 1 - (n 0 >>> ((6 : Int32) &&& 31)) ≤ (0 : Int32)
    · rw [if_pos h2, if_pos h2]
      by_cases h3 : (0 : Int32) ≤ n 1 - (n 0 >>> ((6 : Int32) &&& 31))
      · rw [if_pos h3, if_pos h3]
      · rw [if_neg h3, if_neg h3]
    · rw [if_neg h2, if_neg h2]
  · rw [if_neg h]
    unfold pq_br
    rw [if_neg h, rd_in (j := 1) (nq_z 1) (by omega) (by omega)]
section FORE
variable {b : Nat} {n g g0 : Nat → Int32}
theorem fore_loop (hR : vA 24 b n g g0) (hb : b + 24 ≤ 192) (c1 c2 c3 d1 d2 d3 : Int32) : ∀ (fuel i : Nat) (x : Int32), i ≤ 6 → 7 ≤ fuel + i → sm (fun (u w : Int32 × Int32 × Int32) => u.1 = w.2.1 ∧ u.2.1 = w.1 ∧ u.2.2 = w.2.2 ∧ w.2.2 = tStep n) (fX0_foresee_b4 n fuel x (nI i) c1 c2 c3) (fX7_forehand_b10 g fuel (nI b) x (nI i) d1 d2 d3) := by
  intro fuel
  induction fuel with
  | zero => intro i x h1 h2; exact absurd h2 (by omega)
  | succ f ih =>
    intro i x h1 h2
    rw [fX0_foresee_b4, fX7_forehand_b10]
    refine sm_br (fun _ => ?_) (fun hc => ?_)
    · refine sm_cle (eX6_wrapped x) (eX7_wrapped x) ?_
      refine sm_nm (fun v4 => ?_)
      refine sv_rd hR (j := 7) rfl (nI_add b 7) (by decide) (by decide) hb (by decide) (fun v7 e7 => ?_)
      refine sv_rd hR (j := 15) rfl (nI_add b 15) (by decide) (by decide) hb (by decide) (fun v15 e15 => ?_)
      refine sm_cle (eX0_times _ _) (eX7_times _ _) ?_
      refine sv_rd hR (j := 6) rfl (nI_add b 6) (by decide) (by decide) hb (by decide) (fun v6 e6 => ?_)
      refine sv_rd hR (j := 14) rfl (nI_add b 14) (by decide) (by decide) hb (by decide) (fun v14 e14 => ?_)
      refine sm_cle (eX0_times _ _) (eX7_times _ _) ?_
      refine sm_nmL ?_
      refine sm_cle (eX6_wrapped _) (by rw [eX7_wrapped, Int32.add_assoc]) ?_
      refine sm_nm (fun v26 => ?_)
      refine sm_clL (eX0_stepNow n) ?_
      have hr := hR.1
      refine sm_rdR (j := b + 0) rfl (by omega) (by decide) ?_
      refine sm_nmR ?_
      refine sm_rdR (j := b + 1) (nI_add b 1) (by omega) (by decide) ?_
      refine sm_nmR ?_
      refine sm_rdR (j := b + 4) (nI_add b 4) (by omega) (by decide) ?_
      refine sm_nmR ?_
      refine sm_rdR (j := b + 4) (nI_add b 4) (by omega) (by decide) ?_
      rw [hr 0 (by decide), hr 1 (by decide), hr 4 (by decide)]
      refine sm_brR (fun q1 => ?_) (fun q1 => ?_)
      · refine sm_brR (fun q2 => ?_) (fun q2 => ?_)
        · refine sm_brR (fun q3 => ?_) (fun q3 => ?_)
          · exact sm_ret ⟨rfl, rfl, by simp only [tStep, if_pos q1, if_pos q2, if_pos q3], by simp only [tStep, if_pos q1, if_pos q2, if_pos q3]⟩
          · exact sm_ret ⟨rfl, rfl, by simp only [tStep, if_pos q1, if_pos q2, if_neg q3], by simp only [tStep, if_pos q1, if_pos q2, if_neg q3]⟩
        · exact sm_ret ⟨rfl, rfl, by simp only [tStep, if_pos q1, if_neg q2], by simp only [tStep, if_pos q1, if_neg q2]⟩
      · refine sm_rdR (j := b + 1) (nI_add b 1) (by omega) (by decide) ?_
        rw [hr 1 (by decide)]
        exact sm_ret ⟨rfl, rfl, by simp only [tStep, if_neg q1], by simp only [tStep, if_neg q1]⟩
    · have hi : i < 6 := by
        rw [nq_le, nI_toInt (by omega)] at hc
        have : (6 : Int32).toInt = 6 := rfl
        omega
      refine sv_rd hR (j := 8 + i) (nI_add 8 i) (by rw [show nI b + (8 : Int32) = nI (b + 8) from nI_add b 8, nI_add, Nat.add_assoc]) (by omega) (by decide) hb (by decide) (fun v8 e8 => ?_)
      refine sv_rd hR (j := 16 + i) (nI_add 16 i) (by rw [show nI b + (16 : Int32) = nI (b + 16) from nI_add b 16, nI_add, Nat.add_assoc]) (by omega) (by decide) hb (by decide) (fun v16 e16 => ?_)
      refine sm_cle (eX0_times _ _) (eX7_times _ _) ?_
      refine sm_nm (fun v38 => ?_)
      refine sm_nmL (sm_nmR ?_)
      rw [nI_1]
      exact ih (i + 1) v38 (by omega) (by omega)
theorem fore_both (hR : vA 24 b n g g0) (hb : b + 24 ≤ 192) (c1 c2 c3 d1 d2 d3 : Int32) {s : Int32} (hs : (24 : Int32) * s = nI b) : sm (fun (u w : Int32 × Int32 × Int32) => u.1 = w.2.1 ∧ u.2.1 = w.1 ∧ u.2.2 = w.2.2 ∧ w.2.2 = tStep n) (fX0_foresee n c1 c2 c3) (fX7_forehand s g d1 d2 d3) := by
  unfold fX0_foresee fX7_forehand
  refine sm_nmR ?_
  rw [hs]
  exact fore_loop hR hb c1 c2 c3 d1 d2 d3 1100 0 0 (by omega) (by omega)
end FORE
