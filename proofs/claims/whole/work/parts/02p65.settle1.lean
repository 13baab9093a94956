/-! what comes of a code (G.726): amounts, transition, step, filters -/
def tAm (q : Int32) : Int32 := if (0 : Int32) ≤ q then (((128 : Int32) + (q &&& (127 : Int32))) * (128 : Int32)) >>> (((14 : Int32) - ((q >>> ((7 : Int32) &&& 31)) &&& (15 : Int32))) &&& 31) else 0
theorem eX0_amount (q : Int32) : fX0_amount q = some (tAm q) := by
  unfold fX0_amount pq_br tAm
  split <;> rfl
theorem tAm_rng (q : Int32) : ∃ j : Nat, j < 32768 ∧ tAm q = nI j := by
  unfold tAm
  split
  · obtain ⟨t, ht, et⟩ := pk_andE q (m := (127 : Int32)) 7 (by decide)
    rw [et, show (128 : Int32) + nI t = nI (128 + t) from nI_add 128 t, show nI (128 + t) * (128 : Int32) = nI ((128 + t) * 128) from pk_mul _ 128]
    obtain ⟨m, hm, em⟩ := nq_shr (n := (128 + t) * 128) (by omega) (((14 : Int32) - ((q >>> ((7 : Int32) &&& 31)) &&& (15 : Int32))) &&& 31)
    exact ⟨m, by omega, em⟩
  · exact ⟨0, by omega, rfl⟩
def tH (yl : Int32) : Int32 := ((if yl >>> ((15 : Int32) &&& 31) ≤ (9 : Int32) then ((32 : Int32) + ((yl >>> ((10 : Int32) &&& 31)) &&& (31 : Int32))) <<< ((yl >>> ((15 : Int32) &&& 31)) &&& 31) else 31744) + ((if yl >>> ((15 : Int32) &&& 31) ≤ (9 : Int32) then ((32 : Int32) + ((yl >>> ((10 : Int32) &&& 31)) &&& (31 : Int32))) <<< ((yl >>> ((15 : Int32) &&& 31)) &&& 31) else 31744) >>> ((1 : Int32) &&& 31))) >>> ((1 : Int32) &&& 31)
def tTr (t : Int32) (n : Nat → Int32) : Int32 := if n 5 = (0 : Int32) then 0 else if t ≤ tH (n 0) then 0 else 1
theorem tTr_01 (t : Int32) (n : Nat → Int32) : tTr t n = 0 ∨ tTr t n = 1 := by
  unfold tTr
  split
  · exact Or.inl rfl
  · split
    · exact Or.inl rfl
    · exact Or.inr rfl
theorem eX0_isTransition (t : Int32) (n : Nat → Int32) : fX0_isTransition t n = some (tTr t n) := by
  unfold fX0_isTransition tTr
  rw [rd_in (j := 5) (nq_z 5) (by omega) (by omega)]
  unfold pq_br
  by_cases h : n 5 = (0 : Int32)
  · rw [if_pos h, if_pos h]
  · rw [if_neg h, if_neg h, rd_in (j := 0) (nq_z 0) (by omega) (by omega)]
    simp only [pq_nm, fX0_isTransition_b50, pq_br]
    unfold tH
    by_cases h2 : n 0 >>> ((15 : Int32) &&& 31) ≤ (9 : Int32)
    · rw [if_pos h2, if_pos h2, rd_in (j := 0) (nq_z 0) (by omega) (by omega)]
      split <;> rfl
    · rw [if_neg h2, if_neg h2]
      split <;> rfl
def tAS (w y : Int32) (n : Nat → Int32) : Nat → Int32 := upd (upd n 1 (tCut (y + ((w - y) >>> ((5 : Int32) &&& 31))) 544 5120)) 0 (n 0 + (tCut (y + ((w - y) >>> ((5 : Int32) &&& 31))) 544 5120 + ((-(n 0)) >>> ((6 : Int32) &&& 31))))
theorem eX0_adaptStep (w y : Int32) (n : Nat → Int32) : fX0_adaptStep w y n = some (tAS w y n) := by
  unfold fX0_adaptStep
  rw [eX6_cut]
  simp only [pq_cl, Option.bind_some]
  rw [wr_in (j := 1) (nq_z 1) (by omega) (by omega), rd_in (j := 0) (nq_z 0) (by omega) (by omega), rd_in (j := 1) (nq_z 1) (by omega) (by omega), rd_in (j := 0) (nq_z 0) (by omega) (by omega), wr_in (j := 0) (nq_z 0) (by omega) (by omega)]
  rfl
def inv (n : Nat → Int32) : Prop := (n 5 = 0 ∨ n 5 = 1) ∧ -12288 ≤ (n 7).toInt ∧ (n 7).toInt ≤ 12288
theorem nudge_rng (a : Int32) {d : Int32} (hd : d = 128 ∨ d = -128) : ∃ v : Int32, fX0_nudgedA2 a d = some v ∧ -12288 ≤ v.toInt ∧ v.toInt ≤ 12288 := by
  unfold fX0_nudgedA2 pq_br
  have hb := a.toInt_le
  have hb2 := a.le_toInt
  rcases hd with rfl | rfl
  · by_cases h1 : ((-12288 : Int32) - 128) < a
    · rw [if_pos h1]
      by_cases h2 : a < ((12288 : Int32) - 128)
      · rw [if_pos h2]
        refine ⟨_, rfl, ?_⟩
        rw [nq_lt] at h1 h2
        have e1 : ((-12288 : Int32) - 128).toInt = -12416 := by decide
        have e2 : ((12288 : Int32) - 128).toInt = 12160 := by decide
        rw [Int32.toInt_add, show (128 : Int32).toInt = 128 from rfl, Int.bmod_eq_of_le (by omega) (by omega)]
        omega
      · rw [if_neg h2]
        exact ⟨_, rfl, by decide⟩
    · rw [if_neg h1]
      exact ⟨_, rfl, by decide⟩
  · by_cases h1 : ((-12288 : Int32) - (-128)) < a
    · rw [if_pos h1]
      by_cases h2 : a < ((12288 : Int32) - (-128))
      · rw [if_pos h2]
        refine ⟨_, rfl, ?_⟩
        rw [nq_lt] at h1 h2
        have e1 : ((-12288 : Int32) - (-128)).toInt = -12160 := by decide
        have e2 : ((12288 : Int32) - (-128)).toInt = 12416 := by decide
        rw [Int32.toInt_add, show (-128 : Int32).toInt = -128 from rfl, Int.bmod_eq_of_le (by omega) (by omega)]
        omega
      · rw [if_neg h2]
        exact ⟨_, rfl, by decide⟩
    · rw [if_neg h1]
      exact ⟨_, rfl, by decide⟩
theorem leak_rng {a : Int32} (h : -12288 ≤ a.toInt ∧ a.toInt ≤ 12288) : -12288 ≤ (a - (a >>> ((7 : Int32) &&& 31))).toInt ∧ (a - (a >>> ((7 : Int32) &&& 31))).toInt ≤ 12288 := by
  have e : (a >>> ((7 : Int32) &&& 31)).toInt = a.toInt >>> 7 := pk_shr a _ 7 (by decide)
  rw [Int32.toInt_sub, e, Int.shiftRight_eq_div_pow, Int.bmod_eq_of_le (by omega) (by omega)]
  omega
theorem lims {a : Int32} (h : -12288 ≤ a.toInt ∧ a.toInt ≤ 12288) : ((15360 : Int32) - a).toInt = 15360 - a.toInt ∧ (a - (15360 : Int32)).toInt = a.toInt - 15360 ∧ a - (15360 : Int32) = -((15360 : Int32) - a) := by
  refine ⟨?_, ?_, ?_⟩
  · rw [Int32.toInt_sub, show (15360 : Int32).toInt = 15360 from rfl, Int.bmod_eq_of_le (by omega) (by omega)]
  · rw [Int32.toInt_sub, show (15360 : Int32).toInt = 15360 from rfl, Int.bmod_eq_of_le (by omega) (by omega)]
  · rw [Int32.neg_sub]
