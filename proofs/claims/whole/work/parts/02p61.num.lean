/-! numbers: bounds by toInt; helpers' total forms -/
theorem nq_le (a b : Int32) : a ≤ b ↔ a.toInt ≤ b.toInt := Int32.le_iff_toInt_le
theorem nq_lt (a b : Int32) : a < b ↔ a.toInt < b.toInt := Int32.lt_iff_toInt_lt
theorem nq_eq (a b : Int32) : a = b ↔ a.toInt = b.toInt := Int32.toInt_inj.symm
def tLim (v : Int32) : Int32 := if (-32768 : Int32) ≤ v then (if v ≤ (32767 : Int32) then v else 32767) else -32768
def tCut (v a b : Int32) : Int32 := if a ≤ v then (if v ≤ b then v else b) else a
def tSgn (v : Int32) : Int32 := if (0 : Int32) ≤ v then 0 else 1
def tAbs (v : Int32) : Int32 := if (0 : Int32) ≤ v then v else -v
def tWrap (v : Int32) : Int32 := v.toInt16.toInt32
theorem eX6_limited (v : Int32) : fX6_limited v = some (tLim v) := by
  unfold fX6_limited pq_br tLim
  repeat' split
  all_goals rfl
theorem eX7_limited (v : Int32) : fX7_limited v = some (tLim v) := by
  unfold fX7_limited pq_br tLim
  repeat' split
  all_goals first | rfl | (exfalso; simp only [nq_le, nq_lt, Int32.reduceToInt] at *; omega)
theorem eX6_cut (v a b : Int32) : fX6_cut v a b = some (tCut v a b) := by
  unfold fX6_cut pq_br tCut
  repeat' split
  all_goals rfl
theorem eX7_cut (v a b : Int32) (h : a ≤ b) : fX7_cut v a b = some (tCut v a b) := by
  unfold fX7_cut pq_br tCut
  repeat' split
  all_goals first | rfl | (exfalso; simp only [nq_le, nq_lt] at *; omega)
theorem eX6_sign (v : Int32) : fX6_sign v = some (tSgn v) := by
  unfold fX6_sign pq_br tSgn
  repeat' split
  all_goals rfl
theorem eX7_sign (v : Int32) : fX7_sign v = some (tSgn v) := by
  unfold fX7_sign pq_br tSgn
  repeat' split
  all_goals rfl
theorem eX7_amount (v : Int32) : fX7_amount v = some (tAbs v) := by
  unfold fX7_amount pq_br tAbs
  repeat' split
  all_goals rfl
theorem nq_zsub (v : Int32) : (0 : Int32) - v = -v := by simp
theorem nq_abs (v : Int32) : (if 0 ≤ v then v else 0 - v) = tAbs v := by
  unfold tAbs
  rw [nq_zsub]
theorem eX6_wrapped (v : Int32) : fX6_wrapped v = some (tWrap v) := rfl
theorem nq_wrap (v : Int32) : (v <<< ((16 : Int32) &&& 31)) >>> ((16 : Int32) &&& 31) = tWrap v := by
  unfold tWrap
  apply Int32.toBitVec_inj.mp
  have e1 : ((16 : Int32) &&& 31) = 16 := by decide
  rw [e1]
  simp only [Int32.toBitVec_shiftRight, Int32.toBitVec_shiftLeft, Int32.toBitVec_toInt16, Int16.toBitVec_toInt32]
  apply BitVec.eq_of_getLsbD_eq
  intro i hi
  have e2 : (BitVec.smod (16 : Int32).toBitVec 32) = 16#32 := by decide
  simp only [e2]
  simp only [BitVec.getLsbD_signExtend, BitVec.getLsbD_sshiftRight, BitVec.msb_shiftLeft, BitVec.getLsbD_shiftLeft, BitVec.sshiftRight', BitVec.shiftLeft_eq', show ((16#32 : BitVec 32)).toNat = 16 from rfl]
  by_cases h1 : i < 16
  · have h2 : 16 + i < 32 := by omega
    simp [h1, h2, hi, show ¬ 32 ≤ i from by omega, show ¬ 16 + i < 16 from by omega]
  · have h2 : ¬ 16 + i < 32 := by omega
    simp [h1, h2, hi, BitVec.msb_signExtend, BitVec.getMsbD]
theorem eX7_wrapped (v : Int32) : fX7_wrapped v = some (tWrap v) := by
  unfold fX7_wrapped
  rw [nq_wrap]
theorem eX7_isSample (v : Int32) : fX7_isSample v = fX6_isSample v := rfl
theorem nq_z (n : Nat) : (OfNat.ofNat n : Int32) = nI n := rfl
/-! SIZE -/
theorem eX7_size_b2 : ∀ (fuel : Nat) (a n : Int32), fX7_size_b2 fuel a n = fX0_size_b2 fuel a n := by
  intro fuel
  induction fuel with
  | zero => intro a n; rfl
  | succ f ih =>
    intro a n
    rw [fX7_size_b2, fX0_size_b2]
    simp only [ih]
theorem eX7_size (a : Int32) : fX7_size a = fX0_size a := eX7_size_b2 1100 a 0
theorem nq_pow : ∀ n, n < 15 → ((1 : Int32) <<< (nI n &&& 31)).toInt = 2 ^ n := by decide
theorem size_b2_some (a : Int32) : ∀ (fuel n : Nat), n ≤ 15 → 16 ≤ fuel + n → ∃ r : Nat, n ≤ r ∧ r ≤ 15 ∧ fX0_size_b2 fuel a (nI n) = some (nI r) ∧ (r = 15 ∨ a.toInt < 2 ^ r) ∧ (r = n ∨ (2 : Int) ^ (r - 1) ≤ a.toInt) := by
  intro fuel
  induction fuel with
  | zero => intro n h1 h2; exact absurd h2 (by omega)
  | succ f ih =>
    intro n h1 h2
    rw [fX0_size_b2]
    unfold pq_br pq_nm
    by_cases h : (15 : Int32) ≤ nI n
    · rw [if_pos h]
      have : n = 15 := by
        rw [nq_le, nI_toInt (by omega)] at h
        have : (15 : Int32).toInt = 15 := rfl
        omega
      exact ⟨n, Nat.le_refl n, h1, rfl, Or.inl this, Or.inl rfl⟩
    · rw [if_neg h]
      have hn : n < 15 := by
        rw [nq_le, nI_toInt (by omega)] at h
        have : (15 : Int32).toInt = 15 := rfl
        omega
      by_cases h3 : a < (1 : Int32) <<< (nI n &&& 31)
      · rw [if_pos h3]
        rw [nq_lt, nq_pow n hn] at h3
        exact ⟨n, Nat.le_refl n, h1, rfl, Or.inr h3, Or.inl rfl⟩
      · rw [if_neg h3]
        rw [nq_lt, nq_pow n hn] at h3
        obtain ⟨r, g1, g2, g3, g4, g5⟩ := ih (n + 1) (by omega) (by omega)
        refine ⟨r, by omega, g2, ?_, g4, ?_⟩
        · rw [nI_1]; exact g3
        · right
          rcases g5 with g5 | g5
          · rw [g5]; simpa using Int.not_lt.mp h3
          · exact g5
theorem size_some (a : Int32) : ∃ r : Nat, r ≤ 15 ∧ fX0_size a = some (nI r) ∧ (r = 15 ∨ a.toInt < 2 ^ r) ∧ (r = 0 ∨ (2 : Int) ^ (r - 1) ≤ a.toInt) := by
  obtain ⟨r, h1, h2, h3, h4, h5⟩ := size_b2_some a 1100 0 (by omega) (by omega)
  exact ⟨r, h2, h3, h4, h5⟩
