theorem nq_of {x : Int32} (h : 0 ≤ x.toInt) : ∃ j : Nat, j < 2 ^ 31 ∧ x = nI j ∧ x.toInt = j := by
  obtain ⟨j, h1, h2⟩ := nI_of (x := x) (by rw [nq_lt]; have : (0 : Int32).toInt = 0 := rfl; omega)
  exact ⟨j, h1, h2, by rw [h2]; exact nI_toInt h1⟩
theorem nq_shr {n : Nat} (h : n < 2 ^ 31) (s : Int32) : ∃ m : Nat, m ≤ n ∧ nI n >>> s = nI m := ⟨n / 2 ^ _, Nat.div_le_self _ _, pk_shrN h s _ rfl⟩
theorem nq_and15 {n : Nat} (h : n < 32768) : nI n &&& (32767 : Int32) = nI n := by
  rw [pk_andN (by omega) 15 (by decide), Nat.mod_eq_of_lt (by omega)]
theorem times_sg (a f r : Int32) : ∃ v : Int32, (pq_br ((0 : Int32) ≤ a) (fX0_times_b84 f r (0 : Int32)) (fX0_times_b84 f r (1 : Int32))) = some v ∧ fX7_times_b100 a f r = some v := by
  unfold fX7_times_b100 fX0_times_b84 fX7_times_b111 fX0_times_b93 fX7_times_b120 pq_br
  repeat' split
  all_goals first | exact ⟨_, rfl, rfl⟩ | (exfalso; simp_all; done)
theorem times_tail (a f w : Int32) {q : Nat} (hq : q < 64) : ∃ v : Int32, fX0_times_b32 a f w (nI q) = some v ∧ fX7_times_b46 a f w (nI q) = some v := by
  unfold fX0_times_b32 fX7_times_b46
  simp only [pq_nm]
  generalize ((w + ((f >>> ((6 : Int32) &&& 31)) &&& (15 : Int32))) - (13 : Int32)) = u
  obtain ⟨t, ht, ht2⟩ := pk_andE f (m := (63 : Int32)) 6 (by decide)
  have e1 : (((nI q * (f &&& (63 : Int32))) + (48 : Int32)) >>> ((4 : Int32) &&& 31)) = nI ((q * t + 48) / 2 ^ 4) := by
    rw [ht2, pk_mul, show nI (q * t) + (48 : Int32) = nI (q * t + 48) from nI_add _ 48]
    have : q * t ≤ 63 * 63 := Nat.mul_le_mul (by omega) (by omega)
    exact pk_shrN (by omega) _ _ (by decide)
  rw [e1]
  have hp : (q * t + 48) / 2 ^ 4 < 256 := by
    have : q * t ≤ 63 * 63 := Nat.mul_le_mul (by omega) (by omega)
    omega
  generalize (q * t + 48) / 2 ^ 4 = p at hp
  unfold fX0_shifted
  by_cases h : u < 0
  · have h' : ¬ (0 : Int32) ≤ u := by rw [nq_le]; rw [nq_lt] at h; have : (0 : Int32).toInt = 0 := rfl; omega
    obtain ⟨m, hm, em⟩ := nq_shr (n := p) (by omega) ((-u) &&& 31)
    obtain ⟨v, h1, h2⟩ := times_sg a f (nI m)
    refine ⟨v, ?_, ?_⟩
    · show pq_cl (pq_br _ _ _) _ = _
      rw [show pq_br ((0 : Int32) ≤ u) (some (nI p <<< (u &&& 31))) (some (nI p >>> ((-u) &&& 31))) = some (nI m) from by unfold pq_br; rw [if_neg h', em]]
      show pq_br _ (fX0_times_b84 f (nI m &&& 32767) 0) (fX0_times_b84 f (nI m &&& 32767) 1) = some v
      rw [nq_and15 (by omega)]
      exact h1
    · show pq_br _ _ _ = _
      rw [show ∀ x y : Option Int32, pq_br (u < (0 : Int32)) x y = x from fun x y => by unfold pq_br; rw [if_pos h], em]
      exact h2
  · have h' : (0 : Int32) ≤ u := by rw [nq_le]; rw [nq_lt] at h; have : (0 : Int32).toInt = 0 := rfl; omega
    obtain ⟨v, h1, h2⟩ := times_sg a f ((nI p <<< (u &&& 31)) &&& (32767 : Int32))
    refine ⟨v, ?_, ?_⟩
    · show pq_cl (pq_br _ _ _) _ = _
      rw [show pq_br ((0 : Int32) ≤ u) (some (nI p <<< (u &&& 31))) (some (nI p >>> ((-u) &&& 31))) = some (nI p <<< (u &&& 31)) from by unfold pq_br; rw [if_pos h']]
      exact h1
    · show pq_br _ _ _ = _
      rw [show ∀ x y : Option Int32, pq_br (u < (0 : Int32)) x y = y from fun x y => by unfold pq_br; rw [if_neg h]]
      exact h2
/-- the amount of a, modulo 8192 -/
theorem times_m (a : Int32) : ∃ j : Nat, j < 8192 ∧ tAbs a &&& (8191 : Int32) = nI j := pk_andE (tAbs a) (m := (8191 : Int32)) 13 (by decide)
set_option maxHeartbeats 1000000 in
theorem times_both (a f : Int32) : ∃ v : Int32, fX0_times a f = some v ∧ fX7_times a f = some v := by
  unfold fX0_times fX7_times
  rw [nq_abs, eX7_amount]
  simp only [pq_nm, pq_cl, Option.bind_some]
  obtain ⟨j, hj, ej⟩ := times_m a
  rw [ej, eX7_size]
  obtain ⟨r, hr, er, h1, h2⟩ := size_some (nI j)
  rw [er, Option.bind_some, Option.bind_some]
  rw [nI_toInt (by omega)] at h1 h2
  have hr14 : r ≤ 13 := by
    rcases h2 with h2 | h2
    · omega
    · apply Decidable.byContradiction
      intro h
      have h3 := Nat.pow_le_pow_right (n := 2) (by decide) (show 13 ≤ r - 1 by omega)
      have : (2 : Int) ^ 13 ≤ 2 ^ (r - 1) := by exact_mod_cast h3
      omega
  have h1 : j < 2 ^ r := by
    rcases h1 with h1 | h1
    · omega
    · exact_mod_cast h1
  by_cases hz : nI j = (0 : Int32)
  · simp only [pq_br, if_pos hz]
    exact times_tail a f _ (q := 32) (by omega)
  · simp only [pq_br, if_neg hz]
    unfold fX0_shifted pq_br
    have cases14 : r = 0 ∨ r = 1 ∨ r = 2 ∨ r = 3 ∨ r = 4 ∨ r = 5 ∨ r = 6 ∨ r = 7 ∨ r = 8 ∨ r = 9 ∨ r = 10 ∨ r = 11 ∨ r = 12 ∨ r = 13 := by omega
    rcases cases14 with rfl | rfl | rfl | rfl | rfl | rfl | rfl | rfl | rfl | rfl | rfl | rfl | rfl | rfl
    · exact absurd (by have : j = 0 := by omega
                       rw [this]; rfl) hz
    · rw [if_pos (by decide), if_pos (by decide), Option.bind_some, pk_shlN (n := j) ((-(nI 1 - 6)) &&& 31) 5 (by decide) (by omega)]
      exact times_tail a f _ (by omega)
    · rw [if_pos (by decide), if_pos (by decide), Option.bind_some, pk_shlN (n := j) ((-(nI 2 - 6)) &&& 31) 4 (by decide) (by omega)]
      exact times_tail a f _ (by omega)
    · rw [if_pos (by decide), if_pos (by decide), Option.bind_some, pk_shlN (n := j) ((-(nI 3 - 6)) &&& 31) 3 (by decide) (by omega)]
      exact times_tail a f _ (by omega)
    · rw [if_pos (by decide), if_pos (by decide), Option.bind_some, pk_shlN (n := j) ((-(nI 4 - 6)) &&& 31) 2 (by decide) (by omega)]
      exact times_tail a f _ (by omega)
    · rw [if_pos (by decide), if_pos (by decide), Option.bind_some, pk_shlN (n := j) ((-(nI 5 - 6)) &&& 31) 1 (by decide) (by omega)]
      exact times_tail a f _ (by omega)
    · rw [if_pos (by decide), if_neg (by decide), Option.bind_some, pk_shlN (n := j) ((-(nI 6 - 6)) &&& 31) 0 (by decide) (by omega), pk_shrN (n := j) (by omega) ((nI 6 - 6) &&& 31) 0 (by decide)]
      simp only [Nat.pow_zero, Nat.mul_one, Nat.div_one]
      exact times_tail a f _ (by omega)
    all_goals
      rw [if_neg (by decide), if_neg (by decide), Option.bind_some]
    · rw [pk_shrN (n := j) (by omega) ((-(-(nI 7 - 6))) &&& 31) 1 (by decide), pk_shrN (n := j) (by omega) ((nI 7 - 6) &&& 31) 1 (by decide)]
      exact times_tail a f _ (by omega)
    · rw [pk_shrN (n := j) (by omega) ((-(-(nI 8 - 6))) &&& 31) 2 (by decide), pk_shrN (n := j) (by omega) ((nI 8 - 6) &&& 31) 2 (by decide)]
      exact times_tail a f _ (by omega)
    · rw [pk_shrN (n := j) (by omega) ((-(-(nI 9 - 6))) &&& 31) 3 (by decide), pk_shrN (n := j) (by omega) ((nI 9 - 6) &&& 31) 3 (by decide)]
      exact times_tail a f _ (by omega)
    · rw [pk_shrN (n := j) (by omega) ((-(-(nI 10 - 6))) &&& 31) 4 (by decide), pk_shrN (n := j) (by omega) ((nI 10 - 6) &&& 31) 4 (by decide)]
      exact times_tail a f _ (by omega)
    · rw [pk_shrN (n := j) (by omega) ((-(-(nI 11 - 6))) &&& 31) 5 (by decide), pk_shrN (n := j) (by omega) ((nI 11 - 6) &&& 31) 5 (by decide)]
      exact times_tail a f _ (by omega)
    · rw [pk_shrN (n := j) (by omega) ((-(-(nI 12 - 6))) &&& 31) 6 (by decide), pk_shrN (n := j) (by omega) ((nI 12 - 6) &&& 31) 6 (by decide)]
      exact times_tail a f _ (by omega)
    · rw [pk_shrN (n := j) (by omega) ((-(-(nI 13 - 6))) &&& 31) 7 (by decide), pk_shrN (n := j) (by omega) ((nI 13 - 6) &&& 31) 7 (by decide)]
      exact times_tail a f _ (by omega)
/-- TIMES, as both have it -/
noncomputable def tTimes (a f : Int32) : Int32 := (times_both a f).choose
theorem eX0_times (a f : Int32) : fX0_times a f = some (tTimes a f) := (times_both a f).choose_spec.1
theorem eX7_times (a f : Int32) : fX7_times a f = some (tTimes a f) := (times_both a f).choose_spec.2
