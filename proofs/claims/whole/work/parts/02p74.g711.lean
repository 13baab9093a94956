/-! G.711 -/
theorem shl64 : ∀ n, n ≤ 7 → (64 : Int32) <<< (nI n &&& 31) = nI (64 * 2 ^ n) := by decide
theorem shl32 : ∀ n, n ≤ 7 → (32 : Int32) <<< (nI n &&& 31) = nI (32 * 2 ^ n) := by decide
theorem mu_seg {q : Nat} (hq : q ≤ 8191) (sg : Int32) : ∀ (k f1 f2 : Nat), k ≤ 7 → k < f1 → k < f2 → ∃ r : Nat, 7 - k ≤ r ∧ r ≤ 7 ∧ q < 64 * 2 ^ r ∧ (r = 7 - k ∨ 32 * 2 ^ r ≤ q) ∧ fX3_segment_b2 f1 (nI q) (64 : Int32) (nI (7 - k)) = some (nI r) ∧ fX7_muSays_b35 f2 (nI q) sg (nI (7 - k)) = pq_br (sg = (1 : Int32)) (fX7_muSays_b66 (nI q) (nI r) (127 : Int32)) (fX7_muSays_b66 (nI q) (nI r) (255 : Int32)) := by
  intro k
  induction k with
  | zero =>
    intro f1 f2 h1 h2 h3
    obtain ⟨f1, rfl⟩ : ∃ z, f1 = z + 1 := ⟨f1 - 1, by omega⟩
    obtain ⟨f2, rfl⟩ : ∃ z, f2 = z + 1 := ⟨f2 - 1, by omega⟩
    refine ⟨7, by omega, by omega, by omega, Or.inl rfl, ?_, ?_⟩
    · rw [fX3_segment_b2]; exact br_t1 (by decide) _ _
    · rw [fX7_muSays_b35, show nI (7 - 0) = nI 7 from rfl, shl64 7 (by omega)]
      exact br_t1 (nI_lt (by omega) (by omega)) _ _
  | succ k ih =>
    intro f1 f2 h1 h2 h3
    obtain ⟨f1, rfl⟩ : ∃ z, f1 = z + 1 := ⟨f1 - 1, by omega⟩
    obtain ⟨f2, rfl⟩ : ∃ z, f2 = z + 1 := ⟨f2 - 1, by omega⟩
    obtain ⟨r, r1, r2, r3, r4, r5, r6⟩ := ih f1 f2 (by omega) (by omega) (by omega)
    generalize hn : 7 - (k + 1) = n at *
    rw [show 7 - k = n + 1 by omega] at r1 r4 r5 r6
    have hn7 : n < 7 := by omega
    have hb : 64 * 2 ^ n ≤ 64 * 2 ^ 7 := Nat.mul_le_mul_left _ (Nat.pow_le_pow_right (by omega) (by omega))
    rw [fX3_segment_b2, fX7_muSays_b35, br_f1 (show ¬ (7 : Int32) ≤ nI n from not_le_nI (m := 7) rfl hn7 (by omega)), shl64 n (by omega)]
    by_cases hc : q < 64 * 2 ^ n
    · have hc' : nI q < nI (64 * 2 ^ n) := nI_lt hc (by omega)
      rw [br_t1 hc', br_t1 hc']
      exact ⟨n, Nat.le_refl n, by omega, hc, Or.inl rfl, rfl, rfl⟩
    · have hc' : ¬ nI q < nI (64 * 2 ^ n) := nI_nlt (by omega) (by omega)
      rw [br_f1 hc', br_f1 hc', nm_eq, nm_eq, nI_1]
      refine ⟨r, by omega, r2, r3, Or.inr ?_, r5, r6⟩
      rcases r4 with r4 | r4
      · rw [r4, Nat.pow_succ]; omega
      · exact r4
theorem a_seg {q : Nat} (hq : q ≤ 4095) (x : Int32) : ∀ (k f1 f2 : Nat), k ≤ 7 → k < f1 → k < f2 → ∃ r : Nat, 7 - k ≤ r ∧ r ≤ 7 ∧ q < 32 * 2 ^ r ∧ (r = 7 - k ∨ 16 * 2 ^ r ≤ q) ∧ fX3_segment_b2 f1 (nI q) (32 : Int32) (nI (7 - k)) = some (nI r) ∧ fX7_aSays_b15 f2 x (nI q) (nI (7 - k)) = pq_br ((2 : Int32) ≤ nI r) (fX7_aSays_b44 x (nI r) (nI q >>> (nI r &&& 31))) (fX7_aSays_b44 x (nI r) (nI q >>> ((1 : Int32) &&& 31))) := by
  intro k
  induction k with
  | zero =>
    intro f1 f2 h1 h2 h3
    obtain ⟨f1, rfl⟩ : ∃ z, f1 = z + 1 := ⟨f1 - 1, by omega⟩
    obtain ⟨f2, rfl⟩ : ∃ z, f2 = z + 1 := ⟨f2 - 1, by omega⟩
    refine ⟨7, by omega, by omega, by omega, Or.inl rfl, ?_, ?_⟩
    · rw [fX3_segment_b2]; exact br_t1 (by decide) _ _
    · rw [fX7_aSays_b15, show nI (7 - 0) = nI 7 from rfl, shl32 7 (by omega)]
      exact br_t1 (nI_lt (by omega) (by omega)) _ _
  | succ k ih =>
    intro f1 f2 h1 h2 h3
    obtain ⟨f1, rfl⟩ : ∃ z, f1 = z + 1 := ⟨f1 - 1, by omega⟩
    obtain ⟨f2, rfl⟩ : ∃ z, f2 = z + 1 := ⟨f2 - 1, by omega⟩
    obtain ⟨r, r1, r2, r3, r4, r5, r6⟩ := ih f1 f2 (by omega) (by omega) (by omega)
    generalize hn : 7 - (k + 1) = n at *
    rw [show 7 - k = n + 1 by omega] at r1 r4 r5 r6
    have hn7 : n < 7 := by omega
    have hb : 32 * 2 ^ n ≤ 32 * 2 ^ 7 := Nat.mul_le_mul_left _ (Nat.pow_le_pow_right (by omega) (by omega))
    rw [fX3_segment_b2, fX7_aSays_b15, br_f1 (show ¬ (7 : Int32) ≤ nI n from not_le_nI (m := 7) rfl hn7 (by omega)), shl32 n (by omega)]
    by_cases hc : q < 32 * 2 ^ n
    · have hc' : nI q < nI (32 * 2 ^ n) := nI_lt hc (by omega)
      rw [br_t1 hc', br_t1 hc']
      exact ⟨n, Nat.le_refl n, by omega, hc, Or.inl rfl, rfl, rfl⟩
    · have hc' : ¬ nI q < nI (32 * 2 ^ n) := nI_nlt (by omega) (by omega)
      rw [br_f1 hc', br_f1 hc', nm_eq, nm_eq, nI_1]
      refine ⟨r, by omega, r2, r3, Or.inr ?_, r5, r6⟩
      rcases r4 with r4 | r4
      · rw [r4, Nat.pow_succ]; omega
      · exact r4
theorem abs_toInt {v : Int32} (h : -1073741824 ≤ v.toInt ∧ v.toInt ≤ 1073741823) : ∃ j : Nat, tAbs v = nI j ∧ (j : Int) = (if v.toInt < 0 then -v.toInt else v.toInt) ∧ j ≤ 1073741824 := by
  have z : (0 : Int32).toInt = 0 := rfl
  unfold tAbs
  by_cases h0 : (0 : Int32) ≤ v
  · rw [if_pos h0]
    rw [nq_le] at h0
    obtain ⟨j, q1, q2, q3⟩ := nq_of (x := v) (by omega)
    exact ⟨j, q2, by rw [if_neg (by omega)]; omega, by omega⟩
  · rw [if_neg h0]
    rw [nq_le] at h0
    have e : (-v).toInt = -v.toInt := by rw [Int32.toInt_neg, Int.bmod_eq_of_le (by omega) (by omega)]
    obtain ⟨j, q1, q2, q3⟩ := nq_of (x := -v) (by omega)
    exact ⟨j, q2, by rw [if_pos (by omega)]; omega, by omega⟩
theorem shr2 (x : Int32) : (x >>> ((2 : Int32) &&& 31)).toInt = x.toInt / 4 := by
  rw [pk_shr x _ 2 (by decide), Int.shiftRight_eq_div_pow]; rfl
theorem shr3 (x : Int32) : (x >>> ((3 : Int32) &&& 31)).toInt = x.toInt / 8 := by
  rw [pk_shr x _ 3 (by decide), Int.shiftRight_eq_div_pow]; rfl
/-- mu, said: what both answer, and how -/
theorem mu_both (x : Int32) : ∃ (a q r t : Nat), (a : Int) = (if x.toInt / 4 < 0 then -(x.toInt / 4) else x.toInt / 4) ∧ q = (if a ≤ 8158 then a else 8158) + 33 ∧ r ≤ 7 ∧ t = q / 2 ^ (r + 1) ∧ 16 ≤ t ∧ t < 32 ∧ fX3_muCode x = some (nI ((if x.toInt < 0 then 127 else 255) - (16 * r + (t - 16)))) ∧ fX7_muSays x = some (nI ((if x.toInt < 0 then 127 else 255) - (16 * r + (t - 16)))) := by
  have hx1 : x.toInt ≤ 2147483647 := x.toInt_le
  have hx2 : -2147483648 ≤ x.toInt := x.le_toInt
  have hv := shr2 x
  have z : (0 : Int32).toInt = 0 := rfl
  obtain ⟨a, ha, ha2, ha3⟩ := abs_toInt (v := x >>> ((2 : Int32) &&& 31)) (by rw [hv]; omega)
  rw [hv] at ha2
  have hq33 : (if a ≤ 8158 then a else 8158) + 33 ≤ 8191 := by split <;> omega
  generalize hq : (if a ≤ 8158 then a else 8158) + 33 = q at hq33
  obtain ⟨r, r1, r2, r3, r4, r5, r6⟩ := mu_seg (q := q) hq33 (tSgn (x >>> ((2 : Int32) &&& 31))) 7 1100 1100 (by omega) (by omega) (by omega)
  have hlow : 32 * 2 ^ r ≤ q := by
    rcases r4 with r4 | r4
    · rw [r4]; omega
    · exact r4
  have hp : 2 ^ (r + 1) = 2 * 2 ^ r := by rw [Nat.pow_succ]; omega
  have hp0 : 0 < 2 ^ r := Nat.pow_pos (by omega)
  have ht1 : 16 ≤ q / 2 ^ (r + 1) := (Nat.le_div_iff_mul_le (by omega)).mpr (by omega)
  have ht2 : q / 2 ^ (r + 1) < 32 := (Nat.div_lt_iff_lt_mul (by omega)).mpr (by omega)
  have esh : nI q >>> ((nI r + (1 : Int32)) &&& 31) = nI (q / 2 ^ (r + 1)) := by
    rw [nI_1]
    have : r = 0 ∨ r = 1 ∨ r = 2 ∨ r = 3 ∨ r = 4 ∨ r = 5 ∨ r = 6 ∨ r = 7 := by omega
    rcases this with rfl | rfl | rfl | rfl | rfl | rfl | rfl | rfl <;> exact pk_shrN (by omega) _ _ (by decide)
  have e15 : nI (q / 2 ^ (r + 1)) &&& (15 : Int32) = nI (q / 2 ^ (r + 1) - 16) := by
    rw [pk_andN (by omega) 4 (by decide)]
    congr 1
    omega
  have e16 : ((16 : Int32) * nI r) + nI (q / 2 ^ (r + 1) - 16) = nI (16 * r + (q / 2 ^ (r + 1) - 16)) := by rw [show (16 : Int32) * nI r = nI (16 * r) from pk_mul 16 r, nI_add]
  have sub255 : (255 : Int32) - nI (16 * r + (q / 2 ^ (r + 1) - 16)) = nI (255 - (16 * r + (q / 2 ^ (r + 1) - 16))) := pk_sub (a := 255) (by omega)
  have sub127 : (127 : Int32) - nI (16 * r + (q / 2 ^ (r + 1) - 16)) = nI (127 - (16 * r + (q / 2 ^ (r + 1) - 16))) := pk_sub (a := 127) (by omega)
  have emin : (if (8158 : Int32) < nI a then (8158 : Int32) else nI a) + (33 : Int32) = nI q := by
    by_cases h : a ≤ 8158
    · rw [if_neg (by rw [show (8158 : Int32) = nI 8158 from rfl]; exact nI_nlt h (by omega)), show nI a + (33 : Int32) = nI (a + 33) from nI_add a 33, ← hq, if_pos h]
    · rw [if_pos (by rw [show (8158 : Int32) = nI 8158 from rfl]; exact nI_lt (by omega) (by omega)), ← hq, if_neg h]; rfl
  refine ⟨a, q, r, q / 2 ^ (r + 1), ha2, hq.symm, r2, rfl, ht1, ht2, ?_, ?_⟩
  · rw [fX3_muCode, nm_eq, nq_abs, nm_eq, nm_eq, nm_eq, ha, emin, fX3_segment, show (0 : Int32) = nI (7 - 7) from rfl, r5, cl_eq]
    by_cases hs : x.toInt < 0
    · rw [br_f1 (by rw [nq_le, hv]; show ¬ (0 : Int) ≤ _; omega), fX3_muCode_b37, esh, e15, e16, sub127, if_pos hs]
    · rw [br_t1 (by rw [nq_le, hv]; show (0 : Int) ≤ _; omega), fX3_muCode_b37, esh, e15, e16, sub255, if_neg hs]
  · rw [fX7_muSays, nm_eq, eX7_sign, cl_eq, eX7_amount, cl_eq, ha]
    have e27 : pq_br (nI a ≤ (8158 : Int32)) (fX7_muSays_b27 (nI a) (tSgn (x >>> ((2 : Int32) &&& 31)))) (fX7_muSays_b27 (8158 : Int32) (tSgn (x >>> ((2 : Int32) &&& 31)))) = fX7_muSays_b35 1100 (nI q) (tSgn (x >>> ((2 : Int32) &&& 31))) (0 : Int32) := by
      by_cases h : a ≤ 8158
      · rw [br_t1 (show nI a ≤ (8158 : Int32) from nI_le (a := a) (b := 8158) h (by omega)), fX7_muSays_b27, nm_eq, show nI a + (33 : Int32) = nI (a + 33) from nI_add a 33, ← hq, if_pos h]
      · rw [br_f1 (show ¬ nI a ≤ (8158 : Int32) from nI_ge (a := 8158) (b := a) (by omega) (by omega)), fX7_muSays_b27, nm_eq, ← hq, if_neg h]; rfl
    rw [e27, show (0 : Int32) = nI (7 - 7) from rfl, r6]
    by_cases hs : x.toInt < 0
    · have hg : tSgn (x >>> ((2 : Int32) &&& 31)) = 1 := by unfold tSgn; rw [if_neg (by rw [nq_le, hv]; show ¬ (0 : Int) ≤ _; omega)]
      rw [br_t1 hg, fX7_muSays_b66, esh, e15, e16, sub127, if_pos hs]
    · have hg : ¬ tSgn (x >>> ((2 : Int32) &&& 31)) = 1 := by unfold tSgn; rw [if_pos (by rw [nq_le, hv]; show (0 : Int) ≤ _; omega)]; decide
      rw [br_f1 hg, fX7_muSays_b66, esh, e15, e16, sub255, if_neg hs]
theorem mu_hears {c : Nat} (hc : c < 256) : ∃ v : Int32, fX3_muSample (nI c) = some v ∧ fX7_muHears (nI c) = some v ∧ (-32768 ≤ v.toInt ∧ v.toInt ≤ 32767) := by
  have h := (by decide +kernel : ∀ c, c < 256 → fX3_muSample (nI c) = fX7_muHears (nI c) ∧ (match fX3_muSample (nI c) with | some v => decide (-32768 ≤ v.toInt ∧ v.toInt ≤ 32767) | none => false) = true) c hc
  cases hv : fX3_muSample (nI c) with
  | none => rw [hv] at h; cases h.2
  | some v => rw [hv] at h; exact ⟨v, rfl, h.1.symm, of_decide_eq_true h.2⟩
theorem a_hears {c : Nat} (hc : c < 256) : ∃ v : Int32, fX3_aSample (nI c) = some v ∧ fX7_aHears (nI c) = some v ∧ (-32768 ≤ v.toInt ∧ v.toInt ≤ 32767) := by
  have h := (by decide +kernel : ∀ c, c < 256 → fX3_aSample (nI c) = fX7_aHears (nI c) ∧ (match fX3_aSample (nI c) with | some v => decide (-32768 ≤ v.toInt ∧ v.toInt ≤ 32767) | none => false) = true) c hc
  cases hv : fX3_aSample (nI c) with
  | none => rw [hv] at h; cases h.2
  | some v => rw [hv] at h; exact ⟨v, rfl, h.1.symm, of_decide_eq_true h.2⟩
