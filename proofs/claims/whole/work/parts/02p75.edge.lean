theorem xor_rng : ∀ y, y < 128 → nI y ^^^ (213 : Int32) = nI (y ^^^ 213) ∧ y ^^^ 213 < 256 ∧ nI y ^^^ (85 : Int32) = nI (y ^^^ 85) ∧ y ^^^ 85 < 256 := by decide +kernel
/-- A, said -/
theorem a_both {x : Int32} (hx : -32768 ≤ x.toInt ∧ x.toInt ≤ 32767) : ∃ (q r t : Nat), (q : Int) = (if x.toInt < 0 then -(x.toInt / 8) - 1 else x.toInt / 8) ∧ r ≤ 7 ∧ t = q / 2 ^ (if r = 0 then 1 else r) ∧ (r = 0 → t < 16) ∧ (0 < r → 16 ≤ t ∧ t < 32) ∧ fX3_aCode x = some (nI ((16 * r + t % 16) ^^^ (if x.toInt < 0 then 85 else 213))) ∧ fX7_aSays x = some (nI ((16 * r + t % 16) ^^^ (if x.toInt < 0 then 85 else 213))) := by
  have hv := shr3 x
  have z : (0 : Int32).toInt = 0 := rfl
  have tail : ∀ q : Nat, q ≤ 4095 → ∃ (r t : Nat), r ≤ 7 ∧ t = q / 2 ^ (if r = 0 then 1 else r) ∧ (r = 0 → t < 16) ∧ (0 < r → 16 ≤ t ∧ t < 32) ∧ fX3_aCode_b16 x (nI q) = some (nI ((16 * r + t % 16) ^^^ (if x.toInt < 0 then 85 else 213))) ∧ fX7_aSays_b13 x (nI q) = some (nI ((16 * r + t % 16) ^^^ (if x.toInt < 0 then 85 else 213))) := by
    intro q hq
    obtain ⟨r, r1, r2, r3, r4, r5, r6⟩ := a_seg (q := q) hq x 7 1100 1100 (by omega) (by omega) (by omega)
    have hp0 : 0 < 2 ^ r := Nat.pow_pos (by omega)
    have h0 : r = 0 → q / 2 ^ (if r = 0 then 1 else r) < 16 := by
      intro h; subst h; simp only [if_pos]; omega
    have h1 : 0 < r → 16 ≤ q / 2 ^ (if r = 0 then 1 else r) ∧ q / 2 ^ (if r = 0 then 1 else r) < 32 := by
      intro h
      rw [if_neg (by omega)]
      have hl : 16 * 2 ^ r ≤ q := by
        rcases r4 with r4 | r4
        · omega
        · exact r4
      exact ⟨(Nat.le_div_iff_mul_le (by omega)).mpr (by omega), (Nat.div_lt_iff_lt_mul (by omega)).mpr (by omega)⟩
    have e16 : ∀ w : Nat, ((16 : Int32) * nI r) + (nI w &&& (15 : Int32)) = nI (16 * r + w % 16) := by
      intro w
      rw [show (16 : Int32) * nI r = nI (16 * r) from pk_mul 16 r, show nI w &&& (15 : Int32) = nI (w % 16) from by
        by_cases hw : w < 2 ^ 32
        · exact pk_andN hw 4 (by decide)
        · rw [pk_and (nI w) 4 (by decide)]
          congr 1
          rw [nI, Int32.toBitVec_ofNat', BitVec.toNat_ofNat]
          omega, nI_add]
    have ey : 16 * r + (q / 2 ^ (if r = 0 then 1 else r)) % 16 < 128 := by omega
    obtain ⟨x1, x2, x3, x4⟩ := xor_rng _ ey
    have esh : nI q >>> ((if nI r < (1 : Int32) then (1 : Int32) else nI r) &&& 31) = nI (q / 2 ^ (if r = 0 then 1 else r)) := by
      have : r = 0 ∨ r = 1 ∨ r = 2 ∨ r = 3 ∨ r = 4 ∨ r = 5 ∨ r = 6 ∨ r = 7 := by omega
      rcases this with rfl | rfl | rfl | rfl | rfl | rfl | rfl | rfl <;> exact pk_shrN (by omega) _ _ (by decide)
    have emod : pq_br ((2 : Int32) ≤ nI r) (fX7_aSays_b44 x (nI r) (nI q >>> (nI r &&& 31))) (fX7_aSays_b44 x (nI r) (nI q >>> ((1 : Int32) &&& 31))) = fX7_aSays_b44 x (nI r) (nI (q / 2 ^ (if r = 0 then 1 else r))) := by
      have : r = 0 ∨ r = 1 ∨ r = 2 ∨ r = 3 ∨ r = 4 ∨ r = 5 ∨ r = 6 ∨ r = 7 := by omega
      rcases this with rfl | rfl | rfl | rfl | rfl | rfl | rfl | rfl
      · rw [br_f1 (by decide), pk_shrN (n := q) (by omega) ((1 : Int32) &&& 31) 1 (by decide)]; rfl
      · rw [br_f1 (by decide), pk_shrN (n := q) (by omega) ((1 : Int32) &&& 31) 1 (by decide)]; rfl
      · rw [br_t1 (by decide), pk_shrN (n := q) (by omega) (nI 2 &&& 31) 2 (by decide)]; rfl
      · rw [br_t1 (by decide), pk_shrN (n := q) (by omega) (nI 3 &&& 31) 3 (by decide)]; rfl
      · rw [br_t1 (by decide), pk_shrN (n := q) (by omega) (nI 4 &&& 31) 4 (by decide)]; rfl
      · rw [br_t1 (by decide), pk_shrN (n := q) (by omega) (nI 5 &&& 31) 5 (by decide)]; rfl
      · rw [br_t1 (by decide), pk_shrN (n := q) (by omega) (nI 6 &&& 31) 6 (by decide)]; rfl
      · rw [br_t1 (by decide), pk_shrN (n := q) (by omega) (nI 7 &&& 31) 7 (by decide)]; rfl
    refine ⟨r, _, r2, rfl, h0, h1, ?_, ?_⟩
    · rw [fX3_aCode_b16, fX3_segment, show (0 : Int32) = nI (7 - 7) from rfl, r5, cl_eq, nm_eq, nm_eq, esh, e16]
      by_cases hs : x.toInt < 0
      · rw [br_f1 (by rw [nq_le]; show ¬ (0 : Int) ≤ _; omega), if_pos hs, x3]
      · rw [br_t1 (by rw [nq_le]; show (0 : Int) ≤ _; omega), if_neg hs, x1]
    · rw [fX7_aSays_b13, show (0 : Int32) = nI (7 - 7) from rfl, r6, emod, fX7_aSays_b44, e16]
      by_cases hs : x.toInt < 0
      · rw [br_t1 (by rw [nq_lt]; show _ < (0 : Int); omega), if_pos hs, x3]
      · rw [br_f1 (by rw [nq_lt]; show ¬ _ < (0 : Int); omega), if_neg hs, x1]
  rw [fX3_aCode, fX7_aSays, nm_eq, nm_eq]
  by_cases hs : x.toInt < 0
  · have hn : ¬ (0 : Int32) ≤ x >>> ((3 : Int32) &&& 31) := by rw [nq_le, hv]; show ¬ (0 : Int) ≤ _; omega
    have e1 : ((-(x >>> ((3 : Int32) &&& 31))) - (1 : Int32)).toInt = -(x.toInt / 8) - 1 := by
      have e0 : (-(x >>> ((3 : Int32) &&& 31))).toInt = -(x.toInt / 8) := by rw [Int32.toInt_neg, hv, Int.bmod_eq_of_le (by omega) (by omega)]
      rw [Int32.toInt_sub, e0, show (1 : Int32).toInt = 1 from rfl, Int.bmod_eq_of_le (by omega) (by omega)]
    obtain ⟨j, q1, q2, q3⟩ := nq_of (x := (-(x >>> ((3 : Int32) &&& 31))) - (1 : Int32)) (by rw [e1]; omega)
    rw [e1] at q3
    obtain ⟨r, t, k1, k2, k3, k4, k5, k6⟩ := tail j (by omega)
    rw [br_f1 hn, br_f1 hn, nm_eq, q2, if_pos hs]
    exact ⟨j, r, t, by omega, k1, k2, k3, k4, k5, k6⟩
  · have hn : (0 : Int32) ≤ x >>> ((3 : Int32) &&& 31) := by rw [nq_le, hv]; show (0 : Int) ≤ _; omega
    obtain ⟨j, q1, q2, q3⟩ := nq_of (x := x >>> ((3 : Int32) &&& 31)) (by rw [hv]; omega)
    rw [hv] at q3
    obtain ⟨r, t, k1, k2, k3, k4, k5, k6⟩ := tail j (by omega)
    rw [br_t1 hn, br_t1 hn, q2, if_neg hs]
    exact ⟨j, r, t, by omega, k1, k2, k3, k4, k5, k6⟩
/-! the edges -/
def edg (k g c : Nat) : Int32 := (if k = 0 then fX3_muEdge (nI c) (nI g) else fX3_aEdge (nI c) (nI g)).getD 0
def sys (k : Nat) (x : Int32) : Option Int32 := if k = 0 then fX7_muSays x else fX7_aSays x
theorem edg_some : ∀ k, k < 2 → ∀ g, g < 2 → ∀ c, c < 256 → (if k = 0 then fX3_muEdge (nI c) (nI g) else fX3_aEdge (nI c) (nI g)) = some (edg k g c) := by decide +kernel
theorem edg_att : ∀ k, k < 2 → ∀ c, c < 256 → (edg k 0 c = -100000 ∧ edg k 1 c = -100000) ∨ (-32768 ≤ (edg k 0 c).toInt ∧ (edg k 0 c).toInt ≤ (edg k 1 c).toInt ∧ (edg k 1 c).toInt ≤ 32767 ∧ sys k (edg k 0 c) = some (nI c) ∧ sys k (edg k 1 c) = some (nI c)) := by decide +kernel
theorem mu_tab : ∀ r, r < 8 → ∀ j, j < 16 → ((edg 0 0 (255 - (16 * r + j))).toInt = 4 * (((16 + j) * 2 ^ (r + 1) - 33 : Nat) : Int) ∧ (edg 0 1 (255 - (16 * r + j))).toInt = 4 * ((if 16 * r + j = 127 then 8191 else (17 + j) * 2 ^ (r + 1) - 34 : Nat) : Int) + 3) ∧ ((r = 0 ∧ j = 0) ∨ ((edg 0 0 (127 - (16 * r + j))).toInt = -(4 * ((if 16 * r + j = 127 then 8192 else (17 + j) * 2 ^ (r + 1) - 34 : Nat) : Int)) ∧ (edg 0 1 (127 - (16 * r + j))).toInt = 3 - 4 * ((if (16 + j) * 2 ^ (r + 1) ≤ 34 then 1 else (16 + j) * 2 ^ (r + 1) - 33 : Nat) : Int))) := by decide +kernel
theorem a_tab : ∀ r, r < 8 → ∀ j, j < 16 → ((edg 1 0 ((16 * r + j) ^^^ 213)).toInt = 8 * (((if r = 0 then j else 16 + j) * 2 ^ (if r = 0 then 1 else r) : Nat) : Int) ∧ (edg 1 1 ((16 * r + j) ^^^ 213)).toInt = 8 * (((if r = 0 then j else 16 + j) + 1) * 2 ^ (if r = 0 then 1 else r) : Nat) - 1) ∧ ((edg 1 0 ((16 * r + j) ^^^ 85)).toInt = -(8 * (((if r = 0 then j else 16 + j) + 1) * 2 ^ (if r = 0 then 1 else r) : Nat)) ∧ (edg 1 1 ((16 * r + j) ^^^ 85)).toInt = -(8 * (((if r = 0 then j else 16 + j) * 2 ^ (if r = 0 then 1 else r) : Nat) : Int)) - 1) := by decide +kernel
