/-! the tables of G.726, and the code of a sample -/
def mt (f : Nat → Int32) (l : List Int32) : Prop := ∀ j, j < l.length → f j = l.getD j 0
def mt4 (f2 f3 f4 f5 : Nat → Int32) (l2 l3 l4 l5 : List Int32) : Prop := mt f2 l2 ∧ mt f3 l3 ∧ mt f4 l4 ∧ mt f5 l5
abbrev lB2 : List Int32 := [261]
abbrev lB3 : List Int32 := [8, 218, 331]
abbrev lB4 : List Int32 := [-124, 80, 178, 246, 300, 349, 400]
abbrev lB5 : List Int32 := [-122, -16, 68, 139, 198, 250, 298, 339, 378, 413, 445, 475, 502, 528, 553]
abbrev lT2 : List Int32 := [116, 365]
abbrev lT3 : List Int32 := [-2048, 135, 273, 373]
abbrev lT4 : List Int32 := [-2048, 4, 135, 213, 273, 323, 373, 425]
abbrev lT5 : List Int32 := [-2048, -66, 28, 104, 169, 224, 274, 318, 358, 395, 429, 459, 488, 514, 539, 566]
abbrev lW2 : List Int32 := [-704, 14048]
abbrev lW3 : List Int32 := [-128, 960, 4384, 18624]
abbrev lW4 : List Int32 := [-384, 576, 1312, 2048, 3584, 6336, 11360, 35904]
abbrev lW5 : List Int32 := [448, 448, 768, 1248, 1280, 1312, 1856, 3200, 4512, 5728, 7008, 8960, 11456, 14080, 16928, 22272]
abbrev lP2 : List Int32 := [0, 3584]
abbrev lP3 : List Int32 := [0, 512, 1024, 3584]
abbrev lP4 : List Int32 := [0, 0, 0, 512, 512, 512, 1536, 3584]
abbrev lP5 : List Int32 := [0, 0, 0, 0, 0, 512, 512, 512, 512, 512, 1024, 1536, 2048, 2560, 3072, 3072]
section CODE
variable {b2 b3 b4 b5 t2 t3 t4 t5 w2 w3 w4 w5 p2 p3 p4 p5 : Nat → Int32}
theorem kcases {k : Nat} (h : 2 ≤ k ∧ k ≤ 5) : k = 2 ∨ k = 3 ∨ k = 4 ∨ k = 5 := by omega
theorem bound_eq (hB : mt4 b2 b3 b4 b5 lB2 lB3 lB4 lB5) {k i : Nat} (hk : 2 ≤ k ∧ k ≤ 5) (hi : i < 2 ^ (k - 1) - 1) : fX7_bound (nI k) (nI i) b2 b3 b4 b5 = some (pq_t_BOUNDS (2 ^ (k - 1) - k + i)) := by
  unfold fX7_bound pq_br
  rcases kcases hk with rfl | rfl | rfl | rfl
  · rw [if_pos (by decide), rd_in rfl (by omega) (by decide), hB.1 i (by simpa using hi)]
    exact congrArg some ((by decide : ∀ i, i < 1 → lB2.getD i 0 = pq_t_BOUNDS (0 + i)) i (by omega))
  · rw [if_neg (by decide), if_pos (by decide), rd_in rfl (by omega) (by decide), hB.2.1 i (by simpa using hi)]
    exact congrArg some ((by decide : ∀ i, i < 3 → lB3.getD i 0 = pq_t_BOUNDS (1 + i)) i (by omega))
  · rw [if_neg (by decide), if_neg (by decide), if_pos (by decide), rd_in rfl (by omega) (by decide), hB.2.2.1 i (by simpa using hi)]
    exact congrArg some ((by decide : ∀ i, i < 7 → lB4.getD i 0 = pq_t_BOUNDS (4 + i)) i (by omega))
  · rw [if_neg (by decide), if_neg (by decide), if_neg (by decide), rd_in rfl (by omega) (by decide), hB.2.2.2 i (by simpa using hi)]
    exact congrArg some ((by decide : ∀ i, i < 15 → lB5.getD i 0 = pq_t_BOUNDS (11 + i)) i (by omega))
/-- the place of a code in the class's rows -/
def tPl (k c : Nat) : Nat := 2 ^ (k - 1) - 2 + (if c < 2 ^ (k - 1) then c else 2 ^ k - 1 - c)
theorem place_eq {k c : Nat} (hk : 2 ≤ k ∧ k ≤ 5) (hc : c < 2 ^ k) : fX0_tablePlace (nI c) (nI k) = some (nI (tPl k c)) ∧ tPl k c < 30 := by
  rcases kcases hk with rfl | rfl | rfl | rfl
  · exact (by decide : ∀ c, c < 4 → fX0_tablePlace (nI c) (nI 2) = some (nI (tPl 2 c)) ∧ tPl 2 c < 30) c hc
  · exact (by decide : ∀ c, c < 8 → fX0_tablePlace (nI c) (nI 3) = some (nI (tPl 3 c)) ∧ tPl 3 c < 30) c hc
  · exact (by decide : ∀ c, c < 16 → fX0_tablePlace (nI c) (nI 4) = some (nI (tPl 4 c)) ∧ tPl 4 c < 30) c hc
  · exact (by decide : ∀ c, c < 32 → fX0_tablePlace (nI c) (nI 5) = some (nI (tPl 5 c)) ∧ tPl 5 c < 30) c hc
theorem half_eq {k c : Nat} (hk : 2 ≤ k ∧ k ≤ 5) (hc : c < 2 ^ k) : fX7_half (nI k) (nI c) = some (nI (tPl k c - (2 ^ (k - 1) - 2))) ∧ tPl k c - (2 ^ (k - 1) - 2) < 2 ^ (k - 1) := by
  rcases kcases hk with rfl | rfl | rfl | rfl
  · exact (by decide : ∀ c, c < 4 → fX7_half (nI 2) (nI c) = some (nI (tPl 2 c - (2 ^ (2 - 1) - 2))) ∧ tPl 2 c - (2 ^ (2 - 1) - 2) < 2 ^ (2 - 1)) c hc
  · exact (by decide : ∀ c, c < 8 → fX7_half (nI 3) (nI c) = some (nI (tPl 3 c - (2 ^ (3 - 1) - 2))) ∧ tPl 3 c - (2 ^ (3 - 1) - 2) < 2 ^ (3 - 1)) c hc
  · exact (by decide : ∀ c, c < 16 → fX7_half (nI 4) (nI c) = some (nI (tPl 4 c - (2 ^ (4 - 1) - 2))) ∧ tPl 4 c - (2 ^ (4 - 1) - 2) < 2 ^ (4 - 1)) c hc
  · exact (by decide : ∀ c, c < 32 → fX7_half (nI 5) (nI c) = some (nI (tPl 5 c - (2 ^ (5 - 1) - 2))) ∧ tPl 5 c - (2 ^ (5 - 1) - 2) < 2 ^ (5 - 1)) c hc
theorem plsum {k c : Nat} (hk : 2 ≤ k ∧ k ≤ 5) : tPl k c = 2 ^ (k - 1) - 2 + (tPl k c - (2 ^ (k - 1) - 2)) := by unfold tPl; omega
theorem table_eq (hT : mt4 t2 t3 t4 t5 lT2 lT3 lT4 lT5) {k c : Nat} (hk : 2 ≤ k ∧ k ≤ 5) (hc : c < 2 ^ k) : fX7_table (nI k) (nI c) t2 t3 t4 t5 = some (pq_t_TABLE (tPl k c)) := by
  obtain ⟨h1, h2⟩ := half_eq hk hc
  rw [plsum hk]
  generalize tPl k c - (2 ^ (k - 1) - 2) = j at h1 h2
  unfold fX7_table
  rw [h1]
  simp only [pq_cl, Option.bind_some, pq_br]
  rcases kcases hk with rfl | rfl | rfl | rfl
  · rw [if_pos (by decide), rd_in rfl (by simpa using h2) (by decide), hT.1 j (by simpa using h2)]
    exact congrArg some ((by decide : ∀ i, i < 2 → lT2.getD i 0 = pq_t_TABLE (0 + i)) j (by simpa using h2))
  · rw [if_neg (by decide), if_pos (by decide), rd_in rfl (by simpa using h2) (by decide), hT.2.1 j (by simpa using h2)]
    exact congrArg some ((by decide : ∀ i, i < 4 → lT3.getD i 0 = pq_t_TABLE (2 + i)) j (by simpa using h2))
  · rw [if_neg (by decide), if_neg (by decide), if_pos (by decide), rd_in rfl (by simpa using h2) (by decide), hT.2.2.1 j (by simpa using h2)]
    exact congrArg some ((by decide : ∀ i, i < 8 → lT4.getD i 0 = pq_t_TABLE (6 + i)) j (by simpa using h2))
  · rw [if_neg (by decide), if_neg (by decide), if_neg (by decide), rd_in rfl (by simpa using h2) (by decide), hT.2.2.2 j (by simpa using h2)]
    exact congrArg some ((by decide : ∀ i, i < 16 → lT5.getD i 0 = pq_t_TABLE (14 + i)) j (by simpa using h2))
theorem weight_eq (hT : mt4 w2 w3 w4 w5 lW2 lW3 lW4 lW5) {k c : Nat} (hk : 2 ≤ k ∧ k ≤ 5) (hc : c < 2 ^ k) : fX7_weight (nI k) (nI c) w2 w3 w4 w5 = some (pq_t_WEIGHT (tPl k c)) := by
  obtain ⟨h1, h2⟩ := half_eq hk hc
  rw [plsum hk]
  generalize tPl k c - (2 ^ (k - 1) - 2) = j at h1 h2
  unfold fX7_weight
  rw [h1]
  simp only [pq_cl, Option.bind_some, pq_br]
  rcases kcases hk with rfl | rfl | rfl | rfl
  · rw [if_pos (by decide), rd_in rfl (by simpa using h2) (by decide), hT.1 j (by simpa using h2)]
    exact congrArg some ((by decide : ∀ i, i < 2 → lW2.getD i 0 = pq_t_WEIGHT (0 + i)) j (by simpa using h2))
  · rw [if_neg (by decide), if_pos (by decide), rd_in rfl (by simpa using h2) (by decide), hT.2.1 j (by simpa using h2)]
    exact congrArg some ((by decide : ∀ i, i < 4 → lW3.getD i 0 = pq_t_WEIGHT (2 + i)) j (by simpa using h2))
  · rw [if_neg (by decide), if_neg (by decide), if_pos (by decide), rd_in rfl (by simpa using h2) (by decide), hT.2.2.1 j (by simpa using h2)]
    exact congrArg some ((by decide : ∀ i, i < 8 → lW4.getD i 0 = pq_t_WEIGHT (6 + i)) j (by simpa using h2))
  · rw [if_neg (by decide), if_neg (by decide), if_neg (by decide), rd_in rfl (by simpa using h2) (by decide), hT.2.2.2 j (by simpa using h2)]
    exact congrArg some ((by decide : ∀ i, i < 16 → lW5.getD i 0 = pq_t_WEIGHT (14 + i)) j (by simpa using h2))
theorem pace_eq (hT : mt4 p2 p3 p4 p5 lP2 lP3 lP4 lP5) {k c : Nat} (hk : 2 ≤ k ∧ k ≤ 5) (hc : c < 2 ^ k) : fX7_pace (nI k) (nI c) p2 p3 p4 p5 = some (pq_t_PACE (tPl k c)) := by
  obtain ⟨h1, h2⟩ := half_eq hk hc
  rw [plsum hk]
  generalize tPl k c - (2 ^ (k - 1) - 2) = j at h1 h2
  unfold fX7_pace
  rw [h1]
  simp only [pq_cl, Option.bind_some, pq_br]
  rcases kcases hk with rfl | rfl | rfl | rfl
  · rw [if_pos (by decide), rd_in rfl (by simpa using h2) (by decide), hT.1 j (by simpa using h2)]
    exact congrArg some ((by decide : ∀ i, i < 2 → lP2.getD i 0 = pq_t_PACE (0 + i)) j (by simpa using h2))
  · rw [if_neg (by decide), if_pos (by decide), rd_in rfl (by simpa using h2) (by decide), hT.2.1 j (by simpa using h2)]
    exact congrArg some ((by decide : ∀ i, i < 4 → lP3.getD i 0 = pq_t_PACE (2 + i)) j (by simpa using h2))
  · rw [if_neg (by decide), if_neg (by decide), if_pos (by decide), rd_in rfl (by simpa using h2) (by decide), hT.2.2.1 j (by simpa using h2)]
    exact congrArg some ((by decide : ∀ i, i < 8 → lP4.getD i 0 = pq_t_PACE (6 + i)) j (by simpa using h2))
  · rw [if_neg (by decide), if_neg (by decide), if_neg (by decide), rd_in rfl (by simpa using h2) (by decide), hT.2.2.2 j (by simpa using h2)]
    exact congrArg some ((by decide : ∀ i, i < 16 → lP5.getD i 0 = pq_t_PACE (14 + i)) j (by simpa using h2))
theorem below_eq {k c : Nat} (hk : 2 ≤ k ∧ k ≤ 5) (hc : c < 2 ^ k) : (nI c < ((1 : Int32) <<< ((nI k - (1 : Int32)) &&& 31)) ↔ ¬ (nI c >>> ((nI k - (1 : Int32)) &&& 31)) = (1 : Int32)) := by
  rcases kcases hk with rfl | rfl | rfl | rfl
  · exact (by decide : ∀ c, c < 4 → (nI c < ((1 : Int32) <<< ((nI 2 - (1 : Int32)) &&& 31)) ↔ ¬ (nI c >>> ((nI 2 - (1 : Int32)) &&& 31)) = (1 : Int32))) c hc
  · exact (by decide : ∀ c, c < 8 → (nI c < ((1 : Int32) <<< ((nI 3 - (1 : Int32)) &&& 31)) ↔ ¬ (nI c >>> ((nI 3 - (1 : Int32)) &&& 31)) = (1 : Int32))) c hc
  · exact (by decide : ∀ c, c < 16 → (nI c < ((1 : Int32) <<< ((nI 4 - (1 : Int32)) &&& 31)) ↔ ¬ (nI c >>> ((nI 4 - (1 : Int32)) &&& 31)) = (1 : Int32))) c hc
  · exact (by decide : ∀ c, c < 32 → (nI c < ((1 : Int32) <<< ((nI 5 - (1 : Int32)) &&& 31)) ↔ ¬ (nI c >>> ((nI 5 - (1 : Int32)) &&& 31)) = (1 : Int32))) c hc
theorem code_loop (hB : mt4 b2 b3 b4 b5 lB2 lB3 lB4 lB5) {k : Nat} (hk : 2 ≤ k ∧ k ≤ 5) (st d l s z e y : Int32) (g : Nat → Int32) : ∀ (fuel i : Nat), i ≤ 2 ^ (k - 1) - 1 → 2 ^ (k - 1) ≤ fuel + i → ∃ c : Nat, c < 2 ^ k ∧ fX0_codeOf_b67 (nI k) st fuel d l (nI (2 ^ (k - 1) - 1)) (nI (2 ^ (k - 1) - k)) (nI i) = some (nI c) ∧ fX7_says726_b73 b2 b3 b4 b5 t2 t3 t4 t5 w2 w3 w4 w5 p2 p3 p4 p5 fuel s (nI k) d l (nI (2 ^ (k - 1) - 1)) (nI i) z e y g = fX7_says726_b149 b2 b3 b4 b5 t2 t3 t4 t5 w2 w3 w4 w5 p2 p3 p4 p5 s (nI k) (nI c) z e y g := by
  have hp : 2 * 2 ^ (k - 1) = 2 ^ k := by rcases kcases hk with rfl | rfl | rfl | rfl <;> rfl
  have hq : 2 ≤ 2 ^ (k - 1) ∧ 2 ^ (k - 1) ≤ 16 := by rcases kcases hk with rfl | rfl | rfl | rfl <;> decide
  have hr : k ≤ 2 ^ (k - 1) ∧ 2 ^ (k - 1) - k + (2 ^ (k - 1) - 1) ≤ 26 := by rcases kcases hk with rfl | rfl | rfl | rfl <;> decide
  have hend : ∀ i : Nat, i ≤ 2 ^ (k - 1) - 1 → ∃ c : Nat, c < 2 ^ k ∧ fX0_codeOf_b94 (nI k) st d (nI (2 ^ (k - 1) - 1)) (nI i) = some (nI c) ∧ fX7_says726_b101 b2 b3 b4 b5 t2 t3 t4 t5 w2 w3 w4 w5 p2 p3 p4 p5 s (nI k) d (nI (2 ^ (k - 1) - 1)) (nI i) z e y g = fX7_says726_b149 b2 b3 b4 b5 t2 t3 t4 t5 w2 w3 w4 w5 p2 p3 p4 p5 s (nI k) (nI c) z e y g := by
    intro i hi
    have e1 : ((2 : Int32) * nI (2 ^ (k - 1) - 1)) + (1 : Int32) = nI (2 ^ k - 1) := by
      rw [show (2 : Int32) = nI 2 from rfl, pk_mul, nI_1]
      congr 1
      omega
    have e2 : (((2 : Int32) * nI (2 ^ (k - 1) - 1)) + (1 : Int32)) - nI i = nI (2 ^ k - 1 - i) := by
      rw [e1, pk_sub (by omega)]
    unfold fX0_codeOf_b94 fX7_says726_b101 fX7_says726_b120 fX7_says726_b147
    unfold pq_br
    by_cases hd : (0 : Int32) ≤ d
    · have hd' : ¬ d < (0 : Int32) := by rw [nq_lt]; rw [nq_le] at hd; omega
      rw [if_pos hd, if_pos hd, if_neg hd']
      by_cases hz : i = 0
      · subst hz
        rw [if_pos (show nI 0 ≤ (0 : Int32) by decide), if_pos (show nI 0 = (0 : Int32) from rfl)]
        by_cases h2 : nI k = (2 : Int32)
        · rw [if_pos h2, if_pos h2]
          exact ⟨0, by omega, rfl, rfl⟩
        · rw [if_neg h2, if_neg h2, e1]
          exact ⟨2 ^ k - 1, by omega, rfl, rfl⟩
      · have g1 : ¬ nI i ≤ (0 : Int32) := nI_nle (by omega) (by omega)
        have g2 : ¬ nI i = (0 : Int32) := nI_ne0 (by omega) (by omega)
        rw [if_neg g1, if_neg g2]
        exact ⟨i, by omega, rfl, rfl⟩
    · have hd' : d < (0 : Int32) := by rw [nq_lt]; rw [nq_le] at hd; omega
      rw [if_neg hd, if_neg hd, if_pos hd', e2]
      exact ⟨2 ^ k - 1 - i, by omega, rfl, rfl⟩
  intro fuel
  induction fuel with
  | zero => intro i h1 h2; exact absurd h2 (by omega)
  | succ f ih =>
    intro i h1 h2
    rw [fX0_codeOf_b67, fX7_says726_b73]
    by_cases hc : nI (2 ^ (k - 1) - 1) ≤ nI i
    · obtain ⟨c, g1, g2, g3⟩ := hend i h1
      refine ⟨c, g1, ?_, ?_⟩
      · unfold pq_br; rw [if_pos hc]; exact g2
      · unfold pq_br; rw [if_pos hc]; exact g3
    · have hi : i < 2 ^ (k - 1) - 1 := by
        rw [nI_leI (by omega) (by omega)] at hc
        omega
      rw [bound_eq hB hk hi]
      have er : nI (2 ^ (k - 1) - k) + nI i = nI (2 ^ (k - 1) - k + i) := nI_add _ _
      by_cases hl : l < pq_t_BOUNDS (2 ^ (k - 1) - k + i)
      · obtain ⟨c, g1, g2, g3⟩ := hend i h1
        refine ⟨c, g1, ?_, ?_⟩
        · unfold pq_br; rw [if_neg hc, rd_in er (by omega) (by decide), if_pos hl]; exact g2
        · simp only [pq_br, if_neg hc, pq_cl, Option.bind_some, if_pos hl]; exact g3
      · obtain ⟨c, g1, g2, g3⟩ := ih (i + 1) (by omega) (by omega)
        rw [← nI_1] at g2 g3
        refine ⟨c, g1, ?_, ?_⟩
        · unfold pq_br; rw [if_neg hc, rd_in er (by omega) (by decide), if_neg hl]; exact g2
        · simp only [pq_br, if_neg hc, pq_cl, Option.bind_some, if_neg hl, pq_nm]; exact g3
end CODE
