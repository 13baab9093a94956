section ZER
variable {b k : Nat} {g0 t2 t3 t4 t5 w2 w3 w4 w5 p2 p3 p4 p5 : Nat → Int32} {Z E Y : Int32}
theorem zer_ix (b i j : Nat) (c : Int32) (hc : c = nI j) : (nI b + c) + nI i = nI (b + (j + i)) := by
  subst hc
  rw [nI_add, nI_add, Nat.add_assoc]
theorem not6 {i : Nat} (h : i < 6) : ¬ (6 : Int32) ≤ nI i := by
  rw [nq_le, nI_toInt (by omega)]
  have : (6 : Int32).toInt = 6 := rfl
  omega
theorem zer_loop (hk : 2 ≤ k ∧ k ≤ 5) (hb : b + 24 ≤ 192) (c y t bl sr tr p a : Int32) : ∀ (f1 f2 i : Nat) (n g : Nat → Int32), vA 24 b n g g0 → i ≤ 6 → 7 ≤ f1 + i → 7 ≤ f2 + i →
    ∃ n1 g1, fX0_adaptZeros_b19 (nI k) f1 t bl (if nI k = (5 : Int32) then (9 : Int32) else 8) (nI i) n = some n1 ∧ fX7_comes_b342 Z E Y t2 t3 t4 t5 w2 w3 w4 w5 p2 p3 p4 p5 f2 (nI k) c (nI b) y t bl sr tr p a (nI i) g = fX7_comes_b453 Z E Y t2 t3 t4 t5 w2 w3 w4 w5 p2 p3 p4 p5 (nI k) c (nI b) y t bl sr tr p a g1 ∧ vA 24 b n1 g1 g0 ∧ ∀ j, (j < 8 ∨ 14 ≤ j) → n1 j = n j := by
  intro f1
  induction f1 with
  | zero => intro f2 i n g hR h1 h2 h3; exact absurd h2 (by omega)
  | succ f1 ih =>
    intro f2 i n g hR h1 h2 h3
    cases f2 with
    | zero => exact absurd h3 (by omega)
    | succ f2 =>
      rw [fX0_adaptZeros_b19, fX7_comes_b342]
      by_cases h6 : i = 6
      · subst h6
        refine ⟨n, g, br_t1 (by decide) _ _, br_t1 (by decide) _ _, hR, fun _ _ => rfl⟩
      · have hi : i < 6 := by omega
        have hn := not6 hi
        rw [br_f1 hn, br_f1 hn, rd_in (j := 8 + i) (ix_r i 8) (by omega) (by omega), rd_in (j := b + (8 + i)) (zer_ix b i 8 8 rfl) (by omega) (by omega), hR.1 (8 + i) (by omega), nm_eq]
        -- one turn
        have turn : ∀ x : Int32, ∃ n1 g1, fX0_adaptZeros_b86 (fX0_adaptZeros_b19 (nI k) f1) (nI k) t bl (if nI k = (5 : Int32) then (9 : Int32) else 8) (nI i) x n = some n1 ∧ fX7_comes_b428 (fX7_comes_b342 Z E Y t2 t3 t4 t5 w2 w3 w4 w5 p2 p3 p4 p5 f2) Z E Y t2 t3 t4 t5 w2 w3 w4 w5 p2 p3 p4 p5 (nI k) c (nI b) y t bl sr tr p a (nI i) x g = fX7_comes_b453 Z E Y t2 t3 t4 t5 w2 w3 w4 w5 p2 p3 p4 p5 (nI k) c (nI b) y t bl sr tr p a g1 ∧ vA 24 b n1 g1 g0 ∧ ∀ j, (j < 8 ∨ 14 ≤ j) → n1 j = n j := by
          intro x
          rw [fX0_adaptZeros_b86, fX7_comes_b428, eX6_wrapped, eX7_wrapped, cl_eq, cl_eq, wr_in (j := 8 + i) (ix_r i 8) (by omega) (by omega), wr_in (j := b + (8 + i)) (zer_ix b i 8 8 rfl) (by omega) (by omega), nm_eq, nm_eq, nI_1]
          obtain ⟨n1, g1, q1, q2, q3, q4⟩ := ih f2 (i + 1) _ _ (hR.up (j := 8 + i) (by omega) (tWrap x)) (by omega) (by omega) (by omega)
          exact ⟨n1, g1, q1, q2, q3, fun j hj => by rw [q4 j hj, pk_un (by omega)]⟩
        have next : ∀ x : Int32, ∃ n1 g1, (pq_br (t = (0 : Int32)) (fX0_adaptZeros_b86 (fX0_adaptZeros_b19 (nI k) f1) (nI k) t bl (if nI k = (5 : Int32) then (9 : Int32) else 8) (nI i) x n) (pq_rd 24 n ((16 : Int32) + nI i) fun (v10 : Int32) => pq_br ((0 : Int32) ≤ v10) (fX0_adaptZeros_b72 (fX0_adaptZeros_b19 (nI k) f1) (nI k) t bl (if nI k = (5 : Int32) then (9 : Int32) else 8) (nI i) x bl (0 : Int32) n) (fX0_adaptZeros_b72 (fX0_adaptZeros_b19 (nI k) f1) (nI k) t bl (if nI k = (5 : Int32) then (9 : Int32) else 8) (nI i) x bl (1 : Int32) n))) = some n1 ∧ (pq_br (t = (0 : Int32)) (fX7_comes_b428 (fX7_comes_b342 Z E Y t2 t3 t4 t5 w2 w3 w4 w5 p2 p3 p4 p5 f2) Z E Y t2 t3 t4 t5 w2 w3 w4 w5 p2 p3 p4 p5 (nI k) c (nI b) y t bl sr tr p a (nI i) x g) (pq_rd 192 g ((nI b + (16 : Int32)) + nI i) fun (v167 : Int32) => pq_br ((0 : Int32) ≤ v167) (fX7_comes_b414 (fX7_comes_b342 Z E Y t2 t3 t4 t5 w2 w3 w4 w5 p2 p3 p4 p5 f2) Z E Y t2 t3 t4 t5 w2 w3 w4 w5 p2 p3 p4 p5 (nI k) c (nI b) y t bl sr tr p a (nI i) x bl (0 : Int32) g) (fX7_comes_b414 (fX7_comes_b342 Z E Y t2 t3 t4 t5 w2 w3 w4 w5 p2 p3 p4 p5 f2) Z E Y t2 t3 t4 t5 w2 w3 w4 w5 p2 p3 p4 p5 (nI k) c (nI b) y t bl sr tr p a (nI i) x bl (1 : Int32) g))) = fX7_comes_b453 Z E Y t2 t3 t4 t5 w2 w3 w4 w5 p2 p3 p4 p5 (nI k) c (nI b) y t bl sr tr p a g1 ∧ vA 24 b n1 g1 g0 ∧ ∀ j, (j < 8 ∨ 14 ≤ j) → n1 j = n j := by
          intro x
          by_cases ht : t = (0 : Int32)
          · rw [br_t1 ht, br_t1 ht]; exact turn x
          · rw [br_f1 ht, br_f1 ht, rd_in (j := 16 + i) (ix_r i 16) (by omega) (by omega), rd_in (j := b + (16 + i)) (zer_ix b i 16 16 rfl) (by omega) (by omega), hR.1 (16 + i) (by omega)]
            have sgn : ∀ z : Int32, ∃ n1 g1, fX0_adaptZeros_b72 (fX0_adaptZeros_b19 (nI k) f1) (nI k) t bl (if nI k = (5 : Int32) then (9 : Int32) else 8) (nI i) x bl z n = some n1 ∧ fX7_comes_b414 (fX7_comes_b342 Z E Y t2 t3 t4 t5 w2 w3 w4 w5 p2 p3 p4 p5 f2) Z E Y t2 t3 t4 t5 w2 w3 w4 w5 p2 p3 p4 p5 (nI k) c (nI b) y t bl sr tr p a (nI i) x bl z g = fX7_comes_b453 Z E Y t2 t3 t4 t5 w2 w3 w4 w5 p2 p3 p4 p5 (nI k) c (nI b) y t bl sr tr p a g1 ∧ vA 24 b n1 g1 g0 ∧ ∀ j, (j < 8 ∨ 14 ≤ j) → n1 j = n j := by
              intro z
              rw [fX0_adaptZeros_b72, fX7_comes_b414]
              by_cases hz : bl = z
              · rw [br_t1 hz, br_t1 hz, fX0_adaptZeros_b83, fX7_comes_b425, nm_eq, nm_eq]; exact turn _
              · rw [br_f1 hz, br_f1 hz, fX0_adaptZeros_b83, fX7_comes_b425, nm_eq, nm_eq]; exact turn _
            by_cases hs : (0 : Int32) ≤ n (16 + i)
            · rw [br_t1 hs, br_t1 hs]; exact sgn 0
            · rw [br_f1 hs, br_f1 hs]; exact sgn 1
        by_cases h5 : nI k = (5 : Int32)
        · rw [br_t1 h5, fX7_comes_b380, nm_eq, if_pos h5]
          have := next (n (8 + i) - (n (8 + i) >>> ((9 : Int32) &&& 31)))
          rw [if_pos h5] at this
          exact this
        · rw [br_f1 h5, fX7_comes_b380, nm_eq, if_neg h5]
          have := next (n (8 + i) - (n (8 + i) >>> ((8 : Int32) &&& 31)))
          rw [if_neg h5] at this
          exact this
theorem zer_both (hk : 2 ≤ k ∧ k ≤ 5) (hb : b + 24 ≤ 192) (c y t bl sr tr p a : Int32) {n g : Nat → Int32} (hR : vA 24 b n g g0) : ∃ n1 g1, fX0_adaptZeros t bl (nI k) n = some n1 ∧ fX7_comes_b342 Z E Y t2 t3 t4 t5 w2 w3 w4 w5 p2 p3 p4 p5 1100 (nI k) c (nI b) y t bl sr tr p a (0 : Int32) g = fX7_comes_b453 Z E Y t2 t3 t4 t5 w2 w3 w4 w5 p2 p3 p4 p5 (nI k) c (nI b) y t bl sr tr p a g1 ∧ vA 24 b n1 g1 g0 ∧ ∀ j, (j < 8 ∨ 14 ≤ j) → n1 j = n j := by
  have h := zer_loop (t2 := t2) (t3 := t3) (t4 := t4) (t5 := t5) (w2 := w2) (w3 := w3) (w4 := w4) (w5 := w5) (p2 := p2) (p3 := p3) (p4 := p4) (p5 := p5) (Z := Z) (E := E) (Y := Y) hk hb c y t bl sr tr p a 1100 1100 0 n g hR (by omega) (by omega) (by omega)
  rw [show (fX0_adaptZeros t bl (nI k) n) = fX0_adaptZeros_b19 (nI k) 1100 t bl (if nI k = (5 : Int32) then (9 : Int32) else 8) (nI 0) n from by
    rw [fX0_adaptZeros]
    by_cases h5 : nI k = (5 : Int32)
    · rw [br_t1 h5, if_pos h5]; rfl
    · rw [br_f1 h5, if_neg h5]; rfl]
  exact h
theorem fgt_loop (hb : b + 24 ≤ 192) (c y t bl sr tr p a kk : Int32) : ∀ (f1 f2 i : Nat) (n g : Nat → Int32), vA 24 b n g g0 → i ≤ 6 → 7 ≤ f1 + i → 7 ≤ f2 + i →
    ∃ n1 g1, fX0_forgetFilters_b18 f1 (nI i) n = some n1 ∧ fX7_comes_b300 Z E Y t2 t3 t4 t5 w2 w3 w4 w5 p2 p3 p4 p5 f2 kk c (nI b) y t bl sr tr p a (nI (8 + i)) g = fX7_comes_b453 Z E Y t2 t3 t4 t5 w2 w3 w4 w5 p2 p3 p4 p5 kk c (nI b) y t bl sr tr p a g1 ∧ vA 24 b n1 g1 g0 ∧ ∀ j, (j < 8 ∨ 14 ≤ j) → n1 j = n j := by
  intro f1
  induction f1 with
  | zero => intro f2 i n g hR h1 h2 h3; exact absurd h2 (by omega)
  | succ f1 ih =>
    intro f2 i n g hR h1 h2 h3
    cases f2 with
    | zero => exact absurd h3 (by omega)
    | succ f2 =>
      rw [fX0_forgetFilters_b18, fX7_comes_b300]
      by_cases h6 : i = 6
      · subst h6
        refine ⟨n, g, br_t1 (by decide) _ _, br_t1 (by decide) _ _, hR, fun _ _ => rfl⟩
      · have hi : i < 6 := by omega
        have hn := not6 hi
        have hn2 : ¬ (14 : Int32) ≤ nI (8 + i) := by
          rw [nq_le, nI_toInt (by omega)]
          have : (14 : Int32).toInt = 14 := rfl
          omega
        rw [br_f1 hn, br_f1 hn2, wr_in (j := 8 + i) (ix_r i 8) (by omega) (by omega), wr_in (j := b + (8 + i)) (nI_add b (8 + i)) (by omega) (by omega), nm_eq, nm_eq, nI_1, nI_1]
        obtain ⟨n1, g1, q1, q2, q3, q4⟩ := ih f2 (i + 1) _ _ (hR.up (j := 8 + i) (by omega) 0) (by omega) (by omega) (by omega)
        exact ⟨n1, g1, q1, q2, q3, fun j hj => by rw [q4 j hj, pk_un (by omega)]⟩
theorem fgt_both (hb : b + 24 ≤ 192) (c y t bl sr tr p a kk : Int32) {n g : Nat → Int32} (hR : vA 24 b n g g0) : ∃ n1 g1, fX0_forgetFilters n = some n1 ∧ fX7_comes_b300 Z E Y t2 t3 t4 t5 w2 w3 w4 w5 p2 p3 p4 p5 1100 kk c (nI b) y t bl sr tr p a (6 : Int32) g = fX7_comes_b453 Z E Y t2 t3 t4 t5 w2 w3 w4 w5 p2 p3 p4 p5 kk c (nI b) y t bl sr tr p a g1 ∧ vA 24 b n1 g1 g0 ∧ n1 7 = 0 ∧ n1 5 = n 5 := by
  rw [fX0_forgetFilters, wr_in (j := 6) (nq_z 6) (by omega) (by omega), wr_in (j := 7) (nq_z 7) (by omega) (by omega)]
  rw [fX7_comes_b300, br_f1 (by decide), wr_in (j := b + 6) (ix_l b 6) (by omega) (by omega), nm_eq]
  rw [show (6 : Int32) + 1 = 7 from by decide, fX7_comes_b300, br_f1 (by decide), wr_in (j := b + 7) (ix_l b 7) (by omega) (by omega), nm_eq, show (7 : Int32) + 1 = nI (8 + 0) from by decide]
  obtain ⟨n1, g1, q1, q2, q3, q4⟩ := fgt_loop (t2 := t2) (t3 := t3) (t4 := t4) (t5 := t5) (w2 := w2) (w3 := w3) (w4 := w4) (w5 := w5) (p2 := p2) (p3 := p3) (p4 := p4) (p5 := p5) (Z := Z) (E := E) (Y := Y) hb c y t bl sr tr p a kk 1100 1098 0 _ _ ((hR.up (j := 6) (by omega) 0).up (j := 7) (by omega) 0) (by omega) (by omega) (by omega)
  exact ⟨n1, g1, q1, q2, q3, by rw [q4 7 (by omega), pk_us], by rw [q4 5 (by omega), pk_un (by omega), pk_un (by omega)]⟩
/-! FLOAT -/
theorem flo_both {t : Nat} (ht : t < 32768) (s : Int32) : ∃ v, fX0_floatOf (nI t) s = some v ∧ fX7_floated (nI t) s = some v := by
  unfold fX0_floatOf fX7_floated
  obtain ⟨r, hr, er, -⟩ := size_some (nI t)
  rw [eX7_size, er, cl_eq, cl_eq]
  have fin : ∀ x : Int32, ∃ v, fX0_floatOf_b30 s x = some v ∧ fX7_floated_b26 s x = some v := by
    intro x
    unfold fX0_floatOf_b30 fX7_floated_b26 pq_br
    split <;> exact ⟨_, rfl, rfl⟩
  by_cases h0 : t = 0
  · subst h0
    rw [br_t1 (by decide), br_t1 (by decide)]
    exact fin _
  · rw [br_f1 (nI_nle (by omega) (by omega)), br_f1 (nI_ne0 (by omega) (by omega)), br_f1 (by rw [nq_le, nI_toInt (by omega)]; have : (32768 : Int32).toInt = 32768 := rfl; omega), nm_eq]
    exact fin _
end ZER
