theorem nm_eq {α β : Type} (e : α) (k : α → Option β) : pq_nm e k = k e := rfl
theorem cl_eq {α β : Type} (a : α) (k : α → Option β) : pq_cl (some a) k = k a := rfl
theorem br_t1 {β : Type} {c : Prop} [Decidable c] (h : c) (a b : Option β) : pq_br c a b = a := if_pos h
theorem br_f1 {β : Type} {c : Prop} [Decidable c] (h : ¬ c) (a b : Option β) : pq_br c a b = b := if_neg h
theorem nq_sub192 (v : Int32) : v - (192 : Int32) = v + (-192 : Int32) := Int32.sub_eq_add_neg v 192
theorem nq_sub128 (v : Int32) : v - (128 : Int32) = v + (-128 : Int32) := Int32.sub_eq_add_neg v 128
section ADA
variable {b : Nat} {n g g0 : Nat → Int32}
theorem A1_key (hR : vA 24 b n g g0) (hb : b + 24 ≤ 192) (a x : Int32) (ha : -12288 ≤ a.toInt ∧ a.toInt ≤ 12288) : ∃ n2 g2, fX0_adaptA1_b49 x (upd n 7 a) = some n2 ∧ fX7_adapts_b258 (nI b) x a (upd g (b + 7) a) = some (a, g2) ∧ vA 24 b n2 g2 g0 ∧ n2 7 = a ∧ n2 5 = n 5 := by
  have r7 : (upd n 7 a) 7 = a := pk_us
  have hR1 := hR.up (j := 7) (by omega) a
  obtain ⟨l1, l2, l3⟩ := lims ha
  have hcut : fX7_cut x (a - (15360 : Int32)) ((15360 : Int32) - a) = some (tCut x (-((15360 : Int32) - a)) ((15360 : Int32) - a)) := by
    rw [eX7_cut _ _ _ (by rw [nq_le]; omega), l3]
  refine ⟨upd (upd n 7 a) 6 (tCut x (-((15360 : Int32) - a)) ((15360 : Int32) - a)), upd (upd g (b + 7) a) (b + 6) (tCut x (-((15360 : Int32) - a)) ((15360 : Int32) - a)), ?_, ?_, hR1.up (by omega) _, ?_, ?_⟩
  · unfold fX0_adaptA1_b49
    rw [rd_in (j := 7) (nq_z 7) (by omega) (by omega), r7]
    simp only [pq_nm]
    rw [eX6_cut]
    simp only [pq_cl, Option.bind_some]
    rw [wr_in (j := 6) (nq_z 6) (by omega) (by omega)]
  · unfold fX7_adapts_b258
    rw [hcut]
    simp only [pq_cl, Option.bind_some]
    rw [wr_in (j := b + 6) (ix_l b 6) (by omega) (by omega)]
  · rw [pk_un (by omega)]; exact r7
  · rw [pk_un (by omega), pk_un (by omega)]
theorem A1_both (hR : vA 24 b n g g0) (hb : b + 24 ≤ 192) (ds a : Int32) (ha : -12288 ≤ a.toInt ∧ a.toInt ≤ 12288) : ∃ n2 g2, fX0_adaptA1 ds (upd n 7 a) = some n2 ∧ fX7_adapts_b203 (nI b) (tSgn ds) ds (n 6) a g = some (a, g2) ∧ vA 24 b n2 g2 g0 ∧ n2 7 = a ∧ n2 5 = n 5 := by
  have r6 : (upd n 7 a) 6 = n 6 := pk_un (by omega)
  have r22 : (upd n 7 a) 22 = n 22 := pk_un (by omega)
  have hR1 := hR.up (j := 7) (by omega) a
  have s22 : (upd g (b + 7) a) (b + 22) = n 22 := (hR1.1 22 (by omega)).trans r22
  unfold fX0_adaptA1 fX7_adapts_b203
  rw [rd_in (j := 6) (nq_z 6) (by omega) (by omega), rd_in (j := 6) (nq_z 6) (by omega) (by omega), wr_in (j := b + 7) (ix_l b 7) (by omega) (by omega), r6]
  simp only [pq_nm, pq_br]
  by_cases h0 : ds = (0 : Int32)
  · rw [if_pos h0, if_pos h0]
    exact A1_key hR hb a _ ha
  · rw [if_neg h0, if_neg h0, eX6_sign, rd_in (j := b + 22) (ix_l b 22) (by omega) (by omega), s22]
    simp only [pq_cl, Option.bind_some]
    rw [rd_in (j := 22) (nq_z 22) (by omega) (by omega), r22]
    by_cases h1 : tSgn ds = n 22
    · rw [if_pos h1, if_pos h1]
      rw [fX0_adaptA1_b47, fX7_adapts_b256, nm_eq]
      exact A1_key hR hb a _ ha
    · rw [if_neg h1, if_neg h1]
      rw [fX0_adaptA1_b47, fX7_adapts_b256, nm_eq]
      rw [nq_sub192]
      exact A1_key hR hb a _ ha
theorem A2_nudge (hR : vA 24 b n g g0) (hb : b + 24 ≤ 192) (ds v a : Int32) (u : Int32) : ∃ a', (-12288 ≤ a'.toInt ∧ a'.toInt ≤ 12288) ∧ fX0_adaptA2_b100 (a + u) (tSgn ds) n = some (upd n 7 a') ∧ fX7_adapts_b96 (nI b) (tSgn ds) ds v a u g = fX7_adapts_b203 (nI b) (tSgn ds) ds v a' g := by
  unfold fX0_adaptA2_b100 fX7_adapts_b96
  rw [rd_in (j := 23) (nq_z 23) (by omega) (by omega)]
  simp only [pq_nm]
  rw [rd_in (j := b + 23) (ix_l b 23) (by omega) (by omega), hR.1 23 (by decide)]
  generalize a + u = q
  simp only [pq_br]
  by_cases h1 : tSgn ds = n 23
  · rw [if_pos h1, if_pos h1]
    obtain ⟨w, e1, e2, e3⟩ := nudge_rng q (d := 128) (Or.inl rfl)
    refine ⟨w, ⟨e2, e3⟩, ?_, ?_⟩
    · unfold fX0_adaptA2_b120 fX0_adaptA2_b124
      rw [e1]
      simp only [pq_cl, Option.bind_some]
      rw [wr_in (j := 7) (nq_z 7) (by omega) (by omega)]
    · unfold fX7_adapts_b117 fX7_adapts_b133 fX7_adapts_b149 fX7_adapts_b201
      unfold fX0_nudgedA2 at e1
      simp only [pq_br] at e1 ⊢
      rw [if_neg (by decide), if_neg (by decide)]
      rw [show ((-12288 : Int32) - 128) = -12416 from by decide, show ((12288 : Int32) - 128) = 12160 from by decide] at e1
      by_cases h2 : (-12416 : Int32) < q
      · rw [if_pos h2] at e1 ⊢
        by_cases h3 : q < (12160 : Int32)
        · rw [if_pos h3] at e1 ⊢
          rw [if_neg (by decide), Option.some.inj e1]
        · rw [if_neg h3] at e1 ⊢
          rw [Option.some.inj e1]
      · rw [if_neg h2] at e1 ⊢
        rw [Option.some.inj e1]
  · rw [if_neg h1, if_neg h1]
    obtain ⟨w, e1, e2, e3⟩ := nudge_rng q (d := -128) (Or.inr rfl)
    refine ⟨w, ⟨e2, e3⟩, ?_, ?_⟩
    · unfold fX0_adaptA2_b120 fX0_adaptA2_b124
      rw [e1]
      simp only [pq_cl, Option.bind_some]
      rw [wr_in (j := 7) (nq_z 7) (by omega) (by omega)]
    · unfold fX7_adapts_b117 fX7_adapts_b133 fX7_adapts_b149 fX7_adapts_b201
      unfold fX0_nudgedA2 at e1
      simp only [pq_br] at e1 ⊢
      rw [if_pos (by decide), if_pos (by decide)]
      rw [show ((-12288 : Int32) - (-128)) = -12160 from by decide, show ((12288 : Int32) - (-128)) = 12416 from by decide] at e1
      by_cases h2 : (-12160 : Int32) < q
      · rw [if_pos h2] at e1 ⊢
        by_cases h3 : q < (12416 : Int32)
        · rw [if_pos h3] at e1 ⊢
          rw [if_pos (by decide), nq_sub128, Option.some.inj e1]
        · rw [if_neg h3] at e1 ⊢
          rw [Option.some.inj e1]
      · rw [if_neg h2] at e1 ⊢
        rw [Option.some.inj e1]
theorem A2_u (hR : vA 24 b n g g0) (hb : b + 24 ≤ 192) (ds v a u : Int32) : ∃ a', (-12288 ≤ a'.toInt ∧ a'.toInt ≤ 12288) ∧ fX0_adaptA2_b57 a (tSgn ds) u n = some (upd n 7 a') ∧ fX7_adapts_b60 (nI b) (tSgn ds) ds v a u g = fX7_adapts_b203 (nI b) (tSgn ds) ds v a' g := by
  unfold fX0_adaptA2_b57 fX7_adapts_b60
  simp only [pq_br, pq_nm]
  by_cases h1 : (-8191 : Int32) ≤ u
  · rw [if_pos h1, if_pos h1]
    by_cases h2 : u ≤ (8191 : Int32)
    · rw [if_pos h2, if_pos h2]
      exact A2_nudge hR hb ds v a _
    · rw [if_neg h2, if_neg h2]
      exact A2_nudge hR hb ds v a _
  · rw [if_neg h1, if_neg h1]
    exact A2_nudge hR hb ds v a _
theorem A2_both (hR : vA 24 b n g g0) (hb : b + 24 ≤ 192) (ds : Int32) (hi : -12288 ≤ (n 7).toInt ∧ (n 7).toInt ≤ 12288) : ∃ a, (-12288 ≤ a.toInt ∧ a.toInt ≤ 12288) ∧ fX0_adaptA2 ds n = some (upd n 7 a) ∧ fX7_adapts (nI b) (tSgn ds) ds g = fX7_adapts_b203 (nI b) (tSgn ds) ds (n 6) a g := by
  unfold fX0_adaptA2 fX7_adapts
  rw [rd_in (j := 7) (nq_z 7) (by omega) (by omega), rd_in (j := 7) (nq_z 7) (by omega) (by omega), rd_in (j := b + 6) (ix_l b 6) (by omega) (by omega), rd_in (j := b + 7) (ix_l b 7) (by omega) (by omega), rd_in (j := b + 7) (ix_l b 7) (by omega) (by omega), hR.1 6 (by decide), hR.1 7 (by decide)]
  simp only [pq_nm, pq_br]
  by_cases h0 : ds = (0 : Int32)
  · rw [if_pos h0, if_pos h0]
    refine ⟨_, leak_rng hi, ?_, rfl⟩
    unfold fX0_adaptA2_b124
    rw [wr_in (j := 7) (nq_z 7) (by omega) (by omega)]
  · rw [if_neg h0, if_neg h0, eX6_sign, rd_in (j := b + 22) (ix_l b 22) (by omega) (by omega), hR.1 22 (by decide)]
    simp only [pq_cl, Option.bind_some]
    rw [rd_in (j := 22) (nq_z 22) (by omega) (by omega)]
    by_cases h1 : tSgn ds = n 22
    · rw [if_pos h1, if_pos h1, rd_in (j := 6) (nq_z 6) (by omega) (by omega)]
      exact A2_u hR hb ds _ _ _
    · rw [if_neg h1, if_neg h1, rd_in (j := 6) (nq_z 6) (by omega) (by omega)]
      exact A2_u hR hb ds _ _ _
theorem adapts_both (hR : vA 24 b n g g0) (hb : b + 24 ≤ 192) (ds : Int32) (hi : -12288 ≤ (n 7).toInt ∧ (n 7).toInt ≤ 12288) : ∃ n1 n2 g2 a, fX0_adaptA2 ds n = some n1 ∧ fX0_adaptA1 ds n1 = some n2 ∧ fX7_adapts (nI b) (tSgn ds) ds g = some (a, g2) ∧ vA 24 b n2 g2 g0 ∧ n2 7 = a ∧ (-12288 ≤ a.toInt ∧ a.toInt ≤ 12288) ∧ n2 5 = n 5 := by
  obtain ⟨a, h1, h2, h3⟩ := A2_both hR hb ds hi
  obtain ⟨n2, g2, k1, k2, k3, k4, k5⟩ := A1_both hR hb ds a h1
  exact ⟨_, n2, g2, a, h2, k1, h3.trans k2, k3, k4, h1, k5⟩
end ADA
