/-! the two states side by side, and every call between them -/
theorem tB : mt4 aiX7_init_49_0 aiX7_init_62_2 aiX7_init_87_6 aiX7_init_136_14 lB2 lB3 lB4 lB5 := ⟨by unfold mt; decide +kernel, by unfold mt; decide +kernel, by unfold mt; decide +kernel, by unfold mt; decide +kernel⟩
theorem tT : mt4 aiX7_init_239_1 aiX7_init_257_3 aiX7_init_289_7 aiX7_init_345_15 lT2 lT3 lT4 lT5 := ⟨by unfold mt; decide +kernel, by unfold mt; decide +kernel, by unfold mt; decide +kernel, by unfold mt; decide +kernel⟩
theorem tW : mt4 aiX7_init_455_1 aiX7_init_474_3 aiX7_init_505_7 aiX7_init_562_15 lW2 lW3 lW4 lW5 := ⟨by unfold mt; decide +kernel, by unfold mt; decide +kernel, by unfold mt; decide +kernel, by unfold mt; decide +kernel⟩
theorem tP : mt4 aiX7_init_675_1 aiX7_init_692_3 aiX7_init_722_7 aiX7_init_774_15 lP2 lP3 lP4 lP5 := ⟨by unfold mt; decide +kernel, by unfold mt; decide +kernel, by unfold mt; decide +kernel, by unfold mt; decide +kernel⟩
theorem tfc : mt aiX7_init_896_11 lCo := by unfold mt; decide +kernel
theorem tfs : mt aiX7_init_975_28 lSt := by unfold mt; decide +kernel
theorem tfr : mt aiX7_init_1177_31 lRoots := by unfold mt; decide +kernel
theorem tfu : mt aiX7_init_1403_15 lUps := by unfold mt; decide +kernel
theorem tfh : mt aiX7_init_1512_3 lHig := by unfold mt; decide +kernel
theorem tfl : mt aiX7_init_1544_15 lLw := by unfold mt; decide +kernel
theorem tfw : mt aiX7_init_1651_3 lHw := by unfold mt; decide +kernel
theorem t56 : mt aiX7_init_1683_15 lH56 := by unfold mt; decide +kernel
theorem t64 : mt aiX7_init_1797_31 lH64 := by unfold mt; decide +kernel
def RB (T : dk_T) (taped outs : Int32) (tape out : Nat → Int32) : Prop := ∃ t o : Nat, t ≤ 1000 ∧ o ≤ 1000 ∧ T.1.2 = nI t ∧ taped = nI t ∧ ag t T.1.1 tape ∧ T.2.2 = nI o ∧ outs = nI o ∧ ag o T.2.1 out
def Rel (S : dk_S) (M : md_S) : Prop := (∀ k, k < 4 → LR k (S.1 k) (M.2 0) (M.2 1) (M.2 2) (M.2 3) (M.2 4)) ∧ RB S.2 (M.1 6) (M.1 7) (M.2 5) (M.2 6) ∧ RF (M.1 8) (M.2 7) (M.2 8)
theorem ix4 (a : Int32) : (a < 0 ∨ nI 4 ≤ a) ∨ ∃ k, k < 4 ∧ a = nI k := by
  rcases pk_ix a (n := 4) (by omega) with g | g | g
  · exact Or.inl (Or.inl g)
  · exact Or.inl (Or.inr g)
  · exact Or.inr g
theorem in4 {k : Nat} (hk : k < 4) : ¬ (nI k < 0 ∨ nI 4 ≤ nI k) := fun h => h.elim (nI_pos (by omega)) (nI_ge hk (by omega))
theorem lines0 {k : Nat} {Sl : Nat → dk_Ln} {fk fse g b v : Nat → Int32} (h : ∀ j, j < 4 → LR j (Sl j) fk fse g b v) : ∀ j, j < 4 → LR j (va_up Sl k (Sl k) j) fk fse g b v := by
  intro j hj
  unfold va_up
  by_cases e : j = k
  · rw [if_pos e, ← e]; exact h j hj
  · rw [if_neg e]; exact h j hj
theorem lines2 {k s1 s2 : Nat} {Sl : Nat → dk_Ln} {L1 : dk_Ln} {fk fse g b v fk1 fse1 g1 b1 v1 g2 b2 v2 : Nat → Int32} (hk : LR k L1 fk1 fse1 g2 b2 v2) (h : ∀ j, j < 4 → LR j (Sl j) fk fse g b v) (hfk : ∀ p, p ≠ k → fk1 p = fk p) (hse : ∀ p, p ≠ k → fse1 p = fse p) (f1 : frm s1 g b v g1 b1 v1) (f2 : frm s2 g1 b1 v1 g2 b2 v2) (h1 : s1 = 2 * k ∨ s1 = 2 * k + 1) (h2 : s2 = 2 * k ∨ s2 = 2 * k + 1) : ∀ j, j < 4 → LR j (va_up Sl k L1 j) fk1 fse1 g2 b2 v2 := by
  intro j hj
  unfold va_up
  by_cases e : j = k
  · subst e; rw [if_pos rfl]; exact hk
  · rw [if_neg e]; exact ((h j hj).other (hfk j e) (hse j e) (by omega) (by omega) f1).other rfl rfl (by omega) (by omega) f2
theorem lines3 {k1 k2 : Nat} (hne : k1 ≠ k2) {Sl : Nat → dk_Ln} {L1 L2 : dk_Ln} {fk fse g b v fse1 g1 b1 v1 g2 b2 v2 : Nat → Int32} (hk : LR k1 L1 fk fse1 g2 b2 v2) (hk2 : LR k2 L2 fk fse1 g2 b2 v2) (h : ∀ j, j < 4 → LR j (Sl j) fk fse g b v) (hse : ∀ p, p ≠ k1 → fse1 p = fse p) (f1 : frm (2 * k1 + 1) g b v g1 b1 v1) (f2 : frm (2 * k2) g1 b1 v1 g2 b2 v2) : ∀ j, j < 4 → LR j (va_up (va_up Sl k1 L1) k2 L2 j) fk fse1 g2 b2 v2 := by
  intro j hj
  unfold va_up
  by_cases e : j = k2
  · subst e; rw [if_pos rfl]; exact hk2
  · rw [if_neg e]
    by_cases e1 : j = k1
    · subst e1; rw [if_pos rfl]; exact hk
    · rw [if_neg e1]; exact ((h j hj).other rfl (hse j e1) (by omega) (by omega) f1).other rfl rfl (by omega) (by omega) f2
theorem ok_kind : st_kind Rel := by
  intro S M a1 h
  rcases ix4 a1 with g | ⟨k, hk, rfl⟩
  · rw [DX6_kind, if_pos g, EX6_kind_o, fX6_kind_o, ol_o g, cl_eq, cl_eq, cl_eq, MX7_kind, fX7_kind, rk_line_o g, cl_eq, br_t1 rfl, cl_eq]
    exact ⟨_, _, _, rfl, rfl, h.1, h.2.1, h.2.2⟩
  · obtain ⟨k1, k2⟩ := kind_L hk (h.1 k hk) (M.1 0)
    rw [DX6_kind, if_neg (in4 hk), nI_clamp (by omega), EX6_kind_i, k1, cl_eq, cl_eq, MX7_kind, k2, cl_eq]
    exact ⟨_, _, _, rfl, rfl, lines0 h.1, h.2.1, h.2.2⟩
theorem ok_second : st_second Rel := by
  intro S M a1 h
  rcases ix4 a1 with g | ⟨k, hk, rfl⟩
  · rw [DX6_second, if_pos g, EX6_second_o, fX6_second_o, ol_o g, cl_eq, cl_eq, cl_eq, MX7_second, fX7_second, rk_open_o g, cl_eq, br_t1 rfl, cl_eq]
    exact ⟨_, _, _, rfl, rfl, h.1, h.2.1, h.2.2⟩
  · obtain ⟨r, k1, k2⟩ := second_L hk (h.1 k hk) (M.1 0)
    rw [DX6_second, if_neg (in4 hk), nI_clamp (by omega), EX6_second_i, k1, cl_eq, cl_eq, MX7_second, k2, cl_eq]
    exact ⟨_, _, _, rfl, rfl, lines0 h.1, h.2.1, h.2.2⟩
theorem ok_inner : st_inner Rel := by
  intro S M a1 a2 a3 h
  rcases ix4 a1 with g | ⟨k, hk, rfl⟩
  · rw [DX6_inner, if_pos g, EX6_inner_o, fX6_inner_o, ol_o g, cl_eq, cl_eq, cl_eq, MX7_inner, fX7_inner, rk_open_o g, cl_eq, br_t1 rfl, cl_eq]
    exact ⟨_, _, _, rfl, rfl, h.1, h.2.1, h.2.2⟩
  · obtain ⟨r, k1, k2⟩ := inner_L hk (h.1 k hk) a2 a3 (M.1 0)
    rw [DX6_inner, if_neg (in4 hk), nI_clamp (by omega), EX6_inner_i, k1, cl_eq, cl_eq, MX7_inner, k2, cl_eq]
    exact ⟨_, _, _, rfl, rfl, lines0 h.1, h.2.1, h.2.2⟩
theorem ok_say : st_say Rel := by
  intro S M a1 a2 h
  rcases ix4 a1 with g | ⟨k, hk, rfl⟩
  · rw [DX6_say, if_pos g, EX6_say_o, fX6_say_o, ol_o g, cl_eq, cl_eq, cl_eq, MX7_say, fX7_say, rk_open_o g, cl_eq, br_t1 rfl, cl_eq]
    exact ⟨_, _, _, rfl, rfl, h.1, h.2.1, h.2.2⟩
  · obtain ⟨r, se1, sz1, st1, z1, e1, y1, n1, lo1, hi1, x1, g1, k1, k2, k3, k4⟩ := say_L tB tT tW tP hk (h.1 k hk) a2 (M.1 0) (M.1 1) (M.1 2) (M.1 3)
    rw [DX6_say, if_neg (in4 hk), nI_clamp (by omega), EX6_say_i, k1, cl_eq, cl_eq, MX7_say, k2, cl_eq]
    exact ⟨_, _, _, rfl, rfl, lines2 k4 h.1 (fun _ _ => rfl) (fun _ _ => rfl) k3 (frm.rf _ _ _ _) (Or.inl rfl) (Or.inl rfl), h.2.1, h.2.2⟩
theorem ok_pair : st_pair Rel := by
  intro S M a1 a2 a3 h
  rcases ix4 a1 with g | ⟨k, hk, rfl⟩
  · rw [DX6_pair, if_pos g, EX6_pair_o, fX6_pair_o, ol_o g, cl_eq, cl_eq, cl_eq, MX7_pair, fX7_pair, rk_open_o g, cl_eq, br_t1 rfl, cl_eq]
    exact ⟨_, _, _, rfl, rfl, h.1, h.2.1, h.2.2⟩
  · obtain ⟨r, se1, sz1, st1, od1, ev1, n1, lo1, hi1, x1, b1, v1, k1, k2, k3, k4⟩ := pair_L tfc tfs tfr tfu tfh tfl tfw hk (h.1 k hk) a2 a3 (M.1 0) (M.1 4) (M.1 5)
    rw [DX6_pair, if_neg (in4 hk), nI_clamp (by omega), EX6_pair_i, k1, cl_eq, cl_eq, MX7_pair, k2, cl_eq]
    exact ⟨_, _, _, rfl, rfl, lines2 k4 h.1 (fun _ _ => rfl) (fun _ _ => rfl) k3 (frm.rf _ _ _ _) (Or.inl rfl) (Or.inl rfl), h.2.1, h.2.2⟩
theorem ok_hear : st_hear Rel := by
  intro S M a1 a2 h
  rcases ix4 a1 with g | ⟨k, hk, rfl⟩
  · rw [DX6_hear, if_pos g, EX6_hear_o, fX6_hear_o, ol_o g, cl_eq, cl_eq, cl_eq, MX7_hear, fX7_hear, rk_open_o g, cl_eq, br_t1 rfl, cl_eq]
    exact ⟨_, _, _, rfl, rfl, h.1, h.2.1, h.2.2⟩
  · obtain ⟨r, se1, sz1, st1, sec1, z1, e1, y1, od1, ev1, n1, lo1, hi1, x1, fse1, g1, b1, v1, k1, k2, k3, k4, k5⟩ := hear_L tT tW tP tfc tfr tfu tfh tfl tfw t56 t64 hk (h.1 k hk) a2 (M.1 0) (M.1 1) (M.1 2) (M.1 3) (M.1 4) (M.1 5)
    rw [DX6_hear, if_neg (in4 hk), nI_clamp (by omega), EX6_hear_i, k1, cl_eq, cl_eq, MX7_hear, k2, cl_eq]
    exact ⟨_, _, _, rfl, rfl, lines2 k5 h.1 (fun _ _ => rfl) k4 k3 (frm.rf _ _ _ _) (Or.inr rfl) (Or.inr rfl), h.2.1, h.2.2⟩
theorem ok_open : st_open Rel := by
  intro S M a1 a2 h
  rcases ix4 a1 with g | ⟨k, hk, rfl⟩
  · have e : fX6_open_o a1 a2 = some 0 := by
      rw [fX6_open_o]
      by_cases g0 : a1 < (0 : Int32)
      · rw [br_t1 g0]
      · rw [br_f1 g0, br_t1 (show (4 : Int32) ≤ a1 from g.resolve_left g0)]
    rw [DX6_open, if_pos g, EX6_open_o, e, cl_eq, cl_eq, MX7_open, fX7_open, rk_line_o g, cl_eq, br_t1 rfl, cl_eq]
    exact ⟨_, _, _, rfl, rfl, h.1, h.2.1, h.2.2⟩
  · obtain ⟨r, kd, bS, bH, sS, sH, nS, nH, loS, hiS, xS, loH, hiH, xH, fk1, fse1, g1, b1, v1, g2, b2, v2, k1, k2, k3, k4, k5, k6, k7⟩ := open_L hk (h.1 k hk) a2 (M.1 0)
    rw [DX6_open, if_neg (in4 hk), nI_clamp (by omega), EX6_open_i, k1, cl_eq, cl_eq, MX7_open, k2, cl_eq]
    exact ⟨_, _, _, rfl, rfl, lines2 k7 h.1 k3 k4 k5 k6 (Or.inl rfl) (Or.inr rfl), h.2.1, h.2.2⟩
theorem ok_feed : st_feed Rel := by
  intro S M a1 a2 a3 a4 a5 h
  obtain ⟨t, o, ht, ho, e1, e2, hT, e3, e4, hO⟩ := h.2.1
  obtain ⟨t1, y, r1, f1, k0, k1, k2, k3⟩ := feed_both ht a1 a2 a3 a4 a5 (M.1 0) hT
  rw [DX6_feed, EX6_feed, e1, k1, cl_eq, cl_eq, MX7_feed, e2, k2, cl_eq]
  exact ⟨_, _, _, rfl, rfl, h.1, ⟨t1, o, k0, ho, rfl, rfl, k3, e3, e4, hO⟩, h.2.2⟩
theorem ok_end : st_end Rel := by
  intro S M a1 h
  obtain ⟨t, o, ht, ho, e1, e2, hT, e3, e4, hO⟩ := h.2.1
  obtain ⟨t1, y, k0, k1, k2⟩ := end_both ht a1 (M.1 0)
  rw [DX6_end, EX6_end, e1, k1, cl_eq, cl_eq, MX7_end, e2, k2, cl_eq]
  exact ⟨_, _, _, rfl, rfl, h.1, ⟨t1, o, Nat.le_trans k0 ht, ho, rfl, rfl, hT.le k0, e3, e4, hO⟩, h.2.2⟩
theorem ok_take : st_take Rel := by
  intro S M h
  obtain ⟨t, o, ht, ho, e1, e2, hT, e3, e4, hO⟩ := h.2.1
  obtain ⟨r1, f1, k1, k2, k3⟩ := take_both ho (M.1 6) S.2.1.2 (M.1 0) S.2.1.1 (M.2 5) hO
  rw [DX6_take, EX6_take, e3, k1, cl_eq, cl_eq, MX7_take, e4, k2, cl_eq]
  exact ⟨_, _, _, rfl, rfl, h.1, ⟨o, o, ho, ho, rfl, rfl, k3, rfl, e4, hO⟩, h.2.2⟩
theorem ok_out : st_out Rel := by
  intro S M a1 h
  obtain ⟨t, o, ht, ho, e1, e2, hT, e3, e4, hO⟩ := id h.2.1
  obtain ⟨y, k1, k2⟩ := out_both ho a1 (M.1 0) hO
  rw [DX6_out, EX6_out, e3, k1, cl_eq, cl_eq, MX7_out, e4, k2, cl_eq]
  exact ⟨_, _, _, rfl, rfl, h.1, h.2.1, h.2.2⟩
theorem ok_pack : st_pack Rel := by
  intro S M a1 a2 h
  rcases ix4 a1 with g | ⟨k, hk, rfl⟩
  · rw [DX6_pack, if_pos g, EX6_pack_o, fX6_pack_o, ol_o g, cl_eq, cl_eq, cl_eq, MX7_pack, fX7_pack, rk_open_o g, cl_eq, br_t1 rfl, cl_eq]
    exact ⟨_, _, _, rfl, rfl, h.1, h.2.1, h.2.2⟩
  · obtain ⟨t, o, ht, ho, e1, e2, hT, e3, e4, hO⟩ := h.2.1
    obtain ⟨w, t1, o1, se1, sz1, st1, z1, e1', y1, od1, ev1, n1, lo1, hi1, x1, g1, b1, v1, r1, f1, k0, k0', k1, k2, k3, k4, k5⟩ := pack_L tB tT tW tP tfc tfs tfr tfu tfh tfl tfw hk ht ho hT hO (h.1 k hk) a2 (M.1 0) (M.1 1) (M.1 2) (M.1 3) (M.1 4) (M.1 5)
    rw [DX6_pack, if_neg (in4 hk), nI_clamp (by omega), EX6_pack_i, e1, e3, k1, cl_eq, cl_eq, MX7_pack, e2, e4, k2, cl_eq]
    exact ⟨_, _, _, rfl, rfl, lines2 k5 h.1 (fun _ _ => rfl) (fun _ _ => rfl) k3 (frm.rf _ _ _ _) (Or.inl rfl) (Or.inl rfl), ⟨t1, o1, Nat.le_trans k0 ht, k0', rfl, rfl, hT.le k0, rfl, rfl, k4⟩, h.2.2⟩
theorem ok_unpack : st_unpack Rel := by
  intro S M a1 a2 a3 h
  rcases ix4 a1 with g | ⟨k, hk, rfl⟩
  · rw [DX6_unpack, if_pos g, EX6_unpack_o, fX6_unpack_o, ol_o g, cl_eq, cl_eq, cl_eq, MX7_unpack, fX7_unpack, rk_open_o g, cl_eq, br_t1 rfl, cl_eq]
    exact ⟨_, _, _, rfl, rfl, h.1, h.2.1, h.2.2⟩
  · obtain ⟨t, o, ht, ho, e1, e2, hT, e3, e4, hO⟩ := h.2.1
    obtain ⟨w, t1, o1, se1, sz1, st1, sec1, z1, e1', y1, od1, ev1, n1, lo1, hi1, x1, fse1, g1, b1, v1, r1, f1, k0, k0', k1, k2, k3, k4, k5, k6⟩ := unpack_L tT tW tP tfc tfr tfu tfh tfl tfw t56 t64 hk ht ho hT hO (h.1 k hk) a2 a3 (M.1 0) (M.1 1) (M.1 2) (M.1 3) (M.1 4) (M.1 5)
    rw [DX6_unpack, if_neg (in4 hk), nI_clamp (by omega), EX6_unpack_i, e1, e3, k1, cl_eq, cl_eq, MX7_unpack, e2, e4, k2, cl_eq]
    exact ⟨_, _, _, rfl, rfl, lines2 k6 h.1 (fun _ _ => rfl) k4 k3 (frm.rf _ _ _ _) (Or.inr rfl) (Or.inr rfl), ⟨t1, o1, Nat.le_trans k0 ht, k0', rfl, rfl, hT.le k0, rfl, rfl, k5⟩, h.2.2⟩
theorem ok_law : st_law Rel := by
  intro S M a1 a2 a3 h
  obtain ⟨r, f1, l1, g1, k1, k2, k3⟩ := law_both h.2.2 a1 a2 a3 (M.1 0)
  rw [DX6_law, EX6_law, k1, cl_eq, cl_eq, MX7_law, k2, cl_eq]
  exact ⟨_, _, _, rfl, rfl, h.1, h.2.1, k3⟩
theorem pass_ro {a1 a2 : Int32} (a3 : Int32) (M : md_S) (h : (a1 < 0 ∨ nI 4 ≤ a1) ∨ ((∃ k, k < 4 ∧ a1 = nI k ∧ (M.2 0 k = -100000 ∨ ∃ q, q < 9 ∧ M.2 0 k = nI q)) ∧ (a2 < 0 ∨ nI 4 ≤ a2))) : MX7_pass a1 a2 a3 M = some (-100000, (va_up (va_up (va_up (va_up (va_up (va_up (M.1) 0 0) 1 (M.1 1)) 2 (M.1 2)) 3 (M.1 3)) 4 (M.1 4)) 5 (M.1 5), va_up (va_up (va_up (va_up (M.2) 1 (M.2 1)) 2 (M.2 2)) 3 (M.2 3)) 4 (M.2 4))) := by
  rcases h with g | ⟨⟨k, hk, rfl, hq⟩, g2⟩
  · rw [MX7_pass, fX7_pass, rk_open_o g, cl_eq, br_t1 rfl, cl_eq]
  · rw [MX7_pass, fX7_pass, rk_open hk]
    rcases hq with c | ⟨q, hq, hf⟩
    · rw [if_pos c, cl_eq, br_t1 rfl, cl_eq]
    · rw [if_neg (by rw [hf]; exact ne_NONE q hq), cl_eq, br_f1 one]
      rcases has_both hk hq hf a3 with ⟨s1, s2⟩ | ⟨c, hc, -, s1, s2⟩
      · rw [s2, cl_eq, br_t1 rfl, cl_eq]
      · rw [s2, cl_eq, br_f1 one, rk_open_o g2, cl_eq, br_t1 rfl, cl_eq]
theorem ok_pass : st_pass Rel := by
  intro S M a1 a2 a3 h
  rcases ix4 a1 with g1 | ⟨k1, hk1, rfl⟩
  · rcases ix4 a2 with g2 | ⟨k2, hk2, rfl⟩
    · rw [DX6_pass, if_pos g1, if_pos g2, EX6_pass_oo, fX6_pass_oo, ol_o g1, cl_eq, ol_o g2, cl_eq, cl_eq, cl_eq, pass_ro a3 M (Or.inl g1)]
      exact ⟨_, _, _, rfl, rfl, h.1, h.2.1, h.2.2⟩
    · rw [DX6_pass, if_pos g1, if_neg (in4 hk2), nI_clamp (by omega), EX6_pass_oi, fX6_pass_oi, ol_o g1, cl_eq, ol_i hk2, cl_eq, br_s, cl_eq, cl_eq, pass_ro a3 M (Or.inl g1)]
      exact ⟨_, _, _, rfl, rfl, lines0 h.1, h.2.1, h.2.2⟩
  · rcases ix4 a2 with g2 | ⟨k2, hk2, rfl⟩
    · have hq : M.2 0 k1 = -100000 ∨ ∃ q, q < 9 ∧ M.2 0 k1 = nI q := by
        obtain ⟨e0, c | ⟨q, hq, eq, -⟩⟩ := h.1 k1 hk1
        · exact Or.inl (e0.trans c)
        · exact Or.inr ⟨q, hq, e0.trans eq⟩
      rw [DX6_pass, if_neg (in4 hk1), if_pos g2, nI_clamp (by omega), EX6_pass_io, fX6_pass_io, ol_i hk1, cl_eq, ol_o g2, br_s, cl_eq, cl_eq, cl_eq, pass_ro a3 M (Or.inr ⟨⟨k1, hk1, rfl, hq⟩, g2⟩)]
      exact ⟨_, _, _, rfl, rfl, lines0 h.1, h.2.1, h.2.2⟩
    · by_cases e : k1 = k2
      · subst e
        obtain ⟨r, se1, sz1, st1, sec1, se2, sz2, st2, z1, e1, y1, od1, ev1, n1, lo1, hi1, x1, n2, lo2, hi2, x2, fse1, g1, bb1, v1, g2, bb2, v2, m1, m2, m3, m4, m5, m6⟩ := pass_is_L tB tT tW tP tfc tfs tfr tfu tfh tfl tfw t56 t64 hk1 (h.1 k1 hk1) a3 (M.1 0) (M.1 1) (M.1 2) (M.1 3) (M.1 4) (M.1 5)
        rw [DX6_pass, if_neg (in4 hk1), if_neg (in4 hk1), if_pos rfl, nI_clamp (by omega), EX6_pass_is, m1, cl_eq, cl_eq, MX7_pass, m2, cl_eq]
        exact ⟨_, _, _, rfl, rfl, lines2 m6 h.1 (fun _ _ => rfl) m5 m3 m4 (Or.inr rfl) (Or.inl rfl), h.2.1, h.2.2⟩
      · obtain ⟨r, se1, sz1, st1, sec1, se2, sz2, st2, z1, e1, y1, od1, ev1, n1, lo1, hi1, x1, n2, lo2, hi2, x2, fse1, g1, bb1, v1, g2, bb2, v2, m1, m2, m3, m4, m5, m6, m7⟩ := pass_ii_L tB tT tW tP tfc tfs tfr tfu tfh tfl tfw t56 t64 hk1 hk2 e (h.1 k1 hk1) (h.1 k2 hk2) a3 (M.1 0) (M.1 1) (M.1 2) (M.1 3) (M.1 4) (M.1 5)
        rw [DX6_pass, if_neg (in4 hk1), if_neg (in4 hk2), if_neg (fun z => e ((nI_eq (by omega) (by omega)).mp z)), nI_clamp (n := k1) (by omega), nI_clamp (n := k2) (by omega), EX6_pass_ii, m1, cl_eq, cl_eq, MX7_pass, m2, cl_eq]
        exact ⟨_, _, _, rfl, rfl, lines3 e m6 m7 h.1 m5 m3 m4, h.2.1, h.2.2⟩
theorem st_ok : st_all Rel := ⟨ok_open, ok_kind, ok_say, ok_pair, ok_hear, ok_second, ok_inner, ok_feed, ok_end, ok_take, ok_out, ok_pack, ok_unpack, ok_pass, ok_law⟩
theorem rel_0 : Rel dk_S0 md_M0 := ⟨fun k hk => ⟨(by decide +kernel : ∀ k, k < 4 → md_M0.2 0 k = (-100000 : Int32)) k hk, Or.inl rfl⟩, ⟨0, 0, by omega, by omega, rfl, rfl, fun j hj => absurd hj (by omega), rfl, rfl, fun j hj => absurd hj (by omega)⟩, Or.inl rfl⟩
