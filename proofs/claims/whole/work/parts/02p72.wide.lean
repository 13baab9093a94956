/-! G.722: the sieve, the codes, both bands -/
theorem rd_cg {β : Type} {n : Nat} {f f' : Nat → Int32} (h : ∀ j, j < n → f j = f' j) (hn : n ≤ 2000) (i : Int32) (k : Int32 → Option β) : pq_rd n f i k = pq_rd n f' i k := by
  unfold pq_rd
  by_cases hc : i < 0 ∨ n ≤ i.toNatClampNeg
  · rw [if_pos hc, if_pos hc]
  · rw [if_neg hc, if_neg hc, h _ (by omega)]
abbrev lCo : List Int32 := [3, -11, 12, 32, -210, 951, 3876, -805, 362, -156, 53, -11]
abbrev lSt : List Int32 := [35, 72, 110, 150, 190, 233, 276, 323, 370, 422, 473, 530, 587, 650, 714, 786, 858, 940, 1023, 1121, 1219, 1339, 1458, 1612, 1765, 1980, 2195, 2557, 2919]
abbrev lUps : List Int32 := [0, -20456, -12896, -8968, -6288, -4240, -2584, -1200, 20456, 12896, 8968, 6288, 4240, 2584, 1200, 0]
abbrev lHig : List Int32 := [-7408, -1616, 7408, 1616]
abbrev lLw : List Int32 := [-60, 3042, 1198, 538, 334, 172, 58, -30, 3042, 1198, 538, 334, 172, 58, -30, -60]
abbrev lHw : List Int32 := [798, -214, 798, -214]
abbrev lH56 : List Int32 := [-280, -280, -23352, -17560, -14120, -11664, -9752, -8184, -6864, -5712, -4696, -3784, -2960, -2208, -1520, -880]
abbrev lH64 : List Int32 := [-136, -136, -136, -136, -24808, -21904, -19008, -16704, -14984, -13512, -12280, -11192, -10232, -9360, -8576, -7856, -7192, -6576, -6000, -5456, -4944, -4464, -4008, -3576, -3168, -2776, -2400, -2032, -1688, -1360, -1040, -728]
section WIDE
variable {s : Nat} {v0 fc : Nat → Int32}
theorem not_le_nI {i m : Nat} {c : Int32} (hc : c = nI m) (h : i < m) (hm : m < 2 ^ 31) : ¬ c ≤ nI i := by
  rw [hc, nI_leI hm (by omega)]
  omega
theorem sv_sum (hfc : mt fc lCo) {x v : Nat → Int32} (hx : ∀ j, j < 24 → v (s + j) = x j) (hs : s + 24 ≤ 192) : ∀ (k f1 f2 f3 : Nat) (o e : Int32), k ≤ 12 → k < f1 → k < f2 → k < f3 →
    ∃ o1 e1, fX5_evenSum_b4 x f1 o (nI (12 - k)) = some o1 ∧ fX5_oddSum_b4 x f2 e (nI (12 - k)) = some e1 ∧ fX7_sieves_b79 fc f3 (nI s) (nI (12 - k)) o e v = some (o1, e1, v) := by
  intro k
  induction k with
  | zero =>
    intro f1 f2 f3 o e h1 h2 h3 h4
    obtain ⟨f1, rfl⟩ : ∃ z, f1 = z + 1 := ⟨f1 - 1, by omega⟩
    obtain ⟨f2, rfl⟩ : ∃ z, f2 = z + 1 := ⟨f2 - 1, by omega⟩
    obtain ⟨f3, rfl⟩ : ∃ z, f3 = z + 1 := ⟨f3 - 1, by omega⟩
    refine ⟨o, e, ?_, ?_, ?_⟩
    · rw [fX5_evenSum_b4]; exact br_t1 (by decide) _ _
    · rw [fX5_oddSum_b4]; exact br_t1 (by decide) _ _
    · rw [fX7_sieves_b79]; exact br_t1 (by decide) _ _
  | succ k ih =>
    intro f1 f2 f3 o e h1 h2 h3 h4
    obtain ⟨f1, rfl⟩ : ∃ z, f1 = z + 1 := ⟨f1 - 1, by omega⟩
    obtain ⟨f2, rfl⟩ : ∃ z, f2 = z + 1 := ⟨f2 - 1, by omega⟩
    obtain ⟨f3, rfl⟩ : ∃ z, f3 = z + 1 := ⟨f3 - 1, by omega⟩
    generalize hi : 12 - (k + 1) = i
    have hi12 : i < 12 := by omega
    have hn : ¬ (12 : Int32) ≤ nI i := not_le_nI (m := 12) rfl hi12 (by omega)
    have e2 : (2 : Int32) * nI i = nI (2 * i) := pk_mul 2 i
    have e11 : (11 : Int32) - nI i = nI (11 - i) := pk_sub (a := 11) (by omega)
    have c1 : fc i = pq_t_COEFFICIENTS i := by rw [hfc i hi12]; exact (by decide : ∀ i, i < 12 → lCo.getD i 0 = pq_t_COEFFICIENTS i) i hi12
    have c2 : fc (11 - i) = pq_t_COEFFICIENTS (11 - i) := by rw [hfc (11 - i) (show 11 - i < 12 by omega)]; exact (by decide : ∀ i, i < 12 → lCo.getD i 0 = pq_t_COEFFICIENTS i) (11 - i) (by omega)
    obtain ⟨o1, e1, q1, q2, q3⟩ := ih f1 f2 f3 (o + x (2 * i) * pq_t_COEFFICIENTS i) (e + x (2 * i + 1) * pq_t_COEFFICIENTS (11 - i)) (by omega) (by omega) (by omega) (by omega)
    rw [show 12 - k = i + 1 by omega] at q1 q2 q3
    refine ⟨o1, e1, ?_, ?_, ?_⟩
    · rw [fX5_evenSum_b4, br_f1 hn, rd_in (j := 2 * i) e2 (by omega) (by omega), rd_in (j := i) rfl (by omega) (by omega), nm_eq, nm_eq, nI_1]
      exact q1
    · rw [fX5_oddSum_b4, br_f1 hn, e2, rd_in (j := 2 * i + 1) (nI_1 _) (by omega) (by omega), rd_in (j := 11 - i) e11 (by omega) (by omega), nm_eq, nm_eq, nI_1]
      exact q2
    · rw [fX7_sieves_b79, br_f1 hn, e2, rd_in (j := s + 2 * i) (nI_add s (2 * i)) (by omega) (by omega), rd_in (j := i) rfl (by omega) (by omega), nm_eq, hx (2 * i) (by omega), c1, nI_add, rd_in (j := s + (2 * i + 1)) (by rw [nI_1, Nat.add_assoc]) (by omega) (by omega), rd_in (j := 11 - i) e11 (by omega) (by omega), nm_eq, nm_eq, hx (2 * i + 1) (by omega), c2, nI_1]
      exact q3
theorem sv_push (hs : s + 24 ≤ 192) (a w : Int32) (od ev : Int32) : ∀ (k f1 f2 : Nat) (x v : Nat → Int32), vA 24 s x v v0 → k ≤ 22 → k < f1 → k < f2 →
    ∃ x1 v1, fX5_push_b2 f1 a w (nI (22 - k)) x = some x1 ∧ fX7_sieves_b9 fc f2 a w (nI s) (nI (22 - k)) od ev v = fX7_sieves_b79 fc 1100 (nI s) (0 : Int32) (0 : Int32) (0 : Int32) v1 ∧ vA 24 s x1 v1 v0 := by
  intro k
  induction k with
  | zero =>
    intro f1 f2 x v hR h1 h2 h3
    obtain ⟨f1, rfl⟩ : ∃ z, f1 = z + 1 := ⟨f1 - 1, by omega⟩
    obtain ⟨f2, rfl⟩ : ∃ z, f2 = z + 1 := ⟨f2 - 1, by omega⟩
    refine ⟨upd (upd x 22 a) 23 w, upd (upd v (s + 22) a) (s + 23) w, ?_, ?_, (hR.up (j := 22) (by omega) a).up (j := 23) (by omega) w⟩
    · rw [fX5_push_b2, br_t1 (show (22 : Int32) ≤ nI (22 - 0) by decide), wr_in (j := 22) (nq_z 22) (by omega) (by omega), wr_in (j := 23) (nq_z 23) (by omega) (by omega)]
    · rw [fX7_sieves_b9, br_t1 (show (22 : Int32) ≤ nI (22 - 0) by decide), wr_in (j := s + 22) (ix_l s 22) (by omega) (by omega), wr_in (j := s + 23) (ix_l s 23) (by omega) (by omega)]
  | succ k ih =>
    intro f1 f2 x v hR h1 h2 h3
    obtain ⟨f1, rfl⟩ : ∃ z, f1 = z + 1 := ⟨f1 - 1, by omega⟩
    obtain ⟨f2, rfl⟩ : ∃ z, f2 = z + 1 := ⟨f2 - 1, by omega⟩
    generalize hi : 22 - (k + 1) = i
    have hi22 : i < 22 := by omega
    have hn : ¬ (22 : Int32) ≤ nI i := not_le_nI (m := 22) rfl hi22 (by omega)
    obtain ⟨x1, v1, q1, q2, q3⟩ := ih f1 f2 _ _ (hR.up (j := i) (by omega) (x (i + 2))) (by omega) (by omega) (by omega)
    rw [show 22 - k = i + 1 by omega] at q1 q2
    refine ⟨x1, v1, ?_, ?_, q3⟩
    · rw [fX5_push_b2, br_f1 hn, rd_in (j := i + 2) (ix_l i 2) (by omega) (by omega), wr_in (i := nI i) (j := i) rfl (by omega) (by omega), nm_eq, nI_1]
      exact q1
    · rw [fX7_sieves_b9, br_f1 hn, nI_add, rd_in (j := s + (i + 2)) (by rw [show nI (s + i) + (2 : Int32) = nI (s + i + 2) from nI_add _ 2, Nat.add_assoc]) (by omega) (by omega), wr_in (i := nI (s + i)) (j := s + i) rfl (by omega) (by omega), nm_eq, hR.1 (i + 2) (by omega), nI_1]
      exact q2
/-- the sieve, with both sums -/
theorem sv_both (hfc : mt fc lCo) (hs : s + 24 ≤ 192) (a w od ev : Int32) {sd : Int32} (hsd : (24 : Int32) * sd = nI s) {x v : Nat → Int32} (hR : vA 24 s x v v0) :
    ∃ x1 v1 o e, fX5_push a w x = some x1 ∧ fX5_evenSum x1 = some o ∧ fX5_oddSum x1 = some e ∧ fX7_sieves sd a w fc od ev v = some (o, e, v1) ∧ vA 24 s x1 v1 v0 := by
  obtain ⟨x1, v1, q1, q2, q3⟩ := sv_push (fc := fc) hs a w od ev 22 1100 1100 x v hR (by omega) (by omega) (by omega)
  obtain ⟨o, e, k1, k2, k3⟩ := sv_sum hfc q3.1 hs 12 1100 1100 1100 0 0 (by omega) (by omega) (by omega) (by omega)
  refine ⟨x1, v1, o, e, q1, k1, k2, ?_, q3⟩
  rw [fX7_sieves, nm_eq, hsd]
  exact q2.trans k3
end WIDE
section CODES
variable {fc fs fr fu fh fl fw : Nat → Int32} {b : Nat}
theorem lo_loop (hfs : mt fs lSt) (d m sd od ev : Int32) {lo g vv : Nat → Int32} (hb : b + 23 ≤ 368) (h1b : g (b + 1) = lo 1) : ∀ (k f1 f2 : Nat), k ≤ 29 → k < f1 → k < f2 →
    ∃ il : Nat, il < 64 ∧ fX5_lowCode_b15 lo f1 d m (nI (30 - k)) = some (nI il) ∧ fX7_says722_b61 fc fs fr fu fh fl fw f2 sd (nI b) d m (nI (30 - k)) od ev g vv = fX7_says722_b136 fc fs fr fu fh fl fw sd (nI b) (nI il) od ev g vv := by
  have ends : ∀ i : Nat, 1 ≤ i → i ≤ 30 → ∃ il : Nat, il < 64 ∧ fX5_lowCode_b45 lo d (nI i) = some (nI il) ∧ fX7_says722_b104 fc fs fr fu fh fl fw sd (nI b) d (nI i) od ev g vv = fX7_says722_b136 fc fs fr fu fh fl fw sd (nI b) (nI il) od ev g vv := by
    intro i h1 h2
    rw [fX5_lowCode_b45, fX7_says722_b104]
    by_cases hd : d < (0 : Int32)
    · rw [br_t1 hd, br_t1 hd]
      by_cases h3 : (3 : Int32) ≤ nI i
      · have h3' : 3 ≤ i := by
          rw [show (3 : Int32) = nI 3 from rfl, nI_leI (by omega) (by omega)] at h3
          exact h3
        rw [br_t1 h3, br_t1 h3, show (34 : Int32) - nI i = nI (34 - i) from pk_sub (a := 34) (by omega)]
        exact ⟨34 - i, by omega, rfl, rfl⟩
      · rw [br_f1 h3, br_f1 h3, show (64 : Int32) - nI i = nI (64 - i) from pk_sub (a := 64) (by omega)]
        exact ⟨64 - i, by omega, rfl, rfl⟩
    · rw [br_f1 hd, br_f1 hd, show (62 : Int32) - nI i = nI (62 - i) from pk_sub (a := 62) (by omega)]
      exact ⟨62 - i, by omega, rfl, rfl⟩
  intro k
  induction k with
  | zero =>
    intro f1 f2 h1 h2 h3
    obtain ⟨f1, rfl⟩ : ∃ z, f1 = z + 1 := ⟨f1 - 1, by omega⟩
    obtain ⟨f2, rfl⟩ : ∃ z, f2 = z + 1 := ⟨f2 - 1, by omega⟩
    obtain ⟨il, q1, q2, q3⟩ := ends 30 (by omega) (by omega)
    refine ⟨il, q1, ?_, ?_⟩
    · rw [fX5_lowCode_b15, br_t1 (show (30 : Int32) ≤ nI (30 - 0) by decide)]; exact q2
    · rw [fX7_says722_b61, br_t1 (show (30 : Int32) ≤ nI (30 - 0) by decide)]; exact q3
  | succ k ih =>
    intro f1 f2 h1 h2 h3
    obtain ⟨f1, rfl⟩ : ∃ z, f1 = z + 1 := ⟨f1 - 1, by omega⟩
    obtain ⟨f2, rfl⟩ : ∃ z, f2 = z + 1 := ⟨f2 - 1, by omega⟩
    obtain ⟨il2, r1, r2, r3⟩ := ih f1 f2 (by omega) (by omega) (by omega)
    generalize hi : 30 - (k + 1) = i
    have hi30 : 1 ≤ i ∧ i < 30 := by omega
    rw [show 30 - k = i + 1 by omega] at r2 r3
    have hn : ¬ (30 : Int32) ≤ nI i := not_le_nI (m := 30) rfl hi30.2 (by omega)
    have e1 : nI i - (1 : Int32) = nI (i - 1) := pk_sub (b := 1) (by omega)
    have c1 : fs (i - 1) = pq_t_Q (i - 1) := by rw [hfs (i - 1) (show i - 1 < 29 by omega)]; exact (by decide : ∀ i, i < 29 → lSt.getD i 0 = pq_t_Q i) (i - 1) (by omega)
    obtain ⟨il, q1, q2, q3⟩ := ends i hi30.1 (by omega)
    rw [fX5_lowCode_b15, fX7_says722_b61, br_f1 hn, br_f1 hn, rd_in (j := i - 1) e1 (by omega) (by omega), rd_in (j := i - 1) e1 (by omega) (by omega), rd_in (j := b + 1) (ix_l b 1) (by omega) (by omega), h1b, c1, fX1_scaled, rd_in (j := 1) (nq_z 1) (by omega) (by omega), cl_eq]
    by_cases hm : m < (pq_t_Q (i - 1) * lo 1) >>> ((12 : Int32) &&& 31)
    · rw [br_t1 hm, br_t1 hm]; exact ⟨il, q1, q2, q3⟩
    · rw [br_f1 hm, br_f1 hm, nm_eq, nm_eq, nI_1]; exact ⟨il2, r1, r2, r3⟩
/-- both bands are the model's, b on; outside g is g0 -/
def vW (b : Nat) (lo hi g g0 : Nat → Int32) : Prop := (∀ j, j < 23 → g (b + j) = lo j) ∧ (∀ j, j < 23 → g (b + 23 + j) = hi j) ∧ ∀ q, (q < b ∨ b + 46 ≤ q) → g q = g0 q
theorem both_eq (hfr : mt fr lRoots) (hfu : mt fu lUps) (hfh : mt fh lHig) (hfl : mt fl lLw) (hfw : mt fw lHw) (hb : b + 46 ≤ 368) {sd : Int32} (hsd : (46 : Int32) * sd = nI b) {il ih : Nat} (hil : il < 64) (hih : ih < 4) {lo hi g g0 : Nat → Int32} (hR : vW b lo hi g g0) :
    ∃ lo1 hi1 g1, fX5_settle (nI il) (nI ih) lo hi = some (lo1, hi1) ∧ fX7_both sd (nI il) (nI ih) fr fu fh fl fw g = some g1 ∧ vW b lo1 hi1 g1 g0 := by
  have hr : il / 4 < 16 := by omega
  have er : nI il >>> ((2 : Int32) &&& 31) = nI (il / 4) := pk_shrN (by omega) _ 2 (by decide)
  have er15 : nI (il / 4) &&& (15 : Int32) = nI (il / 4) := by rw [pk_andN (by omega) 4 (by decide), Nat.mod_eq_of_lt (by omega)]
  have eh3 : nI ih &&& (3 : Int32) = nI ih := by rw [pk_andN (by omega) 2 (by decide), Nat.mod_eq_of_lt (by omega)]
  have cu : fu (il / 4) = pq_t_U (il / 4) := by rw [hfu _ hr]; exact (by decide : ∀ i, i < 16 → lUps.getD i 0 = pq_t_U i) _ hr
  have cl : fl (il / 4) = pq_t_WL (il / 4) := by rw [hfl _ hr]; exact (by decide : ∀ i, i < 16 → lLw.getD i 0 = pq_t_WL i) _ hr
  have ch : fh ih = pq_t_V ih := by rw [hfh _ hih]; exact (by decide : ∀ i, i < 4 → lHig.getD i 0 = pq_t_V i) _ hih
  have cw : fw ih = pq_t_WH ih := by rw [hfw _ hih]; exact (by decide : ∀ i, i < 4 → lHw.getD i 0 = pq_t_WH i) _ hih
  have hL : vA 23 b lo g g := ⟨hR.1, fun _ _ => rfl⟩
  obtain ⟨lo1, g1, s1, s2, s3⟩ := bd_settle (b := b) (by omega) (pq_t_U (il / 4)) (pq_t_WL (il / 4)) 18432 8 hL
  have hH : vA 23 (b + 23) hi g1 g1 := ⟨fun j hj => by rw [s3.2 _ (by omega)]; exact hR.2.1 j hj, fun _ _ => rfl⟩
  obtain ⟨hi1, g2, u1, u2, u3⟩ := bd_settle (b := b + 23) (by omega) (pq_t_V ih) (pq_t_WH ih) 22528 10 hH
  refine ⟨lo1, hi1, g2, ?_, ?_, fun j hj => by rw [u3.2 _ (by omega)]; exact s3.1 j hj, u3.1, fun q hq => ?_⟩
  · rw [fX5_settle, nm_eq, er, er15, rd_in (j := il / 4) rfl hr (by omega), rd_in (j := il / 4) rfl hr (by omega), s1, cl_eq, eh3, rd_in (j := ih) rfl hih (by omega), rd_in (j := ih) rfl hih (by omega), u1, cl_eq]
  · have x23 : nI b + (23 : Int32) = nI (b + 23) := nI_add b 23
    have x24 : nI b + (24 : Int32) = nI (b + 23 + 1) := nI_add b 24
    have h23 := hH.1 0 (by omega)
    have h24 := hH.1 1 (by omega)
    rw [fX7_both, nm_eq, hsd, nm_eq, er, rd_in (j := b + 1) (ix_l b 1) (by omega) (by omega), rd_in (j := il / 4) rfl hr (by omega), nm_eq, rd_in (i := nI b) (j := b + 0) rfl (by omega) (by omega), rd_in (j := il / 4) rfl hr (by omega), hR.1 1 (by omega), hR.1 0 (by omega), cu, cl, eX7_cut _ _ _ (by decide), cl_eq, wr_in (i := nI b) (j := b + 0) rfl (by omega) (by omega), rd_in (i := nI b) (j := b + 0) rfl (by omega) (by omega), pk_us, eX7_root hfr, cl_eq, wr_in (j := b + 1) (ix_l b 1) (by omega) (by omega), s2, cl_eq]
    rw [rd_in (j := b + 23 + 1) x24 (by omega) (by omega), h24, rd_in (j := ih) rfl hih (by omega), nm_eq, rd_in (j := b + 23 + 0) x23 (by omega) (by omega), h23, rd_in (j := ih) rfl hih (by omega), ch, cw, eX7_cut _ _ _ (by decide), cl_eq, wr_in (j := b + 23 + 0) x23 (by omega) (by omega), rd_in (j := b + 23 + 0) x23 (by omega) (by omega), pk_us, eX7_root hfr, cl_eq, wr_in (j := b + 23 + 1) x24 (by omega) (by omega), x23, u2, cl_eq]
  · rw [u3.2 q (by omega), s3.2 q (by omega)]
    exact hR.2.2 q hq
end CODES
