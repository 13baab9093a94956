/-! a line is opened, on both sides -/
def zr (c : Int32) (a i n : Nat) (g g1 : Nat → Int32) : Prop := ∀ p, g1 p = if a + i ≤ p ∧ p < a + n then c else g p
theorem zr.nil {c : Int32} {a i n : Nat} (h : n ≤ i) (g : Nat → Int32) : zr c a i n g g := fun p => by rw [if_neg (by omega)]
theorem zr.cons {c : Int32} {a i n : Nat} {g g1 : Nat → Int32} (h : i < n) (k : zr c a (i + 1) n (upd g (a + i) c) g1) : zr c a i n g g1 := by
  intro p
  rw [k p]
  unfold upd
  by_cases e : p = a + i
  · rw [if_neg (by omega), if_pos e, if_pos (by omega)]
  · rw [if_neg e]
    by_cases e1 : a + (i + 1) ≤ p ∧ p < a + n
    · rw [if_pos e1, if_pos (by omega)]
    · rw [if_neg e1, if_neg (by omega)]
def n0 (j : Nat) : Int32 := if j = 0 then 34816 else if j = 1 then 544 else if 14 ≤ j ∧ j < 22 then 32 else 0
def d0 (c : Int32) (j : Nat) : Int32 := if j = 1 then c else 0
theorem bg0_63 (c : Int32) : ∀ (F i : Nat) (r : Nat → Int32), i ≤ 6 → 6 < F + i → ∃ r1, fX0_begin_b63 F (nI i) c r = some (c, r1) ∧ zr 32 16 i 6 r r1 := by
  intro F
  induction F with
  | zero => intro i r h1 h2; exact absurd h2 (by omega)
  | succ F ih =>
    intro i r h1 h2
    rw [fX0_begin_b63]
    by_cases g : 6 ≤ i
    · rw [br_t1 (show (6 : Int32) ≤ nI i from nI_le (a := 6) g (by omega))]
      exact ⟨r, rfl, zr.nil g r⟩
    · rw [br_f1 (show ¬ (6 : Int32) ≤ nI i from nI_ge (b := 6) (by omega) (by omega)), wr_in (j := 16 + i) (ix_r i 16) (by omega) (by omega), nm_eq, nI_1]
      obtain ⟨r1, k1, k2⟩ := ih (i + 1) (upd r (16 + i) 32) (by omega) (by omega)
      exact ⟨r1, k1, zr.cons (by omega) k2⟩
theorem bg0_7 (c : Int32) : ∀ (F i : Nat) (r : Nat → Int32), i ≤ 24 → 24 < F + i → ∃ r0 r1, zr 0 0 i 24 r r0 ∧ fX0_begin_b7 F (nI i) c r = some (c, r1) ∧ zr 32 16 0 6 (upd (upd (upd (upd r0 0 34816) 1 544) 14 32) 15 32) r1 := by
  intro F
  induction F with
  | zero => intro i r h1 h2; exact absurd h2 (by omega)
  | succ F ih =>
    intro i r h1 h2
    rw [fX0_begin_b7]
    by_cases g : 24 ≤ i
    · obtain ⟨r1, k1, k2⟩ := bg0_63 c 1100 0 (upd (upd (upd (upd r 0 34816) 1 544) 14 32) 15 32) (by omega) (by omega)
      rw [br_t1 (show (24 : Int32) ≤ nI i from nI_le (a := 24) g (by omega)), wr_in (i := (0 : Int32)) (j := 0) rfl (by omega) (by omega), wr_in (i := (1 : Int32)) (j := 1) rfl (by omega) (by omega), wr_in (i := (14 : Int32)) (j := 14) rfl (by omega) (by omega), wr_in (i := (15 : Int32)) (j := 15) rfl (by omega) (by omega)]
      exact ⟨r, r1, zr.nil g r, k1, k2⟩
    · rw [br_f1 (show ¬ (24 : Int32) ≤ nI i from nI_ge (b := 24) (by omega) (by omega)), wr_in (j := i) rfl (by omega) (by omega), nm_eq, nI_1]
      obtain ⟨r0, r1, k1, k2, k3⟩ := ih (i + 1) (upd r i 0) (by omega) (by omega)
      exact ⟨r0, r1, zr.cons (by omega) (by rw [Nat.zero_add]; exact k1), k2, k3⟩
theorem bg0 (a c : Int32) (r : Nat → Int32) : ∃ r1, fX0_begin a c r = some (a, r1) ∧ ∀ j, j < 24 → r1 j = n0 j := by
  obtain ⟨r0, r1, k1, k2, k3⟩ := bg0_7 a 1100 0 r (by omega) (by omega)
  refine ⟨r1, k2, fun j hj => ?_⟩
  rw [k3 j]
  unfold upd n0
  rw [k1 j]
  repeat' split
  all_goals first | rfl | (exfalso; omega)
theorem inv_0 {r : Nat → Int32} (h : ∀ j, j < 24 → r j = n0 j) : inv r := by
  unfold inv
  rw [h 5 (by omega), h 7 (by omega)]
  decide
theorem bg1_2 (c : Int32) : ∀ (F i : Nat) (r : Nat → Int32), i ≤ 23 → 23 < F + i → ∃ r0, zr 0 0 i 23 r r0 ∧ fX1_begin_b2 F c (nI i) r = some (upd r0 1 c) := by
  intro F
  induction F with
  | zero => intro i r h1 h2; exact absurd h2 (by omega)
  | succ F ih =>
    intro i r h1 h2
    rw [fX1_begin_b2]
    by_cases g : 23 ≤ i
    · rw [br_t1 (show (23 : Int32) ≤ nI i from nI_le (a := 23) g (by omega)), wr_in (i := (1 : Int32)) (j := 1) rfl (by omega) (by omega)]
      exact ⟨r, zr.nil g r, rfl⟩
    · rw [br_f1 (show ¬ (23 : Int32) ≤ nI i from nI_ge (b := 23) (by omega) (by omega)), wr_in (j := i) rfl (by omega) (by omega), nm_eq, nI_1]
      obtain ⟨r0, k1, k2⟩ := ih (i + 1) (upd r i 0) (by omega) (by omega)
      exact ⟨r0, zr.cons (by omega) (by rw [Nat.zero_add]; exact k1), k2⟩
theorem bg1 (c : Int32) (r : Nat → Int32) : ∃ r1, fX1_begin c r = some r1 ∧ ∀ j, j < 23 → r1 j = d0 c j := by
  obtain ⟨r0, k1, k2⟩ := bg1_2 c 1100 0 r (by omega) (by omega)
  refine ⟨_, k2, fun j hj => ?_⟩
  unfold upd d0
  rw [k1 j]
  repeat' split
  all_goals first | rfl | (exfalso; omega)
theorem bg5_20 (c : Int32) (lo hi : Nat → Int32) : ∀ (F i : Nat) (r : Nat → Int32), i ≤ 24 → 24 < F + i → ∃ r0, zr 0 0 i 24 r r0 ∧ fX5_begin_b20 F (nI i) c lo hi r = some (0, lo, hi, r0) := by
  intro F
  induction F with
  | zero => intro i r h1 h2; exact absurd h2 (by omega)
  | succ F ih =>
    intro i r h1 h2
    rw [fX5_begin_b20]
    by_cases g : 24 ≤ i
    · rw [br_t1 (show (24 : Int32) ≤ nI i from nI_le (a := 24) g (by omega))]
      exact ⟨r, zr.nil g r, rfl⟩
    · rw [br_f1 (show ¬ (24 : Int32) ≤ nI i from nI_ge (b := 24) (by omega) (by omega)), wr_in (j := i) rfl (by omega) (by omega), nm_eq, nI_1]
      obtain ⟨r0, k1, k2⟩ := ih (i + 1) (upd r i 0) (by omega) (by omega)
      exact ⟨r0, zr.cons (by omega) (by rw [Nat.zero_add]; exact k1), k2⟩
theorem bg5 (c : Int32) (lo hi x : Nat → Int32) : ∃ lo1 hi1 x1, fX5_begin c lo hi x = some (0, lo1, hi1, x1) ∧ (∀ j, j < 23 → lo1 j = d0 32 j) ∧ (∀ j, j < 23 → hi1 j = d0 8 j) ∧ ∀ j, j < 24 → x1 j = 0 := by
  obtain ⟨lo1, k1, k2⟩ := bg1 32 lo
  obtain ⟨hi1, k3, k4⟩ := bg1 8 hi
  obtain ⟨x1, k5, k6⟩ := bg5_20 c lo1 hi1 1100 0 x (by omega) (by omega)
  refine ⟨lo1, hi1, x1, ?_, k2, k4, fun j hj => by rw [k5 j, if_pos (by omega)]⟩
  rw [fX5_begin, k1, cl_eq, k3, cl_eq]
  exact k6
/-! the model's -/
abbrev kO := Int32 → Int32 → Int32 → (Nat → Int32) → (Nat → Int32) → (Nat → Int32) → (Nat → Int32) → (Nat → Int32) → Option (Int32 × Int32 × (Nat → Int32) × (Nat → Int32) × (Nat → Int32) × (Nat → Int32) × (Nat → Int32))
theorem sd_24 : ∀ s, s < 8 → (24 : Int32) * nI s = nI (24 * s) ∧ (46 : Int32) * nI s = nI (46 * s) := fun s _ => ⟨pk_mul 24 s, pk_mul 46 s⟩
theorem op_153 (K : kO) {s : Nat} (hs : s < 8) (x1 to : Int32) (fk fse g v : Nat → Int32) : ∀ (F i : Nat) (b : Nat → Int32), i ≤ 46 → 46 < F + i → ∃ b0, zr 0 (46 * s) i 46 b b0 ∧ fX7_open_b153 K F x1 (nI s) (nI i) to fk fse g b v = K x1 (nI (s + 1)) to fk fse g (upd (upd b0 (46 * s + 1) 32) (46 * s + 24) 8) v := by
  intro F
  induction F with
  | zero => intro i r h1 h2; exact absurd h2 (by omega)
  | succ F ih =>
    intro i r h1 h2
    rw [fX7_open_b153, (sd_24 s hs).2]
    by_cases g0 : 46 ≤ i
    · rw [br_t1 (show (46 : Int32) ≤ nI i from nI_le (a := 46) g0 (by omega)), wr_in (j := 46 * s + 1) (ix_l _ 1) (by omega) (by omega), wr_in (j := 46 * s + 24) (ix_l _ 24) (by omega) (by omega), nm_eq, nI_1]
      exact ⟨r, zr.nil g0 r, rfl⟩
    · rw [br_f1 (show ¬ (46 : Int32) ≤ nI i from nI_ge (b := 46) (by omega) (by omega)), wr_in (j := 46 * s + i) (nI_add _ _) (by omega) (by omega), nm_eq, nI_1]
      obtain ⟨r0, k1, k2⟩ := ih (i + 1) (upd r (46 * s + i) 0) (by omega) (by omega)
      exact ⟨r0, zr.cons (by omega) k1, k2⟩
theorem op_123 (K : kO) {s : Nat} (hs : s < 8) (x1 to : Int32) (fk fse b v : Nat → Int32) : ∀ (F i : Nat) (g : Nat → Int32), i ≤ 22 → 22 < F + i → ∃ g0, zr 32 (24 * s) i 22 g g0 ∧ fX7_open_b123 K F x1 (nI s) (nI i) to fk fse g b v = fX7_open_b153 K 1100 x1 (nI s) 0 to fk fse g0 b v := by
  intro F
  induction F with
  | zero => intro i r h1 h2; exact absurd h2 (by omega)
  | succ F ih =>
    intro i r h1 h2
    rw [fX7_open_b123, (sd_24 s hs).1]
    by_cases g0 : 22 ≤ i
    · rw [br_t1 (show (22 : Int32) ≤ nI i from nI_le (a := 22) g0 (by omega))]
      exact ⟨r, zr.nil g0 r, rfl⟩
    · rw [br_f1 (show ¬ (22 : Int32) ≤ nI i from nI_ge (b := 22) (by omega) (by omega)), wr_in (j := 24 * s + i) (nI_add _ _) (by omega) (by omega), nm_eq, nI_1]
      obtain ⟨r0, k1, k2⟩ := ih (i + 1) (upd r (24 * s + i) 32) (by omega) (by omega)
      exact ⟨r0, zr.cons (by omega) k1, k2⟩
theorem op_55 (K : kO) {s : Nat} (hs : s < 8) (x1 to : Int32) (fk fse b : Nat → Int32) : ∀ (F i : Nat) (g v : Nat → Int32), i ≤ 24 → 24 < F + i → ∃ g0 v0, zr 0 (24 * s) i 24 g g0 ∧ zr 0 (24 * s) i 24 v v0 ∧ fX7_open_b55 K F x1 (nI s) (nI i) to fk fse g b v = fX7_open_b123 K 1100 x1 (nI s) 14 to fk fse (upd (upd g0 (24 * s) 34816) (24 * s + 1) 544) b v0 := by
  intro F
  induction F with
  | zero => intro i r v h1 h2; exact absurd h2 (by omega)
  | succ F ih =>
    intro i r v h1 h2
    rw [fX7_open_b55, (sd_24 s hs).1]
    by_cases g0 : 24 ≤ i
    · rw [br_t1 (show (24 : Int32) ≤ nI i from nI_le (a := 24) g0 (by omega)), wr_in (j := 24 * s) rfl (by omega) (by omega), wr_in (j := 24 * s + 1) (ix_l _ 1) (by omega) (by omega)]
      exact ⟨r, v, zr.nil g0 r, zr.nil g0 v, rfl⟩
    · rw [br_f1 (show ¬ (24 : Int32) ≤ nI i from nI_ge (b := 24) (by omega) (by omega)), wr_in (j := 24 * s + i) (nI_add _ _) (by omega) (by omega), wr_in (j := 24 * s + i) (nI_add _ _) (by omega) (by omega), nm_eq, nI_1]
      obtain ⟨r0, v0, k1, k2, k3⟩ := ih (i + 1) (upd r (24 * s + i) 0) (upd v (24 * s + i) 0) (by omega) (by omega)
      exact ⟨r0, v0, zr.cons (by omega) k1, zr.cons (by omega) k2, k3⟩
/-- side s has begun -/
def bgS (s : Nat) (g b v : Nat → Int32) : Prop := (∀ j, j < 24 → g (24 * s + j) = n0 j) ∧ (∀ j, j < 23 → b (46 * s + j) = d0 32 j) ∧ (∀ j, j < 23 → b (46 * s + 23 + j) = d0 8 j) ∧ ∀ j, j < 24 → v (24 * s + j) = 0
theorem op_side (K : kO) {s : Nat} (hs : s < 8) (x1 to : Int32) (fk fse g b v : Nat → Int32) : ∃ g1 b1 v1, fX7_open_b55 K 1100 x1 (nI s) 0 to fk fse g b v = K x1 (nI (s + 1)) to fk fse g1 b1 v1 ∧ bgS s g1 b1 v1 ∧ frm s g b v g1 b1 v1 := by
  obtain ⟨g0, v0, a1, a2, a3⟩ := op_55 K hs x1 to fk fse b 1100 0 g v (by omega) (by omega)
  obtain ⟨g1, c1, c2⟩ := op_123 K hs x1 to fk fse b v0 1100 14 (upd (upd g0 (24 * s) 34816) (24 * s + 1) 544) (by omega) (by omega)
  obtain ⟨b0, e1, e2⟩ := op_153 K hs x1 to fk fse g1 v0 1100 0 b (by omega) (by omega)
  refine ⟨g1, _, v0, a3.trans (c2.trans e2), ⟨fun j hj => ?_, fun j hj => ?_, fun j hj => ?_, fun j hj => ?_⟩, fun p hp => ?_, fun p hp => ?_, fun p hp => ?_⟩
  · rw [c1]; unfold upd n0; rw [a1]
    repeat' split
    all_goals first | rfl | (exfalso; omega)
  · unfold upd d0; rw [e1]
    repeat' split
    all_goals first | rfl | (exfalso; omega)
  · unfold upd d0; rw [e1]
    repeat' split
    all_goals first | rfl | (exfalso; omega)
  · rw [a2, if_pos (by omega)]
  · rw [c1]; unfold upd; rw [a1, if_neg (by omega), if_neg (by omega), if_neg (by omega), if_neg (by omega)]
  · unfold upd; rw [e1, if_neg (by omega), if_neg (by omega), if_neg (by omega)]
  · rw [a2, if_neg (by omega)]
theorem bgS.other {s s' : Nat} {g b v g1 b1 v1 : Nat → Int32} (h : bgS s g b v) (hne : s ≠ s') (hf : frm s' g b v g1 b1 v1) : bgS s g1 b1 v1 := ⟨fun j hj => by rw [hf.1 _ (by omega)]; exact h.1 j hj, fun j hj => by rw [hf.2.1 _ (by omega)]; exact h.2.1 j hj, fun j hj => by rw [hf.2.1 _ (by omega)]; exact h.2.2.1 j hj, fun j hj => by rw [hf.2.2 _ (by omega)]; exact h.2.2.2 j hj⟩
theorem op_43 {k : Nat} (hk : k < 4) (to : Int32) (fk fse g b v : Nat → Int32) : ∃ g1 b1 v1 g2 b2 v2, fX7_open_b43 1100 (nI k) (nI (2 * k)) to fk fse g b v = some (1, to, fk, fse, g2, b2, v2) ∧ bgS (2 * k) g2 b2 v2 ∧ bgS (2 * k + 1) g2 b2 v2 ∧ frm (2 * k) g b v g1 b1 v1 ∧ frm (2 * k + 1) g1 b1 v1 g2 b2 v2 := by
  obtain ⟨g1, b1, v1, m1, m2, m3⟩ := op_side (fX7_open_b43 (1098 + 1)) (s := 2 * k) (by omega) (nI k) to fk fse g b v
  obtain ⟨g2, b2, v2, k1, k2, k3⟩ := op_side (fX7_open_b43 (1097 + 1)) (s := 2 * k + 1) (by omega) (nI k) to fk fse g1 b1 v1
  refine ⟨g1, b1, v1, g2, b2, v2, ?_, m2.other (by omega) k3, k2, m3, k3⟩
  have e : (2 : Int32) * nI k + (2 : Int32) = nI (2 * k + 2) := by rw [ml_2, ix_2]
  show fX7_open_b43 (1098 + 1 + 1) (nI k) (nI (2 * k)) to fk fse g b v = _
  rw [fX7_open_b43, e, br_f1 (nI_ge (by omega) (by omega)), m1, fX7_open_b43, e, br_f1 (nI_ge (by omega) (by omega)), k1, fX7_open_b43, e, br_t1 (nI_le (by omega) (by omega))]
theorem bgS.vA {s q : Nat} {bits : Int32} {n lo hi x g b v : Nat → Int32} (h : bgS s g b v) (hA : 2 ≤ q → q ≤ 5 → bits = nI q ∧ ∀ j, j < 24 → n j = n0 j) (hW : 6 ≤ q → (∀ j, j < 23 → lo j = d0 32 j) ∧ (∀ j, j < 23 → hi j = d0 8 j) ∧ ∀ j, j < 24 → x j = 0) : vR s q bits n lo hi x g b v := by
  refine ⟨fun h2 h5 => ?_, fun h6 => ?_⟩
  · obtain ⟨e1, e2⟩ := hA h2 h5
    exact ⟨e1, fun j hj => by rw [h.1 j hj, e2 j hj], inv_0 e2⟩
  · obtain ⟨e1, e2, e3⟩ := hW h6
    exact ⟨fun j hj => by rw [h.2.1 j hj, e1 j hj], fun j hj => by rw [h.2.2.1 j hj, e2 j hj], fun j hj => by rw [h.2.2.2 j hj, e3 j hj]⟩
set_option maxHeartbeats 1000000 in
/-- the class's line has begun -/
theorem begin_c {q : Nat} (hq : q < 9) (kd bS bH sS sH : Int32) (nS nH loS hiS xS loH hiH xH : Nat → Int32) : ∃ (bS1 bH1 sS1 sH1 : Int32) (nS1 nH1 loS1 hiS1 xS1 loH1 hiH1 xH1 : Nat → Int32), fX4_begin (nI q) kd bS nS bH nH sS loS hiS xS sH loH hiH xH = some (nI q, bS1, nS1, bH1, nH1, sS1, loS1, hiS1, xS1, sH1, loH1, hiH1, xH1) ∧ (2 ≤ q → q ≤ 5 → (bS1 = nI q ∧ ∀ j, j < 24 → nS1 j = n0 j) ∧ bH1 = nI q ∧ ∀ j, j < 24 → nH1 j = n0 j) ∧ (6 ≤ q → ((∀ j, j < 23 → loS1 j = d0 32 j) ∧ (∀ j, j < 23 → hiS1 j = d0 8 j) ∧ ∀ j, j < 24 → xS1 j = 0) ∧ ((∀ j, j < 23 → loH1 j = d0 32 j) ∧ (∀ j, j < 23 → hiH1 j = d0 8 j) ∧ ∀ j, j < 24 → xH1 j = 0) ∧ sH1 = 0) := by
  rw [fX4_begin, kd_A q hq, cl_eq]
  by_cases h : 2 ≤ q ∧ q ≤ 5
  · obtain ⟨r1, k1, k2⟩ := bg0 (nI q) bS nS
    obtain ⟨r2, k3, k4⟩ := bg0 (nI q) bH nH
    rw [if_pos h, br_f1 (by decide), k1, cl_eq, nm_eq, nm_eq, k3, cl_eq, nm_eq, nm_eq]
    exact ⟨nI q, nI q, sS, sH, r1, r2, loS, hiS, xS, loH, hiH, xH, rfl, fun _ _ => ⟨⟨rfl, k2⟩, rfl, k4⟩, fun h6 => absurd h6 (by omega)⟩
  · rw [if_neg h, br_t1 rfl, kd_W q hq, cl_eq]
    by_cases h6 : q < 6
    · rw [if_pos h6, br_t1 rfl]
      exact ⟨bS, bH, sS, sH, nS, nH, loS, hiS, xS, loH, hiH, xH, rfl, fun h2 h5 => absurd ⟨h2, h5⟩ h, fun h => absurd h (by omega)⟩
    · obtain ⟨l1, i1, y1, k1, k2, k3, k4⟩ := bg5 sS loS hiS xS
      obtain ⟨l2, i2, y2, m1, m2, m3, m4⟩ := bg5 sH loH hiH xH
      rw [if_neg h6, br_f1 (by decide), k1, cl_eq, nm_eq, nm_eq, nm_eq, nm_eq, m1, cl_eq, nm_eq, nm_eq, nm_eq, nm_eq]
      exact ⟨bS, bH, 0, 0, nS, nH, l1, i1, y1, l2, i2, y2, rfl, fun h2 h5 => absurd ⟨h2, h5⟩ h, fun _ => ⟨⟨k2, k3, k4⟩, ⟨m2, m3, m4⟩, rfl⟩⟩
