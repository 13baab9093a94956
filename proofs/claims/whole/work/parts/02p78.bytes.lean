/-! rows of bytes side by side: only what lies below the length counts -/
def ag (t : Nat) (r f : Nat → Int32) : Prop := ∀ j, j < t → r j = f j
theorem ag.up {t : Nat} {r f : Nat → Int32} (h : ag t r f) (v : Int32) : ag (t + 1) (upd r t v) (upd f t v) := by
  intro j hj
  unfold upd
  by_cases e : j = t
  · rw [if_pos e, if_pos e]
  · rw [if_neg e, if_neg e]; exact h j (by omega)
theorem ag.at {t : Nat} {r f : Nat → Int32} (h : ag t r f) (i : Nat) (v : Int32) : ag t (upd r i v) (upd f i v) := by
  intro j hj
  unfold upd
  by_cases e : j = i
  · rw [if_pos e, if_pos e]
  · rw [if_neg e, if_neg e]; exact h j hj
theorem ag.le {t t1 : Nat} {r f : Nat → Int32} (h : ag t r f) (h1 : t1 ≤ t) : ag t1 r f := fun j hj => h j (by omega)
theorem add_b {t : Nat} (ht : t < 1000) (v : Int32) (r : Nat → Int32) : fX2_add v (nI t) r = some (nI (t + 1), upd r t (v &&& 255)) := by
  rw [fX2_add, br_f1 (show ¬ (1000 : Int32) ≤ nI t from nI_ge (b := 1000) ht (by omega)), wr_in (j := t) rfl ht (by omega), nm_eq, nI_1]
theorem shr_0 (v : Int32) : v >>> ((0 : Int32) &&& 31) = v := by
  apply Int32.toInt_inj.mp
  rw [pk_shr v _ 0 (by decide)]
  simp
def puW (v : Int32) (t : Nat) (r : Nat → Int32) : Nat → Int32 := upd (upd (upd (upd r t ((v >>> ((24 : Int32) &&& 31)) &&& 255)) (t + 1) ((v >>> ((16 : Int32) &&& 31)) &&& 255)) (t + 2) ((v >>> ((8 : Int32) &&& 31)) &&& 255)) (t + 3) (v &&& 255)
theorem puW_ag {t : Nat} {r f : Nat → Int32} (h : ag t r f) (v : Int32) : ag (t + 4) (puW v t r) (puW v t f) := (((h.up _).up _).up _).up _
theorem puts_c {t : Nat} (ht : t + 4 ≤ 1000) (v : Int32) (r : Nat → Int32) : fX2_addInt v (nI t) r = some (nI (t + 4), puW v t r) := by
  rw [fX2_addInt, add_b (by omega), cl_eq, nm_eq, nm_eq, add_b (by omega), cl_eq, nm_eq, nm_eq, add_b (by omega), cl_eq, nm_eq, nm_eq, add_b (by omega), cl_eq, nm_eq, nm_eq]
  rfl
theorem puts_r {t : Nat} (ht : t + 4 ≤ 1000) (v : Int32) (f : Nat → Int32) : fX7_puts v (nI t) f = some (nI (t + 4), puW v t f) := by
  show fX7_puts_b3 (1095 + 1 + 1 + 1 + 1 + 1) v 24 (nI t) f = _
  rw [fX7_puts_b3, br_f1 (by decide), wr_in (j := t) rfl (by omega) (by omega), nm_eq, nm_eq, nI_1, show (24 : Int32) + (-8) = 16 from by decide, fX7_puts_b3, br_f1 (by decide), wr_in (j := t + 1) rfl (by omega) (by omega), nm_eq, nm_eq, nI_1, show (16 : Int32) + (-8) = 8 from by decide, fX7_puts_b3, br_f1 (by decide), wr_in (j := t + 1 + 1) rfl (by omega) (by omega), nm_eq, nm_eq, nI_1, show (8 : Int32) + (-8) = 0 from by decide, fX7_puts_b3, br_f1 (by decide), wr_in (j := t + 1 + 1 + 1) rfl (by omega) (by omega), nm_eq, nm_eq, nI_1, show (0 : Int32) + (-8) = -8 from by decide, fX7_puts_b3, br_t1 (by decide), shr_0]
  rfl
theorem feed_both {t : Nat} (ht : t ≤ 1000) (a b c d e z : Int32) {r f : Nat → Int32} (h : ag t r f) : ∃ (t1 : Nat) (y : Int32) (r1 f1 : Nat → Int32), t1 ≤ 1000 ∧ fX6_feed a b c d e (nI t) r = some (y, nI t1, r1) ∧ fX7_feed a b c d e z (nI t) f = some (y, 0, nI t1, f1) ∧ ag t1 r1 f1 := by
  have ec : nI t ≤ (980 : Int32) ↔ t ≤ 980 := nI_leI (b := 980) (by omega) (by omega)
  have er : nI t + (20 : Int32) ≤ (1000 : Int32) ↔ t + 20 ≤ 1000 := by rw [show nI t + (20 : Int32) = nI (t + 20) from ix_l t 20]; exact nI_leI (b := 1000) (by omega) (by omega)
  rw [fX6_feed, fX7_feed]
  by_cases g : t ≤ 980
  · rw [br_t1 (ec.mpr g), br_t1 (er.mpr (by omega))]
    rw [puts_c (by omega), cl_eq, nm_eq, nm_eq, puts_c (by omega), cl_eq, nm_eq, nm_eq, puts_c (by omega), cl_eq, nm_eq, nm_eq, puts_c (by omega), cl_eq, nm_eq, nm_eq, puts_c (by omega), cl_eq, nm_eq, nm_eq]
    rw [puts_r (by omega), cl_eq, nm_eq, nm_eq, puts_r (by omega), cl_eq, nm_eq, nm_eq, puts_r (by omega), cl_eq, nm_eq, nm_eq, puts_r (by omega), cl_eq, nm_eq, nm_eq, puts_r (by omega), cl_eq, nm_eq, nm_eq]
    exact ⟨t + 4 + 4 + 4 + 4 + 4, _, _, _, by omega, rfl, rfl, puW_ag (puW_ag (puW_ag (puW_ag (puW_ag h a) b) c) d) e⟩
  · rw [br_f1 (fun q => g (ec.mp q)), br_f1 (fun q => g (by have := er.mp q; omega))]
    exact ⟨t, _, r, f, ht, rfl, rfl, h⟩
theorem end_both {t : Nat} (ht : t ≤ 1000) (a z : Int32) : ∃ (t1 : Nat) (y : Int32), t1 ≤ t ∧ fX6_end a (nI t) = some (y, nI t1) ∧ fX7_end a z (nI t) = some (y, 0, nI t1) := by
  rw [fX6_end, fX7_end]
  by_cases g : a < (0 : Int32)
  · rw [br_t1 g, br_t1 g]; exact ⟨t, _, by omega, rfl, rfl⟩
  · rw [br_f1 g, br_f1 g]
    by_cases g1 : a ≤ nI t
    · rw [br_t1 g1, br_t1 g1]
      obtain ⟨j, hj, rfl⟩ := nI_of2 (nI_toInt (by omega)) g g1
      exact ⟨j, _, hj, rfl, rfl⟩
    · rw [br_f1 g1, br_f1 g1]; exact ⟨t, _, by omega, rfl, rfl⟩
theorem copy_c {o : Nat} (ho : o ≤ 1000) (cl : Int32) (w : Nat → Int32) : ∀ (F i : Nat) (r : Nat → Int32), i ≤ o → o < F + i → ∃ r1, fX2_copyFrom_b10 cl w F (nI i) (nI o) r = some (nI o, r1) ∧ (∀ j, j < i → r1 j = r j) ∧ ∀ j, i ≤ j → j < o → r1 j = w j := by
  intro F
  induction F with
  | zero => intro i r h1 h2; exact absurd h2 (by omega)
  | succ F ih =>
    intro i r h1 h2
    rw [fX2_copyFrom_b10]
    by_cases g : o ≤ i
    · rw [br_t1 (nI_le g (by omega))]
      exact ⟨r, rfl, fun _ _ => rfl, fun j h3 h4 => absurd h4 (by omega)⟩
    · rw [br_f1 (nI_ge (by omega) (by omega)), rd_in (j := i) rfl (by omega) (by omega), wr_in (j := i) rfl (by omega) (by omega), nm_eq, nI_1]
      obtain ⟨r1, k1, k2, k3⟩ := ih (i + 1) (upd r i (w i)) (by omega) (by omega)
      refine ⟨r1, k1, fun j hj => ?_, fun j h3 h4 => ?_⟩
      · rw [k2 j (by omega)]; exact pk_un (by omega)
      · by_cases e : j = i
        · subst e; rw [k2 j (by omega)]; exact pk_us
        · exact k3 j (by omega) h4
theorem copy_r {o : Nat} (ho : o ≤ 1000) (cl z : Int32) (w : Nat → Int32) : ∀ (F i : Nat) (r : Nat → Int32), i ≤ o → o < F + i → ∃ r1, fX7_take_b31 cl w F (nI i) z (nI o) r = some (nI o, z, nI o, r1) ∧ (∀ j, j < i → r1 j = r j) ∧ ∀ j, i ≤ j → j < o → r1 j = w j := by
  intro F
  induction F with
  | zero => intro i r h1 h2; exact absurd h2 (by omega)
  | succ F ih =>
    intro i r h1 h2
    rw [fX7_take_b31]
    by_cases g : o ≤ i
    · rw [br_t1 (nI_le g (by omega))]
      exact ⟨r, rfl, fun _ _ => rfl, fun j h3 h4 => absurd h4 (by omega)⟩
    · rw [br_f1 (nI_ge (by omega) (by omega)), rd_in (j := i) rfl (by omega) (by omega), wr_in (j := i) rfl (by omega) (by omega), nm_eq, nI_1]
      obtain ⟨r1, k1, k2, k3⟩ := ih (i + 1) (upd r i (w i)) (by omega) (by omega)
      refine ⟨r1, k1, fun j hj => ?_, fun j h3 h4 => ?_⟩
      · rw [k2 j (by omega)]; exact pk_un (by omega)
      · by_cases e : j = i
        · subst e; rw [k2 j (by omega)]; exact pk_us
        · exact k3 j (by omega) h4
theorem take_both {o : Nat} (ho : o ≤ 1000) (cl tl z : Int32) (r f : Nat → Int32) {w v : Nat → Int32} (h : ag o w v) : ∃ r1 f1, fX6_take (nI o) w tl r = some (nI o, nI o, r1) ∧ fX7_take (nI o) v z cl f = some (nI o, 0, nI o, f1) ∧ ag o r1 f1 := by
  obtain ⟨r1, k1, -, k3⟩ := copy_c ho (nI o) w 1100 0 r (by omega) (by omega)
  obtain ⟨f1, m1, -, m3⟩ := copy_r ho (nI o) 0 v 1100 0 f (by omega) (by omega)
  refine ⟨r1, f1, ?_, ?_, fun j hj => by rw [k3 j (by omega) hj, m3 j (by omega) hj]; exact h j hj⟩
  · rw [fX6_take, fX2_copyFrom, show (0 : Int32) = nI 0 from rfl, k1, cl_eq, nm_eq, nm_eq]
  · rw [fX7_take]
    by_cases g : (1000 : Int32) ≤ nI o
    · have e : o = 1000 := by have := (nI_leI (a := 1000) (b := o) (by omega) (by omega)).mp g; omega
      subst e
      rw [br_t1 g]; exact m1
    · rw [br_f1 g]; exact m1
theorem byte_in {j o : Nat} (hj : j < o) (ho : o ≤ 1000) (r : Nat → Int32) : fX2_byteAt (nI j) (nI o) r = some (r j) := by
  rw [fX2_byteAt, br_f1 (nI_pos (by omega)), br_t1 (nI_lt hj (by omega)), rd_in (j := j) rfl (by omega) (by omega)]
theorem out_both {o : Nat} (ho : o ≤ 1000) (a z : Int32) {r f : Nat → Int32} (h : ag o r f) : ∃ y, fX6_out a (nI o) r = some y ∧ fX7_out a (nI o) f z = some (y, 0) := by
  rw [fX6_out, fX7_out]
  rcases pk_ix a (n := o) (by omega) with g | g | ⟨j, hj, rfl⟩
  · rw [fX2_byteAt, br_t1 g, br_t1 g]; exact ⟨_, rfl, rfl⟩
  · by_cases g0 : a < (0 : Int32)
    · rw [fX2_byteAt, br_t1 g0, br_t1 g0]; exact ⟨_, rfl, rfl⟩
    · rw [fX2_byteAt, br_f1 g0, br_f1 g0, br_f1 (Int32.not_lt.mpr g), br_t1 g]; exact ⟨_, rfl, rfl⟩
  · rw [byte_in hj ho, cl_eq, br_f1 (nI_pos (by omega)), br_f1 (nI_ge hj (by omega)), rd_in (j := j) rfl (by omega) (by omega), ← h j hj]
    exact ⟨_, rfl, rfl⟩
theorem sam_both {j t : Nat} (hj : j + 1 < t) (ht : t ≤ 1000) {r f : Nat → Int32} (h : ag t r f) : fX2_sampleAt (nI j) (nI t) r = some (tWrap ((r j <<< ((8 : Int32) &&& 31)) ||| r (j + 1))) ∧ fX7_sampleAt (nI j) f = some (tWrap ((r j <<< ((8 : Int32) &&& 31)) ||| r (j + 1))) := by
  constructor
  · rw [fX2_sampleAt, byte_in (by omega) ht, cl_eq, nI_1, byte_in hj ht, cl_eq, eX6_wrapped, cl_eq]
  · rw [fX7_sampleAt, rd_in (j := j) rfl (by omega) (by omega), nI_1, rd_in (j := j + 1) rfl (by omega) (by omega), ← h j (by omega), ← h (j + 1) hj, eX7_wrapped, cl_eq]
theorem clear_c {m : Nat} (hm : m ≤ 1000) : ∀ (F i : Nat) (r : Nat → Int32), i ≤ m → m < F + i → ∃ r1, fX2_clearFor_b16 F (nI i) (nI m) r = some (nI m, r1) ∧ (∀ j, j < i → r1 j = r j) ∧ ∀ j, i ≤ j → j < m → r1 j = 0 := by
  intro F
  induction F with
  | zero => intro i r h1 h2; exact absurd h2 (by omega)
  | succ F ih =>
    intro i r h1 h2
    rw [fX2_clearFor_b16]
    by_cases g : m ≤ i
    · rw [br_t1 (nI_le g (by omega))]
      exact ⟨r, rfl, fun _ _ => rfl, fun j h3 h4 => absurd h4 (by omega)⟩
    · rw [br_f1 (nI_ge (by omega) (by omega)), wr_in (j := i) rfl (by omega) (by omega), nm_eq, nI_1]
      obtain ⟨r1, k1, k2, k3⟩ := ih (i + 1) (upd r i 0) (by omega) (by omega)
      refine ⟨r1, k1, fun j hj => ?_, fun j h3 h4 => ?_⟩
      · rw [k2 j (by omega)]; exact pk_un (by omega)
      · by_cases e : j = i
        · subst e; rw [k2 j (by omega)]; exact pk_us
        · exact k3 j (by omega) h4
theorem needed_c {n B : Nat} (hB : B ≤ 8) (hn : n ≤ 1000) : fX2_needed (nI n * nI B) = some (nI ((n * B + 7) / 8)) := by
  have h8 : n * B ≤ 1000 * 8 := Nat.mul_le_mul hn hB
  rw [fX2_needed, pk_mul, show nI (n * B) + (7 : Int32) = nI (n * B + 7) from ix_l _ 7, pk_shrN (n := n * B + 7) (by omega) _ 3 (by decide)]
theorem clear_n {n B : Nat} (hB : B ≤ 8) (hn : n ≤ 500) (cl : Int32) (r : Nat → Int32) : ∃ r1, fX2_clearFor (nI n * nI B) cl r = some (nI ((n * B + 7) / 8), r1) ∧ ∀ j, j < (n * B + 7) / 8 → r1 j = 0 := by
  have h8 : n * B ≤ 500 * 8 := Nat.mul_le_mul hn hB
  obtain ⟨r1, k1, -, k3⟩ := clear_c (m := (n * B + 7) / 8) (by omega) 1100 0 r (by omega) (by omega)
  refine ⟨r1, ?_, fun j hj => k3 j (by omega) hj⟩
  rw [fX2_clearFor, needed_c hB (by omega), cl_eq, if_pos (show nI ((n * B + 7) / 8) < (1000 : Int32) from nI_lt (b := 1000) (by omega) (by omega)), nm_eq]
  exact k1
theorem addS_c {t : Nat} (ht : t + 2 ≤ 1000) (v : Int32) (r : Nat → Int32) : fX2_addSample v (nI t) r = some (nI (t + 2), upd (upd r t ((v >>> ((8 : Int32) &&& 31)) &&& 255)) (t + 1) (v &&& 255)) := by
  rw [fX2_addSample, add_b (by omega), cl_eq, nm_eq, nm_eq, add_b (by omega), cl_eq, nm_eq, nm_eq]
theorem addS_r {t : Nat} (ht : t + 2 ≤ 1000) (v : Int32) (r : Nat → Int32) : fX7_sample v (nI t) r = some (nI (t + 2), upd (upd r t ((v >>> ((8 : Int32) &&& 31)) &&& 255)) (t + 1) (v &&& 255)) := by
  rw [fX7_sample, wr_in (j := t) rfl (by omega) (by omega), nI_1, wr_in (j := t + 1) rfl (by omega) (by omega), nm_eq, ix_l]
theorem cb_c (a0 a1 a2 : Int32) : fX2_codeBit a0 a1 a2 = some (if a2 = 0 then a0 else (a1 - 1) - a0) := by
  rw [fX2_codeBit]
  by_cases h : a2 = 0
  · rw [br_t1 h, if_pos h]
  · rw [br_f1 h, if_neg h]
theorem bb_c {p : Nat} (hp : p < 100000) (a : Int32) : fX2_byteBit (nI p) a = some (if a = 0 then nI (p % 8) else 7 - nI (p % 8)) := by
  have e : nI p &&& (7 : Int32) = nI (p % 8) := pk_andN (by omega) 3 (by decide)
  rw [fX2_byteBit, e]
  by_cases h : a = 0
  · rw [br_t1 h, if_pos h]
  · rw [br_f1 h, if_neg h]
theorem p_shr {p : Nat} (hp : p < 100000) : nI p >>> ((3 : Int32) &&& 31) = nI (p / 8) := pk_shrN (by omega) _ 3 (by decide)
theorem p_div {p : Nat} (hp : p < 100000) : nI p / (8 : Int32) = nI (p / 8) := pk_div (d := 8) (by omega) (by omega) (by omega)
theorem p_rem {p : Nat} (hp : p < 100000) : nI p - nI p / (8 : Int32) * (8 : Int32) = nI (p % 8) := pk_rem (d := 8) (by omega) (by omega) (by omega)
theorem nz_8 {β : Type} (k : Option β) : pq_nz (8 : Int32) k = k := if_neg (by decide)
/-- one bit on both sides -/
theorem bit_r {p m : Nat} (hp : p / 8 < m) (hm : m ≤ 1000) (v a : Int32) (f : Nat → Int32) : fX7_bit (nI p) v a f = some (upd f (p / 8) (f (p / 8) ||| (v <<< ((if a = 0 then nI (p % 8) else 7 - nI (p % 8)) &&& 31)))) := by
  rw [fX7_bit, nz_8, nz_8, p_rem (by omega), p_div (by omega), rd_in (j := p / 8) rfl (by omega) (by omega)]
  by_cases h : a = 0
  · rw [br_t1 h, if_pos h, nz_8, fX7_bit_b36, wr_in (j := p / 8) rfl (by omega) (by omega)]
  · rw [br_f1 h, if_neg h, nz_8, fX7_bit_b36, wr_in (j := p / 8) rfl (by omega) (by omega)]
