/-! codes put into a row of bits and read out of it, on both sides -/
abbrev kP := Int32 → Int32 → Int32 → Int32 → Int32 → Int32 → Int32 → Int32 → Int32 → Int32 → Int32 → Int32 → Int32 → Int32 → (Nat → Int32) → (Nat → Int32) → (Nat → Int32) → (Nat → Int32) → Option (Int32 × Int32 × Int32 × Int32 × Int32 × Int32 × Int32 × Int32 × Int32 × (Nat → Int32) × (Nat → Int32) × (Nat → Int32) × (Nat → Int32))
abbrev kU := Int32 → Int32 → Int32 → Int32 → Int32 → Int32 → Int32 → Int32 → Int32 → Int32 → Int32 → Int32 → Int32 → (Nat → Int32) → (Nat → Int32) → (Nat → Int32) → (Nat → Int32) → (Nat → Int32) → Option (Int32 × Int32 × Int32 × Int32 × Int32 × Int32 × Int32 × Int32 × Int32 × (Nat → Int32) × (Nat → Int32) × (Nat → Int32) × (Nat → Int32) × (Nat → Int32))
def cB (first : Int32) (B c : Nat) : Int32 := if first = 0 then nI c else (nI B - 1) - nI c
def yB (first : Int32) (p : Nat) : Int32 := if first = 0 then nI (p % 8) else 7 - nI (p % 8)
theorem put_c1 {B i m c : Nat} (hB : B ≤ 8) (hm : m ≤ 1000) (hi : i * B + B ≤ 8 * m) (hc : c < B) (F : Nat) (first code : Int32) (r : Nat → Int32) : fX2_putCode_b3 (nI m) (F + 1) (nI i) (nI B) first code (nI c) r = fX2_putCode_b3 (nI m) F (nI i) (nI B) first code (nI (c + 1)) (upd r ((i * B + c) / 8) (r ((i * B + c) / 8) ||| (((code >>> (cB first B c &&& 31)) &&& 1) <<< (yB first (i * B + c) &&& 31)))) := by
  have hp : (i * B + c) / 8 < m := by omega
  rw [fX2_putCode_b3, br_f1 (nI_ge hc (by omega)), pk_mul, nI_add, nm_eq, p_shr (by omega), nm_eq, cb_c, cl_eq, nm_eq, br_f1 (nI_pos (by omega)), br_f1 (nI_ge hp (by omega)), rd_in (j := (i * B + c) / 8) rfl (by omega) (by omega), bb_c (by omega), cl_eq, wr_in (j := (i * B + c) / 8) rfl (by omega) (by omega), fX2_putCode_b70, nm_eq, nI_1]
  rfl
section PK
variable {fk b2 b3 b4 b5 t2 t3 t4 t5 w2 w3 w4 w5 p2 p3 p4 p5 fc fs fr fu fh fl fw tf : Nat → Int32}
theorem put_r1 {B i m c : Nat} (hB : B ≤ 8) (hm : m ≤ 1000) (hi : i * B + B ≤ 8 * m) (hc : c < B) (K : kP) (F : Nat) (first code x1 x3 x4 to z e y od ev ta cl : Int32) (g b v f : Nat → Int32) : fX7_pack_b159 K fk b2 b3 b4 b5 t2 t3 t4 t5 w2 w3 w4 w5 p2 p3 p4 p5 fc fs fr fu fh fl fw tf (F + 1) x1 first x3 x4 (nI B) (nI i) code (nI c) to z e y od ev ta cl g b v f = fX7_pack_b159 K fk b2 b3 b4 b5 t2 t3 t4 t5 w2 w3 w4 w5 p2 p3 p4 p5 fc fs fr fu fh fl fw tf F x1 first x3 x4 (nI B) (nI i) code (nI (c + 1)) to z e y od ev ta cl g b v (upd f ((i * B + c) / 8) (f ((i * B + c) / 8) ||| (((code >>> (cB first B c &&& 31)) &&& 1) <<< (yB first (i * B + c) &&& 31)))) := by
  have hp : (i * B + c) / 8 < m := by omega
  have e2 : nI B * nI i + nI c = nI (i * B + c) := by rw [pk_mul, nI_add, Nat.mul_comm]
  rw [fX7_pack_b159, br_f1 (nI_ge hc (by omega)), e2]
  by_cases h : first = 0
  · rw [br_t1 h, fX7_pack_b197, bit_r hp hm, cl_eq, nm_eq, nI_1, cB, yB, if_pos h, if_pos h]
  · rw [br_f1 h, fX7_pack_b197, bit_r hp hm, cl_eq, nm_eq, nI_1, cB, yB, if_neg h, if_neg h]
theorem put_both {B i m : Nat} (hB : B ≤ 8) (hm : m ≤ 1000) (hi : i * B + B ≤ 8 * m) (K : kP) (first code x1 x3 x4 to z e y od ev ta cl : Int32) (g b v : Nat → Int32) : ∀ (F c : Nat) (r f : Nat → Int32), c ≤ B → B < F + c → ag m r f → ∃ r1 f1, fX2_putCode_b3 (nI m) F (nI i) (nI B) first code (nI c) r = some r1 ∧ fX7_pack_b159 K fk b2 b3 b4 b5 t2 t3 t4 t5 w2 w3 w4 w5 p2 p3 p4 p5 fc fs fr fu fh fl fw tf F x1 first x3 x4 (nI B) (nI i) code (nI c) to z e y od ev ta cl g b v f = K x1 first x3 x4 (nI B) (nI (i + 1)) to z e y od ev ta cl g b v f1 ∧ ag m r1 f1 := by
  intro F
  induction F with
  | zero => intro c r f h1 h2; exact absurd h2 (by omega)
  | succ F ih =>
    intro c r f h1 h2 h
    by_cases g0 : B ≤ c
    · rw [fX2_putCode_b3, fX7_pack_b159, br_t1 (nI_le g0 (by omega)), br_t1 (nI_le g0 (by omega)), nm_eq, nI_1]
      exact ⟨r, f, rfl, rfl, h⟩
    · rw [put_c1 hB hm hi (by omega), put_r1 hB hm hi (by omega)]
      refine ih (c + 1) _ _ (by omega) (by omega) ?_
      rw [h _ (by omega : (i * B + c) / 8 < m)]
      exact h.at _ _
end PK
theorem s_0 : ∀ c, c < 8 → ∀ mm, mm < 2 ^ c → ∀ w, w < 2 → nI mm ||| (nI w <<< (nI c &&& 31)) = nI (mm + w * 2 ^ c) := by decide +kernel
theorem s_1 : ∀ B, B < 9 → ∀ c, c < B → ∀ mm, mm < 2 ^ c → ∀ w, w < 2 → nI (mm * 2 ^ (B - c)) ||| (nI w <<< (((nI B - 1) - nI c) &&& 31)) = nI ((2 * mm + w) * 2 ^ (B - (c + 1))) := by decide +kernel
theorem get_c1 {B i t c : Nat} (hB : B ≤ 8) (ht : t ≤ 1000) (hi : i * B + B ≤ 8 * t) (hc : c < B) (F : Nat) (first x4 : Int32) (r : Nat → Int32) : fX2_codeAt_b6 (nI t) r (F + 1) (nI i) (nI B) first x4 (nI c) = fX2_codeAt_b6 (nI t) r F (nI i) (nI B) first (x4 ||| (((r ((i * B + c) / 8) >>> (yB first (i * B + c) &&& 31)) &&& 1) <<< (cB first B c &&& 31))) (nI (c + 1)) := by
  have hp : (i * B + c) / 8 < t := by omega
  rw [fX2_codeAt_b6, br_f1 (nI_ge hc (by omega)), pk_mul, nI_add, nm_eq, p_shr (by omega), byte_in hp ht, cl_eq, bb_c (by omega), cl_eq, nm_eq, cb_c, cl_eq, nm_eq, nm_eq, nI_1]
  rfl
section UK
variable {fk t2 t3 t4 t5 w2 w3 w4 w5 p2 p3 p4 p5 fc fr fu fh fl fw f56 f64 tf : Nat → Int32}
theorem get_r1 {B i t c : Nat} (hB : B ≤ 8) (ht : t ≤ 1000) (hi : i * B + B ≤ 8 * t) (hc : c < B) (K : kU) (F : Nat) (first x1 x3 x6 to z e y od ev ta cl : Int32) (fse g b v f : Nat → Int32) : fX7_unpack_b74 K fk t2 t3 t4 t5 w2 w3 w4 w5 p2 p3 p4 p5 fc fr fu fh fl fw f56 f64 tf (F + 1) x1 first x3 (nI B) (nI i) x6 (nI c) to z e y od ev ta cl fse g b v f = fX7_unpack_b74 K fk t2 t3 t4 t5 w2 w3 w4 w5 p2 p3 p4 p5 fc fr fu fh fl fw f56 f64 tf F x1 first x3 (nI B) (nI i) (if first = 0 then x6 ||| (((tf ((i * B + c) / 8) >>> (yB first (i * B + c) &&& 31)) &&& 1) <<< (nI c &&& 31)) else 2 * x6 + ((tf ((i * B + c) / 8) >>> (yB first (i * B + c) &&& 31)) &&& 1)) (nI (c + 1)) to z e y od ev ta cl fse g b v f := by
  have hp : (i * B + c) / 8 < t := by omega
  have e2 : nI B * nI i + nI c = nI (i * B + c) := by rw [pk_mul, nI_add, Nat.mul_comm]
  rw [fX7_unpack_b74, br_f1 (nI_ge hc (by omega)), e2, nm_eq, nz_8, p_rem (by omega), p_div (by omega), rd_in (j := (i * B + c) / 8) rfl (by omega) (by omega)]
  unfold yB
  by_cases h : first = 0
  · rw [br_t1 h, nz_8, fX7_unpack_b121, nm_eq, br_t1 h, fX7_unpack_b148, nm_eq, nI_1, if_pos h, if_pos h]
  · rw [br_f1 h, nz_8, fX7_unpack_b121, nm_eq, br_f1 h, fX7_unpack_b148, nm_eq, nI_1, if_neg h, if_neg h]
theorem get_both {B i t : Nat} (hB : B ≤ 8) (ht : t ≤ 1000) (hi : i * B + B ≤ 8 * t) {r : Nat → Int32} (hr : ag t r tf) (K : kU) (F : Nat) (first x1 x3 to z e y od ev ta cl : Int32) (fse g b v f : Nat → Int32) : ∀ (d c mm : Nat), c + d = B → mm < 2 ^ c → ∃ cc, cc < 2 ^ B ∧ fX2_codeAt_b6 (nI t) r (F + 1 + d) (nI i) (nI B) first (if first = 0 then nI mm else nI (mm * 2 ^ (B - c))) (nI c) = some (nI cc) ∧ fX7_unpack_b74 K fk t2 t3 t4 t5 w2 w3 w4 w5 p2 p3 p4 p5 fc fr fu fh fl fw f56 f64 tf (F + 1 + d) x1 first x3 (nI B) (nI i) (nI mm) (nI c) to z e y od ev ta cl fse g b v f = fX7_unpack_b74 K fk t2 t3 t4 t5 w2 w3 w4 w5 p2 p3 p4 p5 fc fr fu fh fl fw f56 f64 tf (F + 1) x1 first x3 (nI B) (nI i) (nI cc) (nI B) to z e y od ev ta cl fse g b v f := by
  intro d
  induction d with
  | zero =>
    intro c mm h1 h2
    have e : c = B := by omega
    subst e
    refine ⟨mm, h2, ?_, rfl⟩
    rw [Nat.add_zero, fX2_codeAt_b6, br_t1 (nI_le (Nat.le_refl _) (by omega)), Nat.sub_self, Nat.pow_zero, Nat.mul_one, ite_self]
  | succ d ih =>
    intro c mm h1 h2
    have hp : (i * B + c) / 8 < t := by omega
    rw [show F + 1 + (d + 1) = (F + 1 + d) + 1 from rfl, get_c1 hB ht hi (by omega), get_r1 hB ht hi (by omega), hr _ hp]
    obtain ⟨w, hw, ew⟩ := pk_andE (tf ((i * B + c) / 8) >>> (yB first (i * B + c) &&& 31)) (m := 1) 1 (by decide)
    rw [ew]
    by_cases h : first = 0
    · obtain ⟨cc, k1, k2, k3⟩ := ih (c + 1) (mm + w * 2 ^ c) (by omega) (by rw [Nat.pow_succ]; have : w * 2 ^ c ≤ 1 * 2 ^ c := Nat.mul_le_mul_right _ (by omega); omega)
      rw [if_pos h] at k2
      refine ⟨cc, k1, ?_, ?_⟩
      · rw [if_pos h, cB, if_pos h, s_0 c (by omega) mm h2 w hw]; exact k2
      · rw [if_pos h, s_0 c (by omega) mm h2 w hw]; exact k3
    · obtain ⟨cc, k1, k2, k3⟩ := ih (c + 1) (2 * mm + w) (by omega) (by rw [Nat.pow_succ]; omega)
      rw [if_neg h] at k2
      refine ⟨cc, k1, ?_, ?_⟩
      · rw [if_neg h, cB, if_neg h, s_1 B (by omega) c (by omega) mm h2 w hw]; exact k2
      · rw [if_neg h, show (2 : Int32) * nI mm + nI w = nI (2 * mm + w) from by rw [show (2 : Int32) = nI 2 from rfl, pk_mul, nI_add]]; exact k3
theorem get_all {B i t : Nat} (hB : B ≤ 8) (ht : t ≤ 1000) (hi : i * B + B ≤ 8 * t) {r : Nat → Int32} (hr : ag t r tf) (K : kU) (first x1 x3 to z e y od ev ta cl : Int32) (fse g b v f : Nat → Int32) : ∃ cc, cc < 2 ^ B ∧ fX2_codeAt (nI i) (nI B) first (nI t) r = some (nI cc) ∧ fX7_unpack_b74 K fk t2 t3 t4 t5 w2 w3 w4 w5 p2 p3 p4 p5 fc fr fu fh fl fw f56 f64 tf 1100 x1 first x3 (nI B) (nI i) 0 0 to z e y od ev ta cl fse g b v f = fX7_unpack_b74 K fk t2 t3 t4 t5 w2 w3 w4 w5 p2 p3 p4 p5 fc fr fu fh fl fw f56 f64 tf (1099 - B + 1) x1 first x3 (nI B) (nI i) (nI cc) (nI B) to z e y od ev ta cl fse g b v f := by
  obtain ⟨cc, k1, k2, k3⟩ := get_both (fk := fk) (t2 := t2) (t3 := t3) (t4 := t4) (t5 := t5) (w2 := w2) (w3 := w3) (w4 := w4) (w5 := w5) (p2 := p2) (p3 := p3) (p4 := p4) (p5 := p5) (fc := fc) (fr := fr) (fu := fu) (fh := fh) (fl := fl) (fw := fw) (f56 := f56) (f64 := f64) hB ht hi hr K (1099 - B) first x1 x3 to z e y od ev ta cl fse g b v f B 0 0 (by omega) (by simp)
  have e : 1099 - B + 1 + B = 1100 := by omega
  rw [e] at k2 k3
  rw [Nat.zero_mul, ite_self] at k2
  exact ⟨cc, k1, k2, k3⟩
end UK
