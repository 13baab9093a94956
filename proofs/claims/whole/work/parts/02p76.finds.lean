theorem nne {v : Int32} (h : -32768 ≤ v.toInt) : ¬ v = (-100000 : Int32) := by
  intro q
  rw [q] at h
  exact absurd h (by decide)
/-- a sample lies between the edges of its code -/
theorem hit {x : Int32} (hx : -32768 ≤ x.toInt ∧ x.toInt ≤ 32767) {k : Nat} (hk : k < 2) : ∃ c : Nat, c < 256 ∧ sys k x = some (nI c) ∧ (edg k 0 c).toInt ≤ x.toInt ∧ x.toInt ≤ (edg k 1 c).toInt := by
  rcases (show k = 0 ∨ k = 1 by omega) with rfl | rfl
  · obtain ⟨a, q, r, t, h1, h2, h3, h4, h5, h6, -, h8⟩ := mu_both x
    obtain ⟨j, rfl⟩ : ∃ j, t = 16 + j := ⟨t - 16, by omega⟩
    obtain ⟨⟨m1, m2⟩, m3⟩ := mu_tab r (by omega) j (by omega)
    rw [show 16 + j - 16 = j by omega] at h8
    refine ⟨(if x.toInt < 0 then 127 else 255) - (16 * r + j), by split <;> omega, h8, ?_⟩
    by_cases hs : x.toInt < 0
    · rw [if_pos hs]
      rw [if_pos (by omega)] at h1
      have m3 : (edg 0 0 (127 - (16 * r + j))).toInt = -(4 * ((if 16 * r + j = 127 then 8192 else (17 + j) * 2 ^ (r + 1) - 34 : Nat) : Int)) ∧ (edg 0 1 (127 - (16 * r + j))).toInt = 3 - 4 * ((if (16 + j) * 2 ^ (r + 1) ≤ 34 then 1 else (16 + j) * 2 ^ (r + 1) - 33 : Nat) : Int) := by
        rcases m3 with ⟨rfl, rfl⟩ | m3
        · exfalso
          have : a ≥ 1 := by omega
          split at h2 <;> omega
        · exact m3
      rw [m3.1, m3.2]
      have hr8 : r = 0 ∨ r = 1 ∨ r = 2 ∨ r = 3 ∨ r = 4 ∨ r = 5 ∨ r = 6 ∨ r = 7 := by omega
      rcases hr8 with rfl | rfl | rfl | rfl | rfl | rfl | rfl | rfl <;> (simp only [Nat.reduceAdd, Nat.reducePow] at h4 ⊢; split at h2 <;> (constructor <;> split <;> omega))
    · rw [if_neg hs]
      rw [if_neg (by omega)] at h1
      rw [m1, m2]
      have hr8 : r = 0 ∨ r = 1 ∨ r = 2 ∨ r = 3 ∨ r = 4 ∨ r = 5 ∨ r = 6 ∨ r = 7 := by omega
      rcases hr8 with rfl | rfl | rfl | rfl | rfl | rfl | rfl | rfl <;> (simp only [Nat.reduceAdd, Nat.reducePow] at h4 ⊢; split at h2 <;> (constructor <;> first | omega | (split <;> omega)))
  · obtain ⟨q, r, t, h1, h2, h3, h4, h5, -, h7⟩ := a_both hx
    have hy : 16 * r + t % 16 < 128 := by omega
    obtain ⟨x1, x2, x3, x4⟩ := xor_rng _ hy
    obtain ⟨⟨m1, m2⟩, m3, m4⟩ := a_tab r (by omega) (t % 16) (by omega)
    refine ⟨(16 * r + t % 16) ^^^ (if x.toInt < 0 then 85 else 213), by split <;> assumption, h7, ?_⟩
    have et : (if r = 0 then t % 16 else 16 + t % 16) = t := by
      split
      · have := h4 (by assumption); omega
      · have := h5 (by omega); omega
    rw [et] at m1 m2 m3 m4
    have hr8 : r = 0 ∨ r = 1 ∨ r = 2 ∨ r = 3 ∨ r = 4 ∨ r = 5 ∨ r = 6 ∨ r = 7 := by omega
    by_cases hs : x.toInt < 0
    · rw [if_pos hs]
      rw [if_pos hs] at h1
      rw [m3, m4]
      rcases hr8 with rfl | rfl | rfl | rfl | rfl | rfl | rfl | rfl <;> (simp only [Nat.reducePow, Nat.reduceEqDiff, if_true, if_false, reduceIte] at h3 ⊢; omega)
    · rw [if_neg hs]
      rw [if_neg hs] at h1
      rw [m1, m2]
      rcases hr8 with rfl | rfl | rfl | rfl | rfl | rfl | rfl | rfl <;> (simp only [Nat.reducePow, Nat.reduceEqDiff, if_true, if_false, reduceIte] at h3 ⊢; omega)
/-- the rows of least and greatest of one law, with all samples below X read -/
def ivK (k : Nat) (X : Int) (l g : Nat → Int32) : Prop := ∀ c, c < 256 → (edg k 0 c = -100000 → l (256 * k + c) = -100000 ∧ g (256 * k + c) = -100000) ∧ (¬ edg k 0 c = -100000 → l (256 * k + c) = (if X ≤ (edg k 0 c).toInt then -100000 else edg k 0 c) ∧ (X ≤ (edg k 0 c).toInt → g (256 * k + c) = -100000) ∧ ((edg k 1 c).toInt < X → g (256 * k + c) = edg k 1 c))
theorem ivK.step {k : Nat} (hk : k < 2) {x : Int32} (hx : -32768 ≤ x.toInt ∧ x.toInt ≤ 32767) {l g : Nat → Int32} (h : ivK k x.toInt l g) {c0 : Nat} (hc0 : c0 < 256) (hs : sys k x = some (nI c0)) (hlo : (edg k 0 c0).toInt ≤ x.toInt) (hhi : x.toInt ≤ (edg k 1 c0).toInt) :
    ivK k (x.toInt + 1) (if l (256 * k + c0) = -100000 then upd l (256 * k + c0) x else l) (upd g (256 * k + c0) x) := by
  have hne0 : ¬ edg k 0 c0 = -100000 := by
    intro q
    rcases edg_att k hk c0 hc0 with ⟨-, q2⟩ | q2
    · rw [q2] at hhi
      have : (-100000 : Int32).toInt = -100000 := by decide
      omega
    · exact nne q2.1 q
  intro c hc
  have hatt := edg_att k hk c hc
  obtain ⟨h1, h2⟩ := h c hc
  by_cases hcc : c = c0
  · subst hcc
    refine ⟨fun q => absurd q hne0, fun _ => ?_⟩
    obtain ⟨e1, e2, e3⟩ := h2 hne0
    refine ⟨?_, fun q => absurd q (by omega), fun q => ?_⟩
    · rw [if_neg (show ¬ x.toInt + 1 ≤ (edg k 0 c).toInt by omega)]
      by_cases hX : x.toInt ≤ (edg k 0 c).toInt
      · rw [if_pos hX] at e1
        rw [if_pos e1, pk_us]
        exact (nq_eq _ _).mpr (by omega)
      · rw [if_neg hX] at e1
        rw [if_neg (by rw [e1]; exact hne0)]
        exact e1
    · rw [pk_us]
      exact (nq_eq _ _).mpr (by omega)
  · have hix : 256 * k + c ≠ 256 * k + c0 := by omega
    have el : (if l (256 * k + c0) = -100000 then upd l (256 * k + c0) x else l) (256 * k + c) = l (256 * k + c) := by
      split
      · exact pk_un hix
      · rfl
    rw [el, pk_un hix]
    refine ⟨h1, fun q => ?_⟩
    obtain ⟨e1, e2, e3⟩ := h2 q
    have hdis : ∀ y : Int32, sys k y = some (nI c) → ¬ x = y := by
      intro y hy hxy
      rw [hxy, hy] at hs
      exact hcc ((nI_eq (by omega) (by omega)).mp (Option.some.inj hs))
    rcases hatt with ⟨q1, -⟩ | ⟨q1, q2, q3, q4, q5⟩
    · exact absurd q1 q
    have d0 : x.toInt ≠ (edg k 0 c).toInt := fun z => hdis _ q4 ((nq_eq _ _).mpr z)
    have d1 : x.toInt ≠ (edg k 1 c).toInt := fun z => hdis _ q5 ((nq_eq _ _).mpr z)
    refine ⟨?_, fun z => e2 (by omega), fun z => e3 (by omega)⟩
    rw [e1]
    by_cases hX : x.toInt ≤ (edg k 0 c).toInt
    · rw [if_pos hX, if_pos (by omega)]
    · rw [if_neg hX, if_neg (by omega)]
theorem ivK.other {k k2 : Nat} (hkk : k ≠ k2) {X : Int} {x : Int32} {l g : Nat → Int32} (h : ivK k X l g) {c0 : Nat} (hc0 : c0 < 256) : ivK k X (if l (256 * k2 + c0) = -100000 then upd l (256 * k2 + c0) x else l) (upd g (256 * k2 + c0) x) := by
  intro c hc
  have hix : 256 * k + c ≠ 256 * k2 + c0 := by omega
  have el : (if l (256 * k2 + c0) = -100000 then upd l (256 * k2 + c0) x else l) (256 * k + c) = l (256 * k + c) := by
    split
    · exact pk_un hix
    · rfl
  rw [el, pk_un hix]
  exact h c hc
theorem finds_clear : ∀ (n f : Nat) (cf : Int32) (l g : Nat → Int32), n ≤ 512 → n < f → (∀ j, j < 512 - n → l j = -100000 ∧ g j = -100000) → ∃ l1 g1, fX7_finds_b15 f (nI (512 - n)) cf l g = fX7_finds_b48 66000 (-32768 : Int32) cf l1 g1 ∧ ∀ j, j < 512 → l1 j = -100000 ∧ g1 j = -100000 := by
  intro n
  induction n with
  | zero =>
    intro f cf l g h1 h2 h3
    obtain ⟨f, rfl⟩ : ∃ z, f = z + 1 := ⟨f - 1, by omega⟩
    refine ⟨l, g, ?_, fun j hj => h3 j (by omega)⟩
    rw [fX7_finds_b15]
    exact br_t1 (by decide) _ _
  | succ n ih =>
    intro f cf l g h1 h2 h3
    obtain ⟨f, rfl⟩ : ∃ z, f = z + 1 := ⟨f - 1, by omega⟩
    generalize hi : 512 - (n + 1) = i at h3 ⊢
    have hi5 : i < 512 := by omega
    rw [fX7_finds_b15, br_f1 (show ¬ (512 : Int32) ≤ nI i from not_le_nI (m := 512) rfl hi5 (by omega)), wr_in (i := nI i) (j := i) rfl (by omega) (by omega), wr_in (i := nI i) (j := i) rfl (by omega) (by omega), nm_eq, nI_1]
    obtain ⟨l1, g1, q1, q2⟩ := ih f cf (upd l i (-100000)) (upd g i (-100000)) (by omega) (by omega) (fun j hj => by
      by_cases e : j = i
      · subst e; exact ⟨pk_us, pk_us⟩
      · rw [pk_un e, pk_un e]; exact h3 j (by omega))
    rw [show 512 - n = i + 1 by omega] at q1
    exact ⟨l1, g1, q1, q2⟩
theorem finds_loop (cf : Int32) : ∀ (n f : Nat) (x : Int32) (l g : Nat → Int32), x.toInt = 32768 - (n : Int) → n ≤ 65536 → n < f → ivK 0 x.toInt l g → ivK 1 x.toInt l g → ∃ l1 g1, fX7_finds_b48 f x cf l g = some (cf, l1, g1) ∧ ivK 0 32768 l1 g1 ∧ ivK 1 32768 l1 g1 := by
  intro n
  induction n with
  | zero =>
    intro f x l g hx h1 h2 h3 h4
    obtain ⟨f, rfl⟩ : ∃ z, f = z + 1 := ⟨f - 1, by omega⟩
    have hx : x.toInt = 32768 := by omega
    rw [hx] at h3 h4
    refine ⟨l, g, ?_, h3, h4⟩
    rw [fX7_finds_b48]
    exact br_t1 (by rw [nq_lt, hx]; decide) _ _
  | succ n ih =>
    intro f x l g hx h1 h2 h3 h4
    obtain ⟨f, rfl⟩ : ∃ z, f = z + 1 := ⟨f - 1, by omega⟩
    have hxr : -32768 ≤ x.toInt ∧ x.toInt ≤ 32767 := by omega
    have e1 : (x + (1 : Int32)).toInt = x.toInt + 1 := by rw [Int32.toInt_add, show (1 : Int32).toInt = 1 from rfl, Int.bmod_eq_of_le (by omega) (by omega)]
    obtain ⟨c, c1, c2, c3, c4⟩ := hit hxr (k := 0) (by omega)
    obtain ⟨d, d1, d2, d3, d4⟩ := hit hxr (k := 1) (by omega)
    have c2' : fX7_muSays x = some (nI c) := c2
    have d2' : fX7_aSays x = some (nI d) := d2
    -- mu
    have s0 := ivK.step (by omega) hxr h3 c1 c2 c3 c4
    have s1 := ivK.other (x := x) (show 1 ≠ 0 by omega) h4 c1
    -- A
    have t1 := ivK.step (by omega) hxr s1 d1 d2 d3 d4
    have t0 := ivK.other (x := x) (show 0 ≠ 1 by omega) s0 d1
    rw [show 256 * 0 + c = c by omega] at t0 t1
    rw [show 256 * 1 + d = 256 + d by omega] at t0 t1
    rw [← e1] at t0 t1
    obtain ⟨l1, g1, q1, q2, q3⟩ := ih f (x + 1) _ _ (by omega) (by omega) (by omega) t0 t1
    refine ⟨l1, g1, ?_, q2, q3⟩
    rw [fX7_finds_b48, br_f1 (by rw [nq_lt]; have : (32767 : Int32).toInt = 32767 := (by decide); omega), c2', cl_eq, rd_in (i := nI c) (j := c) rfl (by omega) (by omega)]
    have e79 : ∀ l : Nat → Int32, fX7_finds_b79 (fX7_finds_b48 f) x (nI c) cf l g = fX7_finds_b48 f (x + 1) cf (if l (256 + d) = -100000 then upd l (256 + d) x else l) (upd (upd g c x) (256 + d) x) := by
      intro l
      have ed : (256 : Int32) + nI d = nI (256 + d) := nI_add 256 d
      rw [fX7_finds_b79, wr_in (i := nI c) (j := c) rfl (by omega) (by omega), d2', cl_eq, nm_eq, ed, rd_in (i := nI (256 + d)) (j := 256 + d) rfl (by omega) (by omega)]
      by_cases hl : l (256 + d) = (-100000 : Int32)
      · rw [br_t1 hl, if_pos hl, wr_in (i := nI (256 + d)) (j := 256 + d) rfl (by omega) (by omega), fX7_finds_b114, wr_in (i := nI (256 + d)) (j := 256 + d) rfl (by omega) (by omega), nm_eq]
      · rw [br_f1 hl, if_neg hl, fX7_finds_b114, wr_in (i := nI (256 + d)) (j := 256 + d) rfl (by omega) (by omega), nm_eq]
    by_cases hl : l c = (-100000 : Int32)
    · rw [br_t1 hl, wr_in (i := nI c) (j := c) rfl (by omega) (by omega), e79]
      rw [if_pos hl] at q1
      exact q1
    · rw [br_f1 hl, e79]
      rw [if_neg hl] at q1
      exact q1
def ivF (l g : Nat → Int32) : Prop := ∀ k, k < 2 → ∀ c, c < 256 → l (256 * k + c) = edg k 0 c ∧ g (256 * k + c) = edg k 1 c
theorem ivK.fin {k : Nat} (hk : k < 2) {l g : Nat → Int32} (h : ivK k 32768 l g) : ∀ c, c < 256 → l (256 * k + c) = edg k 0 c ∧ g (256 * k + c) = edg k 1 c := by
  intro c hc
  obtain ⟨h1, h2⟩ := h c hc
  rcases edg_att k hk c hc with ⟨q1, q2⟩ | ⟨q1, q2, q3, q4, q5⟩
  · rw [q1, q2]; exact h1 q1
  · obtain ⟨e1, e2, e3⟩ := h2 (nne q1)
    rw [if_neg (by omega)] at e1
    exact ⟨e1, e3 (by omega)⟩
theorem finds_eq (l g : Nat → Int32) : ∃ l1 g1, fX7_finds (0 : Int32) l g = some (1, l1, g1) ∧ ivF l1 g1 := by
  obtain ⟨l1, g1, q1, q2⟩ := finds_clear 512 1100 1 l g (by omega) (by omega) (fun j hj => absurd hj (by omega))
  have i0 : ∀ k, k < 2 → ivK k (-32768 : Int32).toInt l1 g1 := by
    intro k hk c hc
    have hq := q2 (256 * k + c) (by omega)
    refine ⟨fun _ => hq, fun hne => ?_⟩
    rcases edg_att k hk c hc with ⟨z1, -⟩ | ⟨z1, z2, z3, -⟩
    · exact absurd z1 hne
    have e0 : (-32768 : Int32).toInt = -32768 := by decide
    rw [e0]
    exact ⟨by rw [if_pos z1]; exact hq.1, fun _ => hq.2, fun z => absurd z (by omega)⟩
  obtain ⟨l2, g2, k1, k2, k3⟩ := finds_loop 1 65536 66000 (-32768) l1 g1 (by decide) (by omega) (by omega) (i0 0 (by omega)) (i0 1 (by omega))
  refine ⟨l2, g2, ?_, fun k hk => ?_⟩
  · rw [fX7_finds, br_t1 rfl]
    exact q1.trans k1
  · rcases (show k = 0 ∨ k = 1 by omega) with rfl | rfl
    · exact k2.fin (by omega)
    · exact k3.fin (by omega)
