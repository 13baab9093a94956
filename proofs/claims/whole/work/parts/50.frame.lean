/-! worlds whose cells stand in another order, or beside others -/
theorem pq_rangeL {α : Type} (a b : List α) : (List.range a.length).map (fun i => (a ++ b)[i]?) = a.map some := by
  apply List.ext_getElem?
  intro i
  by_cases h : i < a.length
  · simp [h, List.getElem?_append_left h]
  · simp [List.getElem?_eq_none (Nat.le_of_not_lt h), h]
theorem pq_rangeR {α : Type} (a b : List α) : ((List.range b.length).map (fun i => a.length + i)).map (fun i => (a ++ b)[i]?) = b.map some := by
  apply List.ext_getElem?
  intro i
  by_cases h : i < b.length
  · simp [h]
  · simp [List.getElem?_eq_none (Nat.le_of_not_lt h), h]
theorem pq_ndR : ∀ (l : List Nat), l.Nodup → va_nd l = true
  | [], _ => rfl
  | a :: l, h => by
    have h1 := List.nodup_cons.mp h
    simp [va_nd, pq_ndR l h1.2, h1.1]
theorem pq_ndS (n k : Nat) : va_nd ((List.range n).map (fun i => k + i)) = true := pq_ndR _ (by
  rw [List.nodup_iff_pairwise_ne, List.pairwise_map]
  exact (List.nodup_iff_pairwise_ne.mp List.nodup_range).imp (fun h q => h (by omega)))
theorem pq_disS {n k : Nat} : ∀ i ∈ (List.range n).map (fun i => k + i), i ∉ List.range k := by
  intro i hi hj
  obtain ⟨j, -, rfl⟩ := List.mem_map.mp hi
  have := List.mem_range.mp hj
  omega
theorem pq_P_iff {D : va_G} {ws : va_W} {H : Heap} : va_P D vwCl ws H ↔ ∀ q ∈ ws, va_at D vwCl q H :=
  ⟨fun h q hq => by obtain ⟨i, hi⟩ := List.getElem?_of_mem hq; exact h i q hi, fun h k q hk => h q (List.mem_of_getElem? hk)⟩
theorem pq_D_iff {A : Nat → Prop} {ws : va_W} : va_D A ws ↔ (ws.map (fun q => q.1)).Nodup ∧ ∀ q ∈ ws, A q.1 := by
  constructor
  · intro h
    refine ⟨?_, fun q hq => by obtain ⟨i, hi⟩ := List.getElem?_of_mem hq; exact h.2 i q hi⟩
    rw [List.nodup_iff_pairwise_ne, List.pairwise_map, List.pairwise_iff_getElem]
    intro i j hi hj hij e
    exact absurd (h.1 i j _ _ (List.getElem?_eq_getElem hi) (List.getElem?_eq_getElem hj) e) (by omega)
  · intro h
    refine ⟨fun i j p q hi hj e => ?_, fun k q hk => h.2 q (List.mem_of_getElem? hk)⟩
    have h1 := h.1
    rw [List.nodup_iff_pairwise_ne, List.pairwise_map, List.pairwise_iff_getElem] at h1
    obtain ⟨li, rfl⟩ := List.getElem?_eq_some_iff.mp hi
    obtain ⟨lj, rfl⟩ := List.getElem?_eq_some_iff.mp hj
    rcases Nat.lt_trichotomy i j with g | g | g
    · exact absurd e (h1 i j li lj g)
    · exact g
    · exact absurd e.symm (h1 j i lj li g)
theorem pq_A_iff {ws : va_W} {sz q : Nat} : va_A ws sz q ↔ (∃ e, (q, e) ∈ ws) ∨ sz ≤ q :=
  ⟨fun h => h.elim (fun ⟨_, e, hk⟩ => Or.inl ⟨e, List.mem_of_getElem? hk⟩) Or.inr, fun h => h.elim (fun ⟨e, he⟩ => by obtain ⟨i, hi⟩ := List.getElem?_of_mem he; exact Or.inl ⟨i, e, hi⟩) Or.inr⟩
theorem pq_Pp {D : va_G} {ws ws' : va_W} {H : Heap} (hp : List.Perm ws ws') (h : va_P D vwCl ws H) : va_P D vwCl ws' H := pq_P_iff.mpr fun q hq => pq_P_iff.mp h q (hp.mem_iff.mpr hq)
theorem pq_Dp {A : Nat → Prop} {ws ws' : va_W} (hp : List.Perm ws ws') (h : va_D A ws) : va_D A ws' := by
  have h1 := pq_D_iff.mp h
  exact pq_D_iff.mpr ⟨(hp.map _).nodup_iff.mp h1.1, fun q hq => h1.2 q (hp.mem_iff.mpr hq)⟩
theorem pq_Ap {ws ws' : va_W} (hp : List.Perm ws ws') (sz : Nat) : va_A ws sz = va_A ws' sz := by
  funext q
  apply propext
  rw [pq_A_iff, pq_A_iff]
  exact ⟨fun h => h.elim (fun ⟨e, he⟩ => Or.inl ⟨e, hp.mem_iff.mp he⟩) Or.inr, fun h => h.elim (fun ⟨e, he⟩ => Or.inl ⟨e, hp.mem_iff.mpr he⟩) Or.inr⟩
theorem pq_Hp {D : va_G} {A : Nat → Prop} {s : State} {ws ws' : va_W} {H : Heap} {locs : List Loc} (hp : List.Perm ws ws') (h : pq_H D A s ws H locs) : pq_H D A s ws' H locs := ⟨pq_Pp hp h.1, pq_Dp hp h.2.1, h.2.2⟩
theorem pq_Prep {D : va_G} {cI cL : ClassId} {ws ws' : va_W} {sz : Nat} {U : State} (hp : List.Perm ws ws') (h : pq_Pre D cI cL ws sz U) : pq_Pre D cI cL ws' sz U := by
  obtain ⟨h1, h2, h3, h4, h5⟩ := h
  exact ⟨h1, pq_Pp hp h2, h3, pq_Dp hp h4, by rw [← pq_Ap hp]; exact h5⟩
theorem pq_CI.pm {l : Launch} {y : MethodName} {ws : List Cond} {fr lo : Nat} {D : va_G} {cI cL : ClassId} {As : List Value} {W0 W1 W0' W1' : va_W} {r : Int32} (hM : pq_CI l y ws fr lo D cI cL As W0 W1 r) (h0 : List.Perm W0' W0) (h1 : List.Perm W1' W1) : pq_CI l y ws fr lo D cI cL As W0' W1' r := by
  intro sz
  have hA := pq_Ap h0 sz
  refine pq_weak (hM sz) (fun a s h => ⟨h.1, pq_Prep h0 h.2⟩) (fun a s o t h q => ?_) (fun q h => by rw [hA]; exact h)
  obtain ⟨⟨r1, u, g1, g2, g3⟩, hF⟩ := q
  rw [hA]
  exact ⟨⟨r1, u, g1, g2, pq_Pp h1.symm g3.1, pq_Dp h1.symm g3.2⟩, hF⟩
theorem pq_CI.beside {l : Launch} {y : MethodName} {ws : List Cond} {fr lo : Nat} {D : va_G} {cI cL : ClassId} {As : List Value} {wc w1 : va_W} {r : Int32} (hM : pq_CI l y ws fr lo D cI cL As wc w1 r) (wr : va_W) : pq_CI l y ws fr lo D cI cL As (wc ++ wr) (w1 ++ wr) r := by
  intro sz
  have hC := pq_rangeL wc wr
  have hR := pq_rangeR wc wr
  have hnC : va_nd (List.range wc.length) = true := pq_ndR _ List.nodup_range
  refine pq_weak (hM sz) (fun a s h => ⟨h.1, h.2.sub (List.range wc.length) hC hnC⟩) (fun a s o t h q => ?_) (pq_Asub (List.range wc.length) hC)
  obtain ⟨⟨r1, u, g1, g2, g3⟩, hF⟩ := q
  obtain ⟨p1, p2, p3, p4, p5⟩ := h.2
  subst p1
  have hFc := pq_Asub (sz := s.heap.size) (List.range wc.length) hC
  obtain ⟨hP, hD⟩ := va_join (A0 := va_A (wc ++ wr) s.heap.size) (wr := wr) (w1 := w1) p2 (p4.self (sz := s.heap.size)) _ _ hC hR (pq_ndS _ _) pq_disS (fun q g1 g2 => hF.2 q g1 g2) hFc g3.1 g3.2
  exact ⟨⟨r1, u, g1, g2, pq_Pp List.perm_append_comm hP, pq_Dp List.perm_append_comm hD⟩, hF.1, fun q g1 g2 => hF.2 q g1 (fun h => g2 (hFc q h))⟩
/-- on some cells of a world, beside the others, in any order -/
theorem pq_CI.fp {l : Launch} {y : MethodName} {ws : List Cond} {fr lo : Nat} {D : va_G} {cI cL : ClassId} {As : List Value} {W0 W1 wc w1 : va_W} {r : Int32} (hM : pq_CI l y ws fr lo D cI cL As wc w1 r) (wr : va_W) (h0 : List.Perm W0 (wc ++ wr)) (h1 : List.Perm W1 (w1 ++ wr)) : pq_CI l y ws fr lo D cI cL As W0 W1 r := (hM.beside wr).pm h0 h1
/-- the same with index lists, the rest and the cells behind given -/
theorem pq_CI.ix {l : Launch} {y : MethodName} {ws : List Cond} {fr lo : Nat} {D : va_G} {cI cL : ClassId} {As : List Value} {Wd W1 wc w1 wr : va_W} {r : Int32} (hM : pq_CI l y ws fr lo D cI cL As wc w1 r) (isC isR isN : List Nat) (hC : isC.map (fun i => Wd[i]?) = wc.map some) (hR : isR.map (fun i => Wd[i]?) = wr.map some) (hnC : va_nd isC = true) (hnd : va_nd isR = true ∧ ∀ i ∈ isR, i ∉ isC) (hnN : va_nd isN = true) (hN : isN.map (fun i => (wr ++ w1)[i]?) = W1.map some) :
    pq_CI l y ws fr lo D cI cL As Wd W1 r := by
  intro sz
  refine pq_weak (hM sz) (fun a s h => ⟨h.1, h.2.sub isC hC hnC⟩) (fun a s o t h q => ?_) (pq_Asub isC hC)
  obtain ⟨⟨r1, u, g1, g2, g3⟩, hF⟩ := q
  obtain ⟨p1, p2, p3, p4, p5⟩ := h.2
  subst p1
  have hFc := pq_Asub (sz := s.heap.size) isC hC
  obtain ⟨hP, hD⟩ := va_join (A0 := va_A Wd s.heap.size) (wr := wr) (w1 := w1) p2 (p4.self (sz := s.heap.size)) isC isR hC hR hnd.1 hnd.2 (fun q g1 g2 => hF.2 q g1 g2) hFc g3.1 g3.2
  exact ⟨⟨r1, u, g1, g2, hP.sub isN (pq_fm hN), hD.sub isN hnN hN⟩, hF.1, fun q g1 g2 => hF.2 q g1 (fun h => g2 (hFc q h))⟩
section PM
variable {α : Type} (A a b c d : List α)
theorem pm_0 : List.Perm (A ++ (a ++ (b ++ (c ++ d)))) ((A ++ a) ++ (b ++ (c ++ d))) := List.Perm.of_eq (List.append_assoc ..).symm
theorem pm_1 : List.Perm (A ++ (a ++ (b ++ (c ++ d)))) ((A ++ b) ++ (a ++ (c ++ d))) := ((List.perm_append_comm_assoc a b (c ++ d)).append_left A).trans (pm_0 A b a c d)
theorem pm_2 : List.Perm (A ++ (a ++ (b ++ (c ++ d)))) ((A ++ c) ++ (a ++ (b ++ d))) := ((((List.perm_append_comm_assoc b c d).append_left a).trans (List.perm_append_comm_assoc a c (b ++ d))).append_left A).trans (pm_0 A c a b d)
theorem pm_3 : List.Perm (A ++ (a ++ (b ++ (c ++ d)))) ((A ++ d) ++ (a ++ (b ++ c))) := ((((List.perm_append_comm (l₁ := c) (l₂ := d)).append_left b).append_left a).append_left A).trans ((pm_2 A a b d c).trans (List.Perm.refl _))
/-- one of three to the front -/
theorem pm_t0 : List.Perm (a ++ (b ++ c)) (a ++ (b ++ c)) := List.Perm.refl _
theorem pm_t1 : List.Perm (a ++ (b ++ c)) (b ++ (a ++ c)) := List.perm_append_comm_assoc a b c
theorem pm_t2 : List.Perm (a ++ (b ++ c)) (c ++ (a ++ b)) := ((List.perm_append_comm (l₁ := b) (l₂ := c)).append_left a).trans (List.perm_append_comm_assoc a c b)
theorem pm_as {W x y z R R' : List α} (h : List.Perm W ((x ++ y) ++ R)) (h' : List.Perm R (z ++ R')) : List.Perm W ((x ++ (y ++ z)) ++ R') := h.trans ((h'.append_left (x ++ y)).trans (List.Perm.of_eq (by simp [List.append_assoc])))
end PM
