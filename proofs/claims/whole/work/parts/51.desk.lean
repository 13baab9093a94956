abbrev dk_Ln : Type := (Nat → Int32) × (Nat → Nat → Int32)
abbrev dk_By : Type := (Nat → Int32) × Int32
abbrev dk_T : Type := dk_By × dk_By
abbrev dk_S : Type := (Nat → dk_Ln) × dk_T
abbrev dk6 (cI cL : ClassId) (x : Nat) (as : Nat → Nat) (T : dk_T) : va_W := [(x, .inr (5, [.ref (as 0), .ref (as 69), .ref (as 71)])), (as 0, .inl (cL, 4, .inr (.inr (.inr (.inr (fun j => some (as (1 + 17 * j)))))))), (as 69, .inr (2, [.ref (as 70), .int T.1.2])), (as 70, .inl (cI, 1000, .inl T.1.1)), (as 71, .inr (2, [.ref (as 72), .int T.2.2])), (as 72, .inl (cI, 1000, .inl T.2.1))]
abbrev lnw (cI : ClassId) (as : Nat → Nat) (k : Nat) (L : dk_Ln) : va_W := [(as (1 + 17 * k), .inr (3, [.ref (as (1 + 17 * k + 1)), .ref (as (1 + 17 * k + 3)), .ref (as (1 + 17 * k + 5)), .ref (as (1 + 17 * k + 11)), .int (L.1 0)])), (as (1 + 17 * k + 1), .inr (0, [.ref (as (1 + 17 * k + 2)), .int (L.1 1), .int (L.1 2), .int (L.1 3), .int (L.1 4)])), (as (1 + 17 * k + 2), .inl (cI, 24, .inl (L.2 0))), (as (1 + 17 * k + 3), .inr (0, [.ref (as (1 + 17 * k + 4)), .int (L.1 5), .int (L.1 6), .int (L.1 7), .int (L.1 8)])), (as (1 + 17 * k + 4), .inl (cI, 24, .inl (L.2 1))), (as (1 + 17 * k + 5), .inr (4, [.ref (as (1 + 17 * k + 6)), .ref (as (1 + 17 * k + 8)), .ref (as (1 + 17 * k + 10)), .int (L.1 9)])), (as (1 + 17 * k + 6), .inr (1, [.ref (as (1 + 17 * k + 7))])), (as (1 + 17 * k + 7), .inl (cI, 23, .inl (L.2 2))), (as (1 + 17 * k + 8), .inr (1, [.ref (as (1 + 17 * k + 9))])), (as (1 + 17 * k + 9), .inl (cI, 23, .inl (L.2 3))), (as (1 + 17 * k + 10), .inl (cI, 24, .inl (L.2 4))), (as (1 + 17 * k + 11), .inr (4, [.ref (as (1 + 17 * k + 12)), .ref (as (1 + 17 * k + 14)), .ref (as (1 + 17 * k + 16)), .int (L.1 10)])), (as (1 + 17 * k + 12), .inr (1, [.ref (as (1 + 17 * k + 13))])), (as (1 + 17 * k + 13), .inl (cI, 23, .inl (L.2 5))), (as (1 + 17 * k + 14), .inr (1, [.ref (as (1 + 17 * k + 15))])), (as (1 + 17 * k + 15), .inl (cI, 23, .inl (L.2 6))), (as (1 + 17 * k + 16), .inl (cI, 24, .inl (L.2 7)))]
abbrev wD (cI cL : ClassId) (x : Nat) (as : Nat → Nat) (S : dk_S) : va_W := dk6 cI cL x as S.2 ++ (lnw cI as 0 (S.1 0) ++ (lnw cI as 1 (S.1 1) ++ (lnw cI as 2 (S.1 2) ++ lnw cI as 3 (S.1 3))))
section DKF
variable {l : Launch} {y : MethodName} {ws : List Cond} {fr lo : Nat} {D : va_G} {cI cL : ClassId} {As : List Value} {r : Int32} {x : Nat} {as : Nat → Nat} {F : Nat → dk_Ln} {T T1 : dk_T}
theorem dk_fr0 (hM : pq_CI l y ws fr lo D cI cL As (dk6 cI cL x as T) (dk6 cI cL x as T1) r) : pq_CI l y ws fr lo D cI cL As (wD cI cL x as (F, T)) (wD cI cL x as (F, T1)) r := hM.beside _
theorem dk_fr1 {k : Nat} (hk : k < 4) {L1 : dk_Ln} (hM : pq_CI l y ws fr lo D cI cL As (dk6 cI cL x as T ++ lnw cI as k (F k)) (dk6 cI cL x as T1 ++ lnw cI as k L1) r) : pq_CI l y ws fr lo D cI cL As (wD cI cL x as (F, T)) (wD cI cL x as (va_up F k L1, T1)) r := by
  rcases (show k = 0 ∨ k = 1 ∨ k = 2 ∨ k = 3 by omega) with rfl | rfl | rfl | rfl

  · exact hM.fp ((lnw cI as 1 (F 1)) ++ ((lnw cI as 2 (F 2)) ++ (lnw cI as 3 (F 3)))) (pm_0 _ _ _ _ _) (pm_0 (dk6 cI cL x as T1) (lnw cI as 0 L1) (lnw cI as 1 (F 1)) (lnw cI as 2 (F 2)) (lnw cI as 3 (F 3)))
  · exact hM.fp ((lnw cI as 0 (F 0)) ++ ((lnw cI as 2 (F 2)) ++ (lnw cI as 3 (F 3)))) (pm_1 _ _ _ _ _) (pm_1 (dk6 cI cL x as T1) (lnw cI as 0 (F 0)) (lnw cI as 1 L1) (lnw cI as 2 (F 2)) (lnw cI as 3 (F 3)))
  · exact hM.fp ((lnw cI as 0 (F 0)) ++ ((lnw cI as 1 (F 1)) ++ (lnw cI as 3 (F 3)))) (pm_2 _ _ _ _ _) (pm_2 (dk6 cI cL x as T1) (lnw cI as 0 (F 0)) (lnw cI as 1 (F 1)) (lnw cI as 2 L1) (lnw cI as 3 (F 3)))
  · exact hM.fp ((lnw cI as 0 (F 0)) ++ ((lnw cI as 1 (F 1)) ++ (lnw cI as 2 (F 2)))) (pm_3 _ _ _ _ _) (pm_3 (dk6 cI cL x as T1) (lnw cI as 0 (F 0)) (lnw cI as 1 (F 1)) (lnw cI as 2 (F 2)) (lnw cI as 3 L1))
theorem dk_fr2 {k k2 : Nat} (hk : k < 4) (hk2 : k2 < 4) (hne : k ≠ k2) {L1 L2 : dk_Ln} (hM : pq_CI l y ws fr lo D cI cL As (dk6 cI cL x as T ++ (lnw cI as k (F k) ++ lnw cI as k2 (F k2))) (dk6 cI cL x as T1 ++ (lnw cI as k L1 ++ lnw cI as k2 L2)) r) : pq_CI l y ws fr lo D cI cL As (wD cI cL x as (F, T)) (wD cI cL x as (va_up (va_up F k L1) k2 L2, T1)) r := by
  rcases (show k = 0 ∨ k = 1 ∨ k = 2 ∨ k = 3 by omega) with rfl | rfl | rfl | rfl <;> rcases (show k2 = 0 ∨ k2 = 1 ∨ k2 = 2 ∨ k2 = 3 by omega) with rfl | rfl | rfl | rfl
  · exact absurd rfl hne
  · exact hM.fp ((lnw cI as 2 (F 2)) ++ (lnw cI as 3 (F 3))) (pm_as (pm_0 _ _ _ _ _) (pm_t0 _ _ _)) (pm_as (pm_0 (dk6 cI cL x as T1) (lnw cI as 0 L1) (lnw cI as 1 L2) (lnw cI as 2 (F 2)) (lnw cI as 3 (F 3))) (pm_t0 (lnw cI as 1 L2) (lnw cI as 2 (F 2)) (lnw cI as 3 (F 3))))
  · exact hM.fp ((lnw cI as 1 (F 1)) ++ (lnw cI as 3 (F 3))) (pm_as (pm_0 _ _ _ _ _) (pm_t1 _ _ _)) (pm_as (pm_0 (dk6 cI cL x as T1) (lnw cI as 0 L1) (lnw cI as 1 (F 1)) (lnw cI as 2 L2) (lnw cI as 3 (F 3))) (pm_t1 (lnw cI as 1 (F 1)) (lnw cI as 2 L2) (lnw cI as 3 (F 3))))
  · exact hM.fp ((lnw cI as 1 (F 1)) ++ (lnw cI as 2 (F 2))) (pm_as (pm_0 _ _ _ _ _) (pm_t2 _ _ _)) (pm_as (pm_0 (dk6 cI cL x as T1) (lnw cI as 0 L1) (lnw cI as 1 (F 1)) (lnw cI as 2 (F 2)) (lnw cI as 3 L2)) (pm_t2 (lnw cI as 1 (F 1)) (lnw cI as 2 (F 2)) (lnw cI as 3 L2)))
  · exact hM.fp ((lnw cI as 2 (F 2)) ++ (lnw cI as 3 (F 3))) (pm_as (pm_1 _ _ _ _ _) (pm_t0 _ _ _)) (pm_as (pm_1 (dk6 cI cL x as T1) (lnw cI as 0 L2) (lnw cI as 1 L1) (lnw cI as 2 (F 2)) (lnw cI as 3 (F 3))) (pm_t0 (lnw cI as 0 L2) (lnw cI as 2 (F 2)) (lnw cI as 3 (F 3))))
  · exact absurd rfl hne
  · exact hM.fp ((lnw cI as 0 (F 0)) ++ (lnw cI as 3 (F 3))) (pm_as (pm_1 _ _ _ _ _) (pm_t1 _ _ _)) (pm_as (pm_1 (dk6 cI cL x as T1) (lnw cI as 0 (F 0)) (lnw cI as 1 L1) (lnw cI as 2 L2) (lnw cI as 3 (F 3))) (pm_t1 (lnw cI as 0 (F 0)) (lnw cI as 2 L2) (lnw cI as 3 (F 3))))
  · exact hM.fp ((lnw cI as 0 (F 0)) ++ (lnw cI as 2 (F 2))) (pm_as (pm_1 _ _ _ _ _) (pm_t2 _ _ _)) (pm_as (pm_1 (dk6 cI cL x as T1) (lnw cI as 0 (F 0)) (lnw cI as 1 L1) (lnw cI as 2 (F 2)) (lnw cI as 3 L2)) (pm_t2 (lnw cI as 0 (F 0)) (lnw cI as 2 (F 2)) (lnw cI as 3 L2)))
  · exact hM.fp ((lnw cI as 1 (F 1)) ++ (lnw cI as 3 (F 3))) (pm_as (pm_2 _ _ _ _ _) (pm_t0 _ _ _)) (pm_as (pm_2 (dk6 cI cL x as T1) (lnw cI as 0 L2) (lnw cI as 1 (F 1)) (lnw cI as 2 L1) (lnw cI as 3 (F 3))) (pm_t0 (lnw cI as 0 L2) (lnw cI as 1 (F 1)) (lnw cI as 3 (F 3))))
  · exact hM.fp ((lnw cI as 0 (F 0)) ++ (lnw cI as 3 (F 3))) (pm_as (pm_2 _ _ _ _ _) (pm_t1 _ _ _)) (pm_as (pm_2 (dk6 cI cL x as T1) (lnw cI as 0 (F 0)) (lnw cI as 1 L2) (lnw cI as 2 L1) (lnw cI as 3 (F 3))) (pm_t1 (lnw cI as 0 (F 0)) (lnw cI as 1 L2) (lnw cI as 3 (F 3))))
  · exact absurd rfl hne
  · exact hM.fp ((lnw cI as 0 (F 0)) ++ (lnw cI as 1 (F 1))) (pm_as (pm_2 _ _ _ _ _) (pm_t2 _ _ _)) (pm_as (pm_2 (dk6 cI cL x as T1) (lnw cI as 0 (F 0)) (lnw cI as 1 (F 1)) (lnw cI as 2 L1) (lnw cI as 3 L2)) (pm_t2 (lnw cI as 0 (F 0)) (lnw cI as 1 (F 1)) (lnw cI as 3 L2)))
  · exact hM.fp ((lnw cI as 1 (F 1)) ++ (lnw cI as 2 (F 2))) (pm_as (pm_3 _ _ _ _ _) (pm_t0 _ _ _)) (pm_as (pm_3 (dk6 cI cL x as T1) (lnw cI as 0 L2) (lnw cI as 1 (F 1)) (lnw cI as 2 (F 2)) (lnw cI as 3 L1)) (pm_t0 (lnw cI as 0 L2) (lnw cI as 1 (F 1)) (lnw cI as 2 (F 2))))
  · exact hM.fp ((lnw cI as 0 (F 0)) ++ (lnw cI as 2 (F 2))) (pm_as (pm_3 _ _ _ _ _) (pm_t1 _ _ _)) (pm_as (pm_3 (dk6 cI cL x as T1) (lnw cI as 0 (F 0)) (lnw cI as 1 L2) (lnw cI as 2 (F 2)) (lnw cI as 3 L1)) (pm_t1 (lnw cI as 0 (F 0)) (lnw cI as 1 L2) (lnw cI as 2 (F 2))))
  · exact hM.fp ((lnw cI as 0 (F 0)) ++ (lnw cI as 1 (F 1))) (pm_as (pm_3 _ _ _ _ _) (pm_t2 _ _ _)) (pm_as (pm_3 (dk6 cI cL x as T1) (lnw cI as 0 (F 0)) (lnw cI as 1 (F 1)) (lnw cI as 2 L2) (lnw cI as 3 L1)) (pm_t2 (lnw cI as 0 (F 0)) (lnw cI as 1 (F 1)) (lnw cI as 2 L2)))
  · exact absurd rfl hne
end DKF
def EX6_open_o (a1 : Int32) (a2 : Int32) (T : dk_T) : Option (Int32 × dk_T) := pq_cl (fX6_open_o a1 a2) fun (u : Int32) => some (u, T)
set_option maxHeartbeats 4000000 in
set_option maxRecDepth 100000 in
theorem eX6_open_o (l : Launch) (D : va_G) (cI cL : ClassId) (x : Nat) (as : Nat → Nat) (T T1 : dk_T) (a1 : Int32) (a2 : Int32) (r : Int32) (hd : EX6_open_o a1 a2  T = some (r, T1)) : pq_CI l yX6_open qsX6_open 3 64 D cI cL [.ref x, .int a1, .int a2] (dk6 cI cL x as T) (dk6 cI cL x as T1) r := by
  unfold EX6_open_o at hd
  obtain ⟨u, hu, h2⟩ := pq_clx hd
  obtain ⟨rfl, g0⟩ := Prod.mk.inj (Option.some.inj h2)
  subst g0
  exact (qX6_open_o l D cI cL x (as 0) (as 69) (as 71) a1 a2 u hu).ix (wr := [(as 0, .inl (cL, 4, .inr (.inr (.inr (.inr (fun j => some (as (1 + 17 * j)))))))), (as 69, .inr (2, [.ref (as 70), .int T.1.2])), (as 70, .inl (cI, 1000, .inl T.1.1)), (as 71, .inr (2, [.ref (as 72), .int T.2.2])), (as 72, .inl (cI, 1000, .inl T.2.1))]) [0] [1, 2, 3, 4, 5] [5, 0, 1, 2, 3, 4] rfl rfl (by decide) (by decide) (by decide) rfl
def EX6_open_i (a1 : Int32) (a2 : Int32) (L : dk_Ln) (T : dk_T) : Option (Int32 × dk_Ln × dk_T) := pq_cl (fX6_open_i a1 a2 (L.1 0) (L.1 1) (L.2 0) (L.1 5) (L.2 1) (L.1 9) (L.2 2) (L.2 3) (L.2 4) (L.1 10) (L.2 5) (L.2 6) (L.2 7)) fun (u : Int32 × Int32 × Int32 × (Nat → Int32) × Int32 × (Nat → Int32) × Int32 × (Nat → Int32) × (Nat → Int32) × (Nat → Int32) × Int32 × (Nat → Int32) × (Nat → Int32) × (Nat → Int32)) => some (u.1, (va_up (va_up (va_up (va_up (va_up (L.1) 0 u.2.1) 1 u.2.2.1) 5 u.2.2.2.2.1) 9 u.2.2.2.2.2.2.1) 10 u.2.2.2.2.2.2.2.2.2.2.1, va_up (va_up (va_up (va_up (va_up (va_up (va_up (va_up (L.2) 0 u.2.2.2.1) 1 u.2.2.2.2.2.1) 2 u.2.2.2.2.2.2.2.1) 3 u.2.2.2.2.2.2.2.2.1) 4 u.2.2.2.2.2.2.2.2.2.1) 5 u.2.2.2.2.2.2.2.2.2.2.2.1) 6 u.2.2.2.2.2.2.2.2.2.2.2.2.1) 7 u.2.2.2.2.2.2.2.2.2.2.2.2.2), T)
set_option maxHeartbeats 4000000 in
set_option maxRecDepth 100000 in
theorem eX6_open_i (l : Launch) (D : va_G) (cI cL : ClassId) (x : Nat) (as : Nat → Nat) (k : Nat) (hk : k < 4) (T T1 : dk_T) (L L1 : dk_Ln) (a2 : Int32) (r : Int32) (hd : EX6_open_i (nI k) a2 L T = some (r, L1, T1)) : pq_CI l yX6_open qsX6_open 3 64 D cI cL [.ref x, .int (nI k), .int a2] (dk6 cI cL x as T ++ lnw cI as k L) (dk6 cI cL x as T1 ++ lnw cI as k L1) r := by
  unfold EX6_open_i at hd
  obtain ⟨u, hu, h2⟩ := pq_clx hd
  obtain ⟨rfl, g0⟩ := Prod.mk.inj (Option.some.inj h2)
  obtain ⟨rfl, g1⟩ := Prod.mk.inj g0
  subst g1
  exact (qX6_open_i l D cI cL (fun j => as (1 + 17 * j)) x (as 69) (as 71) (as 0) (as (1 + 17 * k)) (as (1 + 17 * k + 1)) (as (1 + 17 * k + 2)) (as (1 + 17 * k + 3)) (as (1 + 17 * k + 4)) (as (1 + 17 * k + 5)) (as (1 + 17 * k + 6)) (as (1 + 17 * k + 7)) (as (1 + 17 * k + 8)) (as (1 + 17 * k + 9)) (as (1 + 17 * k + 10)) (as (1 + 17 * k + 11)) (as (1 + 17 * k + 12)) (as (1 + 17 * k + 13)) (as (1 + 17 * k + 14)) (as (1 + 17 * k + 15)) (as (1 + 17 * k + 16)) (L.1 0) (L.1 1) (L.1 2) (L.1 3) (L.1 4) (L.2 0) (L.1 5) (L.1 6) (L.1 7) (L.1 8) (L.2 1) (L.1 9) (L.2 2) (L.2 3) (L.2 4) (L.1 10) (L.2 5) (L.2 6) (L.2 7) (nI k) a2 (congrArg (fun j => as (1 + 17 * j)) (nI_clamp (n := k) (by omega))) u hu).ix (wr := [(as 69, .inr (2, [.ref (as 70), .int T.1.2])), (as 70, .inl (cI, 1000, .inl T.1.1)), (as 71, .inr (2, [.ref (as 72), .int T.2.2])), (as 72, .inl (cI, 1000, .inl T.2.1))]) [0, 1, 6, 7, 8, 9, 10, 11, 12, 13, 14, 15, 16, 17, 18, 19, 20, 21, 22] [2, 3, 4, 5] [4, 5, 0, 1, 2, 3, 6, 7, 8, 9, 10, 11, 12, 13, 14, 15, 16, 17, 18, 19, 20, 21, 22] rfl rfl (by decide) (by decide) (by decide) rfl
def DX6_open (a1 : Int32) (a2 : Int32) (S : dk_S) : Option (Int32 × dk_S) := if a1 < 0 ∨ nI 4 ≤ a1 then pq_cl (EX6_open_o a1 a2 S.2) fun (u : Int32 × dk_T) => some (u.1, (S.1, u.2)) else pq_cl (EX6_open_i a1 a2 (S.1 a1.toNatClampNeg) S.2) fun (u : Int32 × dk_Ln × dk_T) => some (u.1, (va_up S.1 a1.toNatClampNeg u.2.1, u.2.2))
theorem kX6_open (l : Launch) (D : va_G) (cI cL : ClassId) (x : Nat) (as : Nat → Nat) (S S1 : dk_S) (a1 : Int32) (a2 : Int32) (r : Int32) (hd : DX6_open a1 a2 S = some (r, S1)) : pq_CI l yX6_open qsX6_open 3 64 D cI cL [.ref x, .int a1, .int a2] (wD cI cL x as S) (wD cI cL x as S1) r := by
  unfold DX6_open at hd
  by_cases hc : a1 < 0 ∨ nI 4 ≤ a1
  · rw [if_pos hc] at hd
    obtain ⟨⟨r0, T1⟩, hu, h2⟩ := pq_clx hd
    obtain ⟨rfl, rfl⟩ := Prod.mk.inj (Option.some.inj h2)
    exact dk_fr0 (eX6_open_o l D cI cL x as S.2 T1 a1 a2 _ hu)
  · rw [if_neg hc] at hd
    rcases pk_ix a1 (n := 4) (by decide) with h | h | ⟨j, hj, rfl⟩
    · exact absurd (Or.inl h) hc
    · exact absurd (Or.inr h) hc
    · skip
      obtain ⟨⟨r0, L1, T1⟩, hu, h2⟩ := pq_clx hd
      obtain ⟨rfl, rfl⟩ := Prod.mk.inj (Option.some.inj h2)
      rw [nI_clamp (n := j) (by omega)] at hu
      show pq_CI l _ _ _ _ D cI cL _ (wD cI cL x as (S.1, S.2)) (wD cI cL x as (va_up S.1 (nI j).toNatClampNeg L1, T1)) r0
      rw [nI_clamp (n := j) (by omega)]
      exact dk_fr1 hj (eX6_open_i l D cI cL x as j hj S.2 T1 (S.1 j) L1 a2 _ hu)
def EX6_kind_o (a1 : Int32) (T : dk_T) : Option (Int32 × dk_T) := pq_cl (fX6_kind_o a1) fun (u : Int32) => some (u, T)
set_option maxHeartbeats 4000000 in
set_option maxRecDepth 100000 in
theorem eX6_kind_o (l : Launch) (D : va_G) (cI cL : ClassId) (x : Nat) (as : Nat → Nat) (T T1 : dk_T) (a1 : Int32) (r : Int32) (hd : EX6_kind_o a1  T = some (r, T1)) : pq_CI l yX6_kind qsX6_kind 1 22 D cI cL [.ref x, .int a1] (dk6 cI cL x as T) (dk6 cI cL x as T1) r := by
  unfold EX6_kind_o at hd
  obtain ⟨u, hu, h2⟩ := pq_clx hd
  obtain ⟨rfl, g0⟩ := Prod.mk.inj (Option.some.inj h2)
  subst g0
  exact (qX6_kind_o l D cI cL x (as 0) (as 69) (as 71) a1 u hu).ix (wr := [(as 0, .inl (cL, 4, .inr (.inr (.inr (.inr (fun j => some (as (1 + 17 * j)))))))), (as 69, .inr (2, [.ref (as 70), .int T.1.2])), (as 70, .inl (cI, 1000, .inl T.1.1)), (as 71, .inr (2, [.ref (as 72), .int T.2.2])), (as 72, .inl (cI, 1000, .inl T.2.1))]) [0] [1, 2, 3, 4, 5] [5, 0, 1, 2, 3, 4] rfl rfl (by decide) (by decide) (by decide) rfl
def EX6_kind_i (a1 : Int32) (L : dk_Ln) (T : dk_T) : Option (Int32 × dk_Ln × dk_T) := pq_cl (fX6_kind_i a1 (L.1 0)) fun (u : Int32) => some (u, L, T)
set_option maxHeartbeats 4000000 in
set_option maxRecDepth 100000 in
theorem eX6_kind_i (l : Launch) (D : va_G) (cI cL : ClassId) (x : Nat) (as : Nat → Nat) (k : Nat) (hk : k < 4) (T T1 : dk_T) (L L1 : dk_Ln) (r : Int32) (hd : EX6_kind_i (nI k) L T = some (r, L1, T1)) : pq_CI l yX6_kind qsX6_kind 1 22 D cI cL [.ref x, .int (nI k)] (dk6 cI cL x as T ++ lnw cI as k L) (dk6 cI cL x as T1 ++ lnw cI as k L1) r := by
  unfold EX6_kind_i at hd
  obtain ⟨u, hu, h2⟩ := pq_clx hd
  obtain ⟨rfl, g0⟩ := Prod.mk.inj (Option.some.inj h2)
  obtain ⟨rfl, g1⟩ := Prod.mk.inj g0
  subst g1
  exact (qX6_kind_i l D cI cL (fun j => as (1 + 17 * j)) x (as 69) (as 71) (as 0) (as (1 + 17 * k)) (as (1 + 17 * k + 1)) (as (1 + 17 * k + 3)) (as (1 + 17 * k + 5)) (as (1 + 17 * k + 11)) (L.1 0) (nI k) (congrArg (fun j => as (1 + 17 * j)) (nI_clamp (n := k) (by omega))) u hu).ix (wr := [(as 69, .inr (2, [.ref (as 70), .int T.1.2])), (as 70, .inl (cI, 1000, .inl T.1.1)), (as 71, .inr (2, [.ref (as 72), .int T.2.2])), (as 72, .inl (cI, 1000, .inl T.2.1)), (as (1 + 17 * k + 1), .inr (0, [.ref (as (1 + 17 * k + 2)), .int (L.1 1), .int (L.1 2), .int (L.1 3), .int (L.1 4)])), (as (1 + 17 * k + 2), .inl (cI, 24, .inl (L.2 0))), (as (1 + 17 * k + 3), .inr (0, [.ref (as (1 + 17 * k + 4)), .int (L.1 5), .int (L.1 6), .int (L.1 7), .int (L.1 8)])), (as (1 + 17 * k + 4), .inl (cI, 24, .inl (L.2 1))), (as (1 + 17 * k + 5), .inr (4, [.ref (as (1 + 17 * k + 6)), .ref (as (1 + 17 * k + 8)), .ref (as (1 + 17 * k + 10)), .int (L.1 9)])), (as (1 + 17 * k + 6), .inr (1, [.ref (as (1 + 17 * k + 7))])), (as (1 + 17 * k + 7), .inl (cI, 23, .inl (L.2 2))), (as (1 + 17 * k + 8), .inr (1, [.ref (as (1 + 17 * k + 9))])), (as (1 + 17 * k + 9), .inl (cI, 23, .inl (L.2 3))), (as (1 + 17 * k + 10), .inl (cI, 24, .inl (L.2 4))), (as (1 + 17 * k + 11), .inr (4, [.ref (as (1 + 17 * k + 12)), .ref (as (1 + 17 * k + 14)), .ref (as (1 + 17 * k + 16)), .int (L.1 10)])), (as (1 + 17 * k + 12), .inr (1, [.ref (as (1 + 17 * k + 13))])), (as (1 + 17 * k + 13), .inl (cI, 23, .inl (L.2 5))), (as (1 + 17 * k + 14), .inr (1, [.ref (as (1 + 17 * k + 15))])), (as (1 + 17 * k + 15), .inl (cI, 23, .inl (L.2 6))), (as (1 + 17 * k + 16), .inl (cI, 24, .inl (L.2 7)))]) [0, 1, 6] [2, 3, 4, 5, 7, 8, 9, 10, 11, 12, 13, 14, 15, 16, 17, 18, 19, 20, 21, 22] [20, 21, 0, 1, 2, 3, 22, 4, 5, 6, 7, 8, 9, 10, 11, 12, 13, 14, 15, 16, 17, 18, 19] rfl rfl (by decide) (by decide) (by decide) rfl
def DX6_kind (a1 : Int32) (S : dk_S) : Option (Int32 × dk_S) := if a1 < 0 ∨ nI 4 ≤ a1 then pq_cl (EX6_kind_o a1 S.2) fun (u : Int32 × dk_T) => some (u.1, (S.1, u.2)) else pq_cl (EX6_kind_i a1 (S.1 a1.toNatClampNeg) S.2) fun (u : Int32 × dk_Ln × dk_T) => some (u.1, (va_up S.1 a1.toNatClampNeg u.2.1, u.2.2))
theorem kX6_kind (l : Launch) (D : va_G) (cI cL : ClassId) (x : Nat) (as : Nat → Nat) (S S1 : dk_S) (a1 : Int32) (r : Int32) (hd : DX6_kind a1 S = some (r, S1)) : pq_CI l yX6_kind qsX6_kind 1 22 D cI cL [.ref x, .int a1] (wD cI cL x as S) (wD cI cL x as S1) r := by
  unfold DX6_kind at hd
  by_cases hc : a1 < 0 ∨ nI 4 ≤ a1
  · rw [if_pos hc] at hd
    obtain ⟨⟨r0, T1⟩, hu, h2⟩ := pq_clx hd
    obtain ⟨rfl, rfl⟩ := Prod.mk.inj (Option.some.inj h2)
    exact dk_fr0 (eX6_kind_o l D cI cL x as S.2 T1 a1 _ hu)
  · rw [if_neg hc] at hd
    rcases pk_ix a1 (n := 4) (by decide) with h | h | ⟨j, hj, rfl⟩
    · exact absurd (Or.inl h) hc
    · exact absurd (Or.inr h) hc
    · skip
      obtain ⟨⟨r0, L1, T1⟩, hu, h2⟩ := pq_clx hd
      obtain ⟨rfl, rfl⟩ := Prod.mk.inj (Option.some.inj h2)
      rw [nI_clamp (n := j) (by omega)] at hu
      show pq_CI l _ _ _ _ D cI cL _ (wD cI cL x as (S.1, S.2)) (wD cI cL x as (va_up S.1 (nI j).toNatClampNeg L1, T1)) r0
      rw [nI_clamp (n := j) (by omega)]
      exact dk_fr1 hj (eX6_kind_i l D cI cL x as j hj S.2 T1 (S.1 j) L1  _ hu)
def EX6_say_o (a1 : Int32) (a2 : Int32) (T : dk_T) : Option (Int32 × dk_T) := pq_cl (fX6_say_o a1 a2) fun (u : Int32) => some (u, T)
set_option maxHeartbeats 4000000 in
set_option maxRecDepth 100000 in
theorem eX6_say_o (l : Launch) (D : va_G) (cI cL : ClassId) (x : Nat) (as : Nat → Nat) (T T1 : dk_T) (a1 : Int32) (a2 : Int32) (r : Int32) (hd : EX6_say_o a1 a2  T = some (r, T1)) : pq_CI l yX6_say qsX6_say 6 149 D cI cL [.ref x, .int a1, .int a2] (dk6 cI cL x as T) (dk6 cI cL x as T1) r := by
  unfold EX6_say_o at hd
  obtain ⟨u, hu, h2⟩ := pq_clx hd
  obtain ⟨rfl, g0⟩ := Prod.mk.inj (Option.some.inj h2)
  subst g0
  exact (qX6_say_o l D cI cL x (as 0) (as 69) (as 71) a1 a2 u hu).ix (wr := [(as 0, .inl (cL, 4, .inr (.inr (.inr (.inr (fun j => some (as (1 + 17 * j)))))))), (as 69, .inr (2, [.ref (as 70), .int T.1.2])), (as 70, .inl (cI, 1000, .inl T.1.1)), (as 71, .inr (2, [.ref (as 72), .int T.2.2])), (as 72, .inl (cI, 1000, .inl T.2.1))]) [0] [1, 2, 3, 4, 5] [5, 0, 1, 2, 3, 4] rfl rfl (by decide) (by decide) (by decide) rfl
def EX6_say_i (a1 : Int32) (a2 : Int32) (L : dk_Ln) (T : dk_T) : Option (Int32 × dk_Ln × dk_T) := pq_cl (fX6_say_i a1 a2 (L.1 0) (L.1 1) (L.1 2) (L.1 3) (L.1 4) (L.2 0) (L.2 2) (L.2 3) (L.2 4)) fun (u : Int32 × Int32 × Int32 × Int32 × (Nat → Int32) × (Nat → Int32) × (Nat → Int32) × (Nat → Int32)) => some (u.1, (va_up (va_up (va_up (L.1) 2 u.2.1) 3 u.2.2.1) 4 u.2.2.2.1, va_up (va_up (va_up (va_up (L.2) 0 u.2.2.2.2.1) 2 u.2.2.2.2.2.1) 3 u.2.2.2.2.2.2.1) 4 u.2.2.2.2.2.2.2), T)
set_option maxHeartbeats 4000000 in
set_option maxRecDepth 100000 in
theorem eX6_say_i (l : Launch) (D : va_G) (cI cL : ClassId) (x : Nat) (as : Nat → Nat) (k : Nat) (hk : k < 4) (T T1 : dk_T) (L L1 : dk_Ln) (a2 : Int32) (r : Int32) (hd : EX6_say_i (nI k) a2 L T = some (r, L1, T1)) : pq_CI l yX6_say qsX6_say 6 149 D cI cL [.ref x, .int (nI k), .int a2] (dk6 cI cL x as T ++ lnw cI as k L) (dk6 cI cL x as T1 ++ lnw cI as k L1) r := by
  unfold EX6_say_i at hd
  obtain ⟨u, hu, h2⟩ := pq_clx hd
  obtain ⟨rfl, g0⟩ := Prod.mk.inj (Option.some.inj h2)
  obtain ⟨rfl, g1⟩ := Prod.mk.inj g0
  subst g1
  exact (qX6_say_i l D cI cL (fun j => as (1 + 17 * j)) x (as 69) (as 71) (as 0) (as (1 + 17 * k)) (as (1 + 17 * k + 3)) (as (1 + 17 * k + 11)) (as (1 + 17 * k + 1)) (as (1 + 17 * k + 2)) (as (1 + 17 * k + 5)) (as (1 + 17 * k + 6)) (as (1 + 17 * k + 7)) (as (1 + 17 * k + 8)) (as (1 + 17 * k + 9)) (as (1 + 17 * k + 10)) (L.1 0) (L.1 1) (L.1 2) (L.1 3) (L.1 4) (L.2 0) (L.1 9) (L.2 2) (L.2 3) (L.2 4) (nI k) a2 (congrArg (fun j => as (1 + 17 * j)) (nI_clamp (n := k) (by omega))) u hu).ix (wr := [(as 69, .inr (2, [.ref (as 70), .int T.1.2])), (as 70, .inl (cI, 1000, .inl T.1.1)), (as 71, .inr (2, [.ref (as 72), .int T.2.2])), (as 72, .inl (cI, 1000, .inl T.2.1)), (as (1 + 17 * k + 3), .inr (0, [.ref (as (1 + 17 * k + 4)), .int (L.1 5), .int (L.1 6), .int (L.1 7), .int (L.1 8)])), (as (1 + 17 * k + 4), .inl (cI, 24, .inl (L.2 1))), (as (1 + 17 * k + 11), .inr (4, [.ref (as (1 + 17 * k + 12)), .ref (as (1 + 17 * k + 14)), .ref (as (1 + 17 * k + 16)), .int (L.1 10)])), (as (1 + 17 * k + 12), .inr (1, [.ref (as (1 + 17 * k + 13))])), (as (1 + 17 * k + 13), .inl (cI, 23, .inl (L.2 5))), (as (1 + 17 * k + 14), .inr (1, [.ref (as (1 + 17 * k + 15))])), (as (1 + 17 * k + 15), .inl (cI, 23, .inl (L.2 6))), (as (1 + 17 * k + 16), .inl (cI, 24, .inl (L.2 7)))]) [0, 1, 6, 7, 8, 11, 12, 13, 14, 15, 16] [2, 3, 4, 5, 9, 10, 17, 18, 19, 20, 21, 22] [12, 13, 0, 1, 2, 3, 14, 15, 16, 4, 5, 17, 18, 19, 20, 21, 22, 6, 7, 8, 9, 10, 11] rfl rfl (by decide) (by decide) (by decide) rfl
def DX6_say (a1 : Int32) (a2 : Int32) (S : dk_S) : Option (Int32 × dk_S) := if a1 < 0 ∨ nI 4 ≤ a1 then pq_cl (EX6_say_o a1 a2 S.2) fun (u : Int32 × dk_T) => some (u.1, (S.1, u.2)) else pq_cl (EX6_say_i a1 a2 (S.1 a1.toNatClampNeg) S.2) fun (u : Int32 × dk_Ln × dk_T) => some (u.1, (va_up S.1 a1.toNatClampNeg u.2.1, u.2.2))
theorem kX6_say (l : Launch) (D : va_G) (cI cL : ClassId) (x : Nat) (as : Nat → Nat) (S S1 : dk_S) (a1 : Int32) (a2 : Int32) (r : Int32) (hd : DX6_say a1 a2 S = some (r, S1)) : pq_CI l yX6_say qsX6_say 6 149 D cI cL [.ref x, .int a1, .int a2] (wD cI cL x as S) (wD cI cL x as S1) r := by
  unfold DX6_say at hd
  by_cases hc : a1 < 0 ∨ nI 4 ≤ a1
  · rw [if_pos hc] at hd
    obtain ⟨⟨r0, T1⟩, hu, h2⟩ := pq_clx hd
    obtain ⟨rfl, rfl⟩ := Prod.mk.inj (Option.some.inj h2)
    exact dk_fr0 (eX6_say_o l D cI cL x as S.2 T1 a1 a2 _ hu)
  · rw [if_neg hc] at hd
    rcases pk_ix a1 (n := 4) (by decide) with h | h | ⟨j, hj, rfl⟩
    · exact absurd (Or.inl h) hc
    · exact absurd (Or.inr h) hc
    · skip
      obtain ⟨⟨r0, L1, T1⟩, hu, h2⟩ := pq_clx hd
      obtain ⟨rfl, rfl⟩ := Prod.mk.inj (Option.some.inj h2)
      rw [nI_clamp (n := j) (by omega)] at hu
      show pq_CI l _ _ _ _ D cI cL _ (wD cI cL x as (S.1, S.2)) (wD cI cL x as (va_up S.1 (nI j).toNatClampNeg L1, T1)) r0
      rw [nI_clamp (n := j) (by omega)]
      exact dk_fr1 hj (eX6_say_i l D cI cL x as j hj S.2 T1 (S.1 j) L1 a2 _ hu)
def EX6_pair_o (a1 : Int32) (a2 : Int32) (a3 : Int32) (T : dk_T) : Option (Int32 × dk_T) := pq_cl (fX6_pair_o a1 a2 a3) fun (u : Int32) => some (u, T)
set_option maxHeartbeats 4000000 in
set_option maxRecDepth 100000 in
theorem eX6_pair_o (l : Launch) (D : va_G) (cI cL : ClassId) (x : Nat) (as : Nat → Nat) (T T1 : dk_T) (a1 : Int32) (a2 : Int32) (a3 : Int32) (r : Int32) (hd : EX6_pair_o a1 a2 a3  T = some (r, T1)) : pq_CI l yX6_pair qsX6_pair 6 149 D cI cL [.ref x, .int a1, .int a2, .int a3] (dk6 cI cL x as T) (dk6 cI cL x as T1) r := by
  unfold EX6_pair_o at hd
  obtain ⟨u, hu, h2⟩ := pq_clx hd
  obtain ⟨rfl, g0⟩ := Prod.mk.inj (Option.some.inj h2)
  subst g0
  exact (qX6_pair_o l D cI cL x (as 0) (as 69) (as 71) a1 a2 a3 u hu).ix (wr := [(as 0, .inl (cL, 4, .inr (.inr (.inr (.inr (fun j => some (as (1 + 17 * j)))))))), (as 69, .inr (2, [.ref (as 70), .int T.1.2])), (as 70, .inl (cI, 1000, .inl T.1.1)), (as 71, .inr (2, [.ref (as 72), .int T.2.2])), (as 72, .inl (cI, 1000, .inl T.2.1))]) [0] [1, 2, 3, 4, 5] [5, 0, 1, 2, 3, 4] rfl rfl (by decide) (by decide) (by decide) rfl
def EX6_pair_i (a1 : Int32) (a2 : Int32) (a3 : Int32) (L : dk_Ln) (T : dk_T) : Option (Int32 × dk_Ln × dk_T) := pq_cl (fX6_pair_i a1 a2 a3 (L.1 0) (L.1 1) (L.1 2) (L.1 3) (L.1 4) (L.2 0) (L.2 2) (L.2 3) (L.2 4)) fun (u : Int32 × Int32 × Int32 × Int32 × (Nat → Int32) × (Nat → Int32) × (Nat → Int32) × (Nat → Int32)) => some (u.1, (va_up (va_up (va_up (L.1) 2 u.2.1) 3 u.2.2.1) 4 u.2.2.2.1, va_up (va_up (va_up (va_up (L.2) 0 u.2.2.2.2.1) 2 u.2.2.2.2.2.1) 3 u.2.2.2.2.2.2.1) 4 u.2.2.2.2.2.2.2), T)
set_option maxHeartbeats 4000000 in
set_option maxRecDepth 100000 in
theorem eX6_pair_i (l : Launch) (D : va_G) (cI cL : ClassId) (x : Nat) (as : Nat → Nat) (k : Nat) (hk : k < 4) (T T1 : dk_T) (L L1 : dk_Ln) (a2 : Int32) (a3 : Int32) (r : Int32) (hd : EX6_pair_i (nI k) a2 a3 L T = some (r, L1, T1)) : pq_CI l yX6_pair qsX6_pair 6 149 D cI cL [.ref x, .int (nI k), .int a2, .int a3] (dk6 cI cL x as T ++ lnw cI as k L) (dk6 cI cL x as T1 ++ lnw cI as k L1) r := by
  unfold EX6_pair_i at hd
  obtain ⟨u, hu, h2⟩ := pq_clx hd
  obtain ⟨rfl, g0⟩ := Prod.mk.inj (Option.some.inj h2)
  obtain ⟨rfl, g1⟩ := Prod.mk.inj g0
  subst g1
  exact (qX6_pair_i l D cI cL (fun j => as (1 + 17 * j)) x (as 69) (as 71) (as 0) (as (1 + 17 * k)) (as (1 + 17 * k + 3)) (as (1 + 17 * k + 11)) (as (1 + 17 * k + 1)) (as (1 + 17 * k + 2)) (as (1 + 17 * k + 5)) (as (1 + 17 * k + 6)) (as (1 + 17 * k + 7)) (as (1 + 17 * k + 8)) (as (1 + 17 * k + 9)) (as (1 + 17 * k + 10)) (L.1 0) (L.1 1) (L.1 2) (L.1 3) (L.1 4) (L.2 0) (L.1 9) (L.2 2) (L.2 3) (L.2 4) (nI k) a2 a3 (congrArg (fun j => as (1 + 17 * j)) (nI_clamp (n := k) (by omega))) u hu).ix (wr := [(as 69, .inr (2, [.ref (as 70), .int T.1.2])), (as 70, .inl (cI, 1000, .inl T.1.1)), (as 71, .inr (2, [.ref (as 72), .int T.2.2])), (as 72, .inl (cI, 1000, .inl T.2.1)), (as (1 + 17 * k + 3), .inr (0, [.ref (as (1 + 17 * k + 4)), .int (L.1 5), .int (L.1 6), .int (L.1 7), .int (L.1 8)])), (as (1 + 17 * k + 4), .inl (cI, 24, .inl (L.2 1))), (as (1 + 17 * k + 11), .inr (4, [.ref (as (1 + 17 * k + 12)), .ref (as (1 + 17 * k + 14)), .ref (as (1 + 17 * k + 16)), .int (L.1 10)])), (as (1 + 17 * k + 12), .inr (1, [.ref (as (1 + 17 * k + 13))])), (as (1 + 17 * k + 13), .inl (cI, 23, .inl (L.2 5))), (as (1 + 17 * k + 14), .inr (1, [.ref (as (1 + 17 * k + 15))])), (as (1 + 17 * k + 15), .inl (cI, 23, .inl (L.2 6))), (as (1 + 17 * k + 16), .inl (cI, 24, .inl (L.2 7)))]) [0, 1, 6, 7, 8, 11, 12, 13, 14, 15, 16] [2, 3, 4, 5, 9, 10, 17, 18, 19, 20, 21, 22] [12, 13, 0, 1, 2, 3, 14, 15, 16, 4, 5, 17, 18, 19, 20, 21, 22, 6, 7, 8, 9, 10, 11] rfl rfl (by decide) (by decide) (by decide) rfl
def DX6_pair (a1 : Int32) (a2 : Int32) (a3 : Int32) (S : dk_S) : Option (Int32 × dk_S) := if a1 < 0 ∨ nI 4 ≤ a1 then pq_cl (EX6_pair_o a1 a2 a3 S.2) fun (u : Int32 × dk_T) => some (u.1, (S.1, u.2)) else pq_cl (EX6_pair_i a1 a2 a3 (S.1 a1.toNatClampNeg) S.2) fun (u : Int32 × dk_Ln × dk_T) => some (u.1, (va_up S.1 a1.toNatClampNeg u.2.1, u.2.2))
theorem kX6_pair (l : Launch) (D : va_G) (cI cL : ClassId) (x : Nat) (as : Nat → Nat) (S S1 : dk_S) (a1 : Int32) (a2 : Int32) (a3 : Int32) (r : Int32) (hd : DX6_pair a1 a2 a3 S = some (r, S1)) : pq_CI l yX6_pair qsX6_pair 6 149 D cI cL [.ref x, .int a1, .int a2, .int a3] (wD cI cL x as S) (wD cI cL x as S1) r := by
  unfold DX6_pair at hd
  by_cases hc : a1 < 0 ∨ nI 4 ≤ a1
  · rw [if_pos hc] at hd
    obtain ⟨⟨r0, T1⟩, hu, h2⟩ := pq_clx hd
    obtain ⟨rfl, rfl⟩ := Prod.mk.inj (Option.some.inj h2)
    exact dk_fr0 (eX6_pair_o l D cI cL x as S.2 T1 a1 a2 a3 _ hu)
  · rw [if_neg hc] at hd
    rcases pk_ix a1 (n := 4) (by decide) with h | h | ⟨j, hj, rfl⟩
    · exact absurd (Or.inl h) hc
    · exact absurd (Or.inr h) hc
    · skip
      obtain ⟨⟨r0, L1, T1⟩, hu, h2⟩ := pq_clx hd
      obtain ⟨rfl, rfl⟩ := Prod.mk.inj (Option.some.inj h2)
      rw [nI_clamp (n := j) (by omega)] at hu
      show pq_CI l _ _ _ _ D cI cL _ (wD cI cL x as (S.1, S.2)) (wD cI cL x as (va_up S.1 (nI j).toNatClampNeg L1, T1)) r0
      rw [nI_clamp (n := j) (by omega)]
      exact dk_fr1 hj (eX6_pair_i l D cI cL x as j hj S.2 T1 (S.1 j) L1 a2 a3 _ hu)
def EX6_hear_o (a1 : Int32) (a2 : Int32) (T : dk_T) : Option (Int32 × dk_T) := pq_cl (fX6_hear_o a1 a2) fun (u : Int32) => some (u, T)
set_option maxHeartbeats 4000000 in
set_option maxRecDepth 100000 in
theorem eX6_hear_o (l : Launch) (D : va_G) (cI cL : ClassId) (x : Nat) (as : Nat → Nat) (T T1 : dk_T) (a1 : Int32) (a2 : Int32) (r : Int32) (hd : EX6_hear_o a1 a2  T = some (r, T1)) : pq_CI l yX6_hear qsX6_hear 6 148 D cI cL [.ref x, .int a1, .int a2] (dk6 cI cL x as T) (dk6 cI cL x as T1) r := by
  unfold EX6_hear_o at hd
  obtain ⟨u, hu, h2⟩ := pq_clx hd
  obtain ⟨rfl, g0⟩ := Prod.mk.inj (Option.some.inj h2)
  subst g0
  exact (qX6_hear_o l D cI cL x (as 0) (as 69) (as 71) a1 a2 u hu).ix (wr := [(as 0, .inl (cL, 4, .inr (.inr (.inr (.inr (fun j => some (as (1 + 17 * j)))))))), (as 69, .inr (2, [.ref (as 70), .int T.1.2])), (as 70, .inl (cI, 1000, .inl T.1.1)), (as 71, .inr (2, [.ref (as 72), .int T.2.2])), (as 72, .inl (cI, 1000, .inl T.2.1))]) [0] [1, 2, 3, 4, 5] [5, 0, 1, 2, 3, 4] rfl rfl (by decide) (by decide) (by decide) rfl
def EX6_hear_i (a1 : Int32) (a2 : Int32) (L : dk_Ln) (T : dk_T) : Option (Int32 × dk_Ln × dk_T) := pq_cl (fX6_hear_i a1 a2 (L.1 0) (L.1 5) (L.1 6) (L.1 7) (L.1 8) (L.2 1) (L.1 10) (L.2 5) (L.2 6) (L.2 7)) fun (u : Int32 × Int32 × Int32 × Int32 × (Nat → Int32) × Int32 × (Nat → Int32) × (Nat → Int32) × (Nat → Int32)) => some (u.1, (va_up (va_up (va_up (va_up (L.1) 6 u.2.1) 7 u.2.2.1) 8 u.2.2.2.1) 10 u.2.2.2.2.2.1, va_up (va_up (va_up (va_up (L.2) 1 u.2.2.2.2.1) 5 u.2.2.2.2.2.2.1) 6 u.2.2.2.2.2.2.2.1) 7 u.2.2.2.2.2.2.2.2), T)
set_option maxHeartbeats 4000000 in
set_option maxRecDepth 100000 in
theorem eX6_hear_i (l : Launch) (D : va_G) (cI cL : ClassId) (x : Nat) (as : Nat → Nat) (k : Nat) (hk : k < 4) (T T1 : dk_T) (L L1 : dk_Ln) (a2 : Int32) (r : Int32) (hd : EX6_hear_i (nI k) a2 L T = some (r, L1, T1)) : pq_CI l yX6_hear qsX6_hear 6 148 D cI cL [.ref x, .int (nI k), .int a2] (dk6 cI cL x as T ++ lnw cI as k L) (dk6 cI cL x as T1 ++ lnw cI as k L1) r := by
  unfold EX6_hear_i at hd
  obtain ⟨u, hu, h2⟩ := pq_clx hd
  obtain ⟨rfl, g0⟩ := Prod.mk.inj (Option.some.inj h2)
  obtain ⟨rfl, g1⟩ := Prod.mk.inj g0
  subst g1
  exact (qX6_hear_i l D cI cL (fun j => as (1 + 17 * j)) x (as 69) (as 71) (as 0) (as (1 + 17 * k)) (as (1 + 17 * k + 1)) (as (1 + 17 * k + 5)) (as (1 + 17 * k + 3)) (as (1 + 17 * k + 4)) (as (1 + 17 * k + 11)) (as (1 + 17 * k + 12)) (as (1 + 17 * k + 13)) (as (1 + 17 * k + 14)) (as (1 + 17 * k + 15)) (as (1 + 17 * k + 16)) (L.1 0) (L.1 5) (L.1 6) (L.1 7) (L.1 8) (L.2 1) (L.1 10) (L.2 5) (L.2 6) (L.2 7) (nI k) a2 (congrArg (fun j => as (1 + 17 * j)) (nI_clamp (n := k) (by omega))) u hu).ix (wr := [(as 69, .inr (2, [.ref (as 70), .int T.1.2])), (as 70, .inl (cI, 1000, .inl T.1.1)), (as 71, .inr (2, [.ref (as 72), .int T.2.2])), (as 72, .inl (cI, 1000, .inl T.2.1)), (as (1 + 17 * k + 1), .inr (0, [.ref (as (1 + 17 * k + 2)), .int (L.1 1), .int (L.1 2), .int (L.1 3), .int (L.1 4)])), (as (1 + 17 * k + 2), .inl (cI, 24, .inl (L.2 0))), (as (1 + 17 * k + 5), .inr (4, [.ref (as (1 + 17 * k + 6)), .ref (as (1 + 17 * k + 8)), .ref (as (1 + 17 * k + 10)), .int (L.1 9)])), (as (1 + 17 * k + 6), .inr (1, [.ref (as (1 + 17 * k + 7))])), (as (1 + 17 * k + 7), .inl (cI, 23, .inl (L.2 2))), (as (1 + 17 * k + 8), .inr (1, [.ref (as (1 + 17 * k + 9))])), (as (1 + 17 * k + 9), .inl (cI, 23, .inl (L.2 3))), (as (1 + 17 * k + 10), .inl (cI, 24, .inl (L.2 4)))]) [0, 1, 6, 9, 10, 17, 18, 19, 20, 21, 22] [2, 3, 4, 5, 7, 8, 11, 12, 13, 14, 15, 16] [12, 13, 0, 1, 2, 3, 14, 4, 5, 15, 16, 6, 7, 8, 9, 10, 11, 17, 18, 19, 20, 21, 22] rfl rfl (by decide) (by decide) (by decide) rfl
def DX6_hear (a1 : Int32) (a2 : Int32) (S : dk_S) : Option (Int32 × dk_S) := if a1 < 0 ∨ nI 4 ≤ a1 then pq_cl (EX6_hear_o a1 a2 S.2) fun (u : Int32 × dk_T) => some (u.1, (S.1, u.2)) else pq_cl (EX6_hear_i a1 a2 (S.1 a1.toNatClampNeg) S.2) fun (u : Int32 × dk_Ln × dk_T) => some (u.1, (va_up S.1 a1.toNatClampNeg u.2.1, u.2.2))
theorem kX6_hear (l : Launch) (D : va_G) (cI cL : ClassId) (x : Nat) (as : Nat → Nat) (S S1 : dk_S) (a1 : Int32) (a2 : Int32) (r : Int32) (hd : DX6_hear a1 a2 S = some (r, S1)) : pq_CI l yX6_hear qsX6_hear 6 148 D cI cL [.ref x, .int a1, .int a2] (wD cI cL x as S) (wD cI cL x as S1) r := by
  unfold DX6_hear at hd
  by_cases hc : a1 < 0 ∨ nI 4 ≤ a1
  · rw [if_pos hc] at hd
    obtain ⟨⟨r0, T1⟩, hu, h2⟩ := pq_clx hd
    obtain ⟨rfl, rfl⟩ := Prod.mk.inj (Option.some.inj h2)
    exact dk_fr0 (eX6_hear_o l D cI cL x as S.2 T1 a1 a2 _ hu)
  · rw [if_neg hc] at hd
    rcases pk_ix a1 (n := 4) (by decide) with h | h | ⟨j, hj, rfl⟩
    · exact absurd (Or.inl h) hc
    · exact absurd (Or.inr h) hc
    · skip
      obtain ⟨⟨r0, L1, T1⟩, hu, h2⟩ := pq_clx hd
      obtain ⟨rfl, rfl⟩ := Prod.mk.inj (Option.some.inj h2)
      rw [nI_clamp (n := j) (by omega)] at hu
      show pq_CI l _ _ _ _ D cI cL _ (wD cI cL x as (S.1, S.2)) (wD cI cL x as (va_up S.1 (nI j).toNatClampNeg L1, T1)) r0
      rw [nI_clamp (n := j) (by omega)]
      exact dk_fr1 hj (eX6_hear_i l D cI cL x as j hj S.2 T1 (S.1 j) L1 a2 _ hu)
def EX6_second_o (a1 : Int32) (T : dk_T) : Option (Int32 × dk_T) := pq_cl (fX6_second_o a1) fun (u : Int32) => some (u, T)
set_option maxHeartbeats 4000000 in
set_option maxRecDepth 100000 in
theorem eX6_second_o (l : Launch) (D : va_G) (cI cL : ClassId) (x : Nat) (as : Nat → Nat) (T T1 : dk_T) (a1 : Int32) (r : Int32) (hd : EX6_second_o a1  T = some (r, T1)) : pq_CI l yX6_second qsX6_second 1 22 D cI cL [.ref x, .int a1] (dk6 cI cL x as T) (dk6 cI cL x as T1) r := by
  unfold EX6_second_o at hd
  obtain ⟨u, hu, h2⟩ := pq_clx hd
  obtain ⟨rfl, g0⟩ := Prod.mk.inj (Option.some.inj h2)
  subst g0
  exact (qX6_second_o l D cI cL x (as 0) (as 69) (as 71) a1 u hu).ix (wr := [(as 0, .inl (cL, 4, .inr (.inr (.inr (.inr (fun j => some (as (1 + 17 * j)))))))), (as 69, .inr (2, [.ref (as 70), .int T.1.2])), (as 70, .inl (cI, 1000, .inl T.1.1)), (as 71, .inr (2, [.ref (as 72), .int T.2.2])), (as 72, .inl (cI, 1000, .inl T.2.1))]) [0] [1, 2, 3, 4, 5] [5, 0, 1, 2, 3, 4] rfl rfl (by decide) (by decide) (by decide) rfl
def EX6_second_i (a1 : Int32) (L : dk_Ln) (T : dk_T) : Option (Int32 × dk_Ln × dk_T) := pq_cl (fX6_second_i a1 (L.1 0) (L.1 10)) fun (u : Int32) => some (u, L, T)
set_option maxHeartbeats 4000000 in
set_option maxRecDepth 100000 in
theorem eX6_second_i (l : Launch) (D : va_G) (cI cL : ClassId) (x : Nat) (as : Nat → Nat) (k : Nat) (hk : k < 4) (T T1 : dk_T) (L L1 : dk_Ln) (r : Int32) (hd : EX6_second_i (nI k) L T = some (r, L1, T1)) : pq_CI l yX6_second qsX6_second 1 22 D cI cL [.ref x, .int (nI k)] (dk6 cI cL x as T ++ lnw cI as k L) (dk6 cI cL x as T1 ++ lnw cI as k L1) r := by
  unfold EX6_second_i at hd
  obtain ⟨u, hu, h2⟩ := pq_clx hd
  obtain ⟨rfl, g0⟩ := Prod.mk.inj (Option.some.inj h2)
  obtain ⟨rfl, g1⟩ := Prod.mk.inj g0
  subst g1
  exact (qX6_second_i l D cI cL (fun j => as (1 + 17 * j)) x (as 69) (as 71) (as 0) (as (1 + 17 * k)) (as (1 + 17 * k + 1)) (as (1 + 17 * k + 3)) (as (1 + 17 * k + 5)) (as (1 + 17 * k + 11)) (as (1 + 17 * k + 12)) (as (1 + 17 * k + 14)) (as (1 + 17 * k + 16)) (L.1 0) (L.1 10) (nI k) (congrArg (fun j => as (1 + 17 * j)) (nI_clamp (n := k) (by omega))) u hu).ix (wr := [(as 69, .inr (2, [.ref (as 70), .int T.1.2])), (as 70, .inl (cI, 1000, .inl T.1.1)), (as 71, .inr (2, [.ref (as 72), .int T.2.2])), (as 72, .inl (cI, 1000, .inl T.2.1)), (as (1 + 17 * k + 1), .inr (0, [.ref (as (1 + 17 * k + 2)), .int (L.1 1), .int (L.1 2), .int (L.1 3), .int (L.1 4)])), (as (1 + 17 * k + 2), .inl (cI, 24, .inl (L.2 0))), (as (1 + 17 * k + 3), .inr (0, [.ref (as (1 + 17 * k + 4)), .int (L.1 5), .int (L.1 6), .int (L.1 7), .int (L.1 8)])), (as (1 + 17 * k + 4), .inl (cI, 24, .inl (L.2 1))), (as (1 + 17 * k + 5), .inr (4, [.ref (as (1 + 17 * k + 6)), .ref (as (1 + 17 * k + 8)), .ref (as (1 + 17 * k + 10)), .int (L.1 9)])), (as (1 + 17 * k + 6), .inr (1, [.ref (as (1 + 17 * k + 7))])), (as (1 + 17 * k + 7), .inl (cI, 23, .inl (L.2 2))), (as (1 + 17 * k + 8), .inr (1, [.ref (as (1 + 17 * k + 9))])), (as (1 + 17 * k + 9), .inl (cI, 23, .inl (L.2 3))), (as (1 + 17 * k + 10), .inl (cI, 24, .inl (L.2 4))), (as (1 + 17 * k + 12), .inr (1, [.ref (as (1 + 17 * k + 13))])), (as (1 + 17 * k + 13), .inl (cI, 23, .inl (L.2 5))), (as (1 + 17 * k + 14), .inr (1, [.ref (as (1 + 17 * k + 15))])), (as (1 + 17 * k + 15), .inl (cI, 23, .inl (L.2 6))), (as (1 + 17 * k + 16), .inl (cI, 24, .inl (L.2 7)))]) [0, 1, 6, 17] [2, 3, 4, 5, 7, 8, 9, 10, 11, 12, 13, 14, 15, 16, 18, 19, 20, 21, 22] [19, 20, 0, 1, 2, 3, 21, 4, 5, 6, 7, 8, 9, 10, 11, 12, 13, 22, 14, 15, 16, 17, 18] rfl rfl (by decide) (by decide) (by decide) rfl
def DX6_second (a1 : Int32) (S : dk_S) : Option (Int32 × dk_S) := if a1 < 0 ∨ nI 4 ≤ a1 then pq_cl (EX6_second_o a1 S.2) fun (u : Int32 × dk_T) => some (u.1, (S.1, u.2)) else pq_cl (EX6_second_i a1 (S.1 a1.toNatClampNeg) S.2) fun (u : Int32 × dk_Ln × dk_T) => some (u.1, (va_up S.1 a1.toNatClampNeg u.2.1, u.2.2))
theorem kX6_second (l : Launch) (D : va_G) (cI cL : ClassId) (x : Nat) (as : Nat → Nat) (S S1 : dk_S) (a1 : Int32) (r : Int32) (hd : DX6_second a1 S = some (r, S1)) : pq_CI l yX6_second qsX6_second 1 22 D cI cL [.ref x, .int a1] (wD cI cL x as S) (wD cI cL x as S1) r := by
  unfold DX6_second at hd
  by_cases hc : a1 < 0 ∨ nI 4 ≤ a1
  · rw [if_pos hc] at hd
    obtain ⟨⟨r0, T1⟩, hu, h2⟩ := pq_clx hd
    obtain ⟨rfl, rfl⟩ := Prod.mk.inj (Option.some.inj h2)
    exact dk_fr0 (eX6_second_o l D cI cL x as S.2 T1 a1 _ hu)
  · rw [if_neg hc] at hd
    rcases pk_ix a1 (n := 4) (by decide) with h | h | ⟨j, hj, rfl⟩
    · exact absurd (Or.inl h) hc
    · exact absurd (Or.inr h) hc
    · skip
      obtain ⟨⟨r0, L1, T1⟩, hu, h2⟩ := pq_clx hd
      obtain ⟨rfl, rfl⟩ := Prod.mk.inj (Option.some.inj h2)
      rw [nI_clamp (n := j) (by omega)] at hu
      show pq_CI l _ _ _ _ D cI cL _ (wD cI cL x as (S.1, S.2)) (wD cI cL x as (va_up S.1 (nI j).toNatClampNeg L1, T1)) r0
      rw [nI_clamp (n := j) (by omega)]
      exact dk_fr1 hj (eX6_second_i l D cI cL x as j hj S.2 T1 (S.1 j) L1  _ hu)
def EX6_inner_o (a1 : Int32) (a2 : Int32) (a3 : Int32) (T : dk_T) : Option (Int32 × dk_T) := pq_cl (fX6_inner_o a1 a2 a3) fun (u : Int32) => some (u, T)
set_option maxHeartbeats 4000000 in
set_option maxRecDepth 100000 in
theorem eX6_inner_o (l : Launch) (D : va_G) (cI cL : ClassId) (x : Nat) (as : Nat → Nat) (T T1 : dk_T) (a1 : Int32) (a2 : Int32) (a3 : Int32) (r : Int32) (hd : EX6_inner_o a1 a2 a3  T = some (r, T1)) : pq_CI l yX6_inner qsX6_inner 3 64 D cI cL [.ref x, .int a1, .int a2, .int a3] (dk6 cI cL x as T) (dk6 cI cL x as T1) r := by
  unfold EX6_inner_o at hd
  obtain ⟨u, hu, h2⟩ := pq_clx hd
  obtain ⟨rfl, g0⟩ := Prod.mk.inj (Option.some.inj h2)
  subst g0
  exact (qX6_inner_o l D cI cL x (as 0) (as 69) (as 71) a1 a2 a3 u hu).ix (wr := [(as 0, .inl (cL, 4, .inr (.inr (.inr (.inr (fun j => some (as (1 + 17 * j)))))))), (as 69, .inr (2, [.ref (as 70), .int T.1.2])), (as 70, .inl (cI, 1000, .inl T.1.1)), (as 71, .inr (2, [.ref (as 72), .int T.2.2])), (as 72, .inl (cI, 1000, .inl T.2.1))]) [0] [1, 2, 3, 4, 5] [5, 0, 1, 2, 3, 4] rfl rfl (by decide) (by decide) (by decide) rfl
def EX6_inner_i (a1 : Int32) (a2 : Int32) (a3 : Int32) (L : dk_Ln) (T : dk_T) : Option (Int32 × dk_Ln × dk_T) := pq_cl (fX6_inner_i a1 a2 a3 (L.1 0) (L.2 0) (L.2 1) (L.2 2) (L.2 3) (L.2 4) (L.2 5) (L.2 6) (L.2 7)) fun (u : Int32) => some (u, L, T)
set_option maxHeartbeats 4000000 in
set_option maxRecDepth 100000 in
theorem eX6_inner_i (l : Launch) (D : va_G) (cI cL : ClassId) (x : Nat) (as : Nat → Nat) (k : Nat) (hk : k < 4) (T T1 : dk_T) (L L1 : dk_Ln) (a2 : Int32) (a3 : Int32) (r : Int32) (hd : EX6_inner_i (nI k) a2 a3 L T = some (r, L1, T1)) : pq_CI l yX6_inner qsX6_inner 3 64 D cI cL [.ref x, .int (nI k), .int a2, .int a3] (dk6 cI cL x as T ++ lnw cI as k L) (dk6 cI cL x as T1 ++ lnw cI as k L1) r := by
  unfold EX6_inner_i at hd
  obtain ⟨u, hu, h2⟩ := pq_clx hd
  obtain ⟨rfl, g0⟩ := Prod.mk.inj (Option.some.inj h2)
  obtain ⟨rfl, g1⟩ := Prod.mk.inj g0
  subst g1
  exact (qX6_inner_i l D cI cL (fun j => as (1 + 17 * j)) x (as 69) (as 71) (as 0) (as (1 + 17 * k)) (as (1 + 17 * k + 1)) (as (1 + 17 * k + 2)) (as (1 + 17 * k + 3)) (as (1 + 17 * k + 4)) (as (1 + 17 * k + 5)) (as (1 + 17 * k + 6)) (as (1 + 17 * k + 7)) (as (1 + 17 * k + 8)) (as (1 + 17 * k + 9)) (as (1 + 17 * k + 10)) (as (1 + 17 * k + 11)) (as (1 + 17 * k + 12)) (as (1 + 17 * k + 13)) (as (1 + 17 * k + 14)) (as (1 + 17 * k + 15)) (as (1 + 17 * k + 16)) (L.1 0) (L.1 1) (L.1 2) (L.1 3) (L.1 4) (L.2 0) (L.1 5) (L.1 6) (L.1 7) (L.1 8) (L.2 1) (L.1 9) (L.2 2) (L.2 3) (L.2 4) (L.1 10) (L.2 5) (L.2 6) (L.2 7) (nI k) a2 a3 (congrArg (fun j => as (1 + 17 * j)) (nI_clamp (n := k) (by omega))) u hu).ix (wr := [(as 69, .inr (2, [.ref (as 70), .int T.1.2])), (as 70, .inl (cI, 1000, .inl T.1.1)), (as 71, .inr (2, [.ref (as 72), .int T.2.2])), (as 72, .inl (cI, 1000, .inl T.2.1))]) [0, 1, 6, 7, 8, 9, 10, 11, 12, 13, 14, 15, 16, 17, 18, 19, 20, 21, 22] [2, 3, 4, 5] [4, 5, 0, 1, 2, 3, 6, 7, 8, 9, 10, 11, 12, 13, 14, 15, 16, 17, 18, 19, 20, 21, 22] rfl rfl (by decide) (by decide) (by decide) rfl
def DX6_inner (a1 : Int32) (a2 : Int32) (a3 : Int32) (S : dk_S) : Option (Int32 × dk_S) := if a1 < 0 ∨ nI 4 ≤ a1 then pq_cl (EX6_inner_o a1 a2 a3 S.2) fun (u : Int32 × dk_T) => some (u.1, (S.1, u.2)) else pq_cl (EX6_inner_i a1 a2 a3 (S.1 a1.toNatClampNeg) S.2) fun (u : Int32 × dk_Ln × dk_T) => some (u.1, (va_up S.1 a1.toNatClampNeg u.2.1, u.2.2))
theorem kX6_inner (l : Launch) (D : va_G) (cI cL : ClassId) (x : Nat) (as : Nat → Nat) (S S1 : dk_S) (a1 : Int32) (a2 : Int32) (a3 : Int32) (r : Int32) (hd : DX6_inner a1 a2 a3 S = some (r, S1)) : pq_CI l yX6_inner qsX6_inner 3 64 D cI cL [.ref x, .int a1, .int a2, .int a3] (wD cI cL x as S) (wD cI cL x as S1) r := by
  unfold DX6_inner at hd
  by_cases hc : a1 < 0 ∨ nI 4 ≤ a1
  · rw [if_pos hc] at hd
    obtain ⟨⟨r0, T1⟩, hu, h2⟩ := pq_clx hd
    obtain ⟨rfl, rfl⟩ := Prod.mk.inj (Option.some.inj h2)
    exact dk_fr0 (eX6_inner_o l D cI cL x as S.2 T1 a1 a2 a3 _ hu)
  · rw [if_neg hc] at hd
    rcases pk_ix a1 (n := 4) (by decide) with h | h | ⟨j, hj, rfl⟩
    · exact absurd (Or.inl h) hc
    · exact absurd (Or.inr h) hc
    · skip
      obtain ⟨⟨r0, L1, T1⟩, hu, h2⟩ := pq_clx hd
      obtain ⟨rfl, rfl⟩ := Prod.mk.inj (Option.some.inj h2)
      rw [nI_clamp (n := j) (by omega)] at hu
      show pq_CI l _ _ _ _ D cI cL _ (wD cI cL x as (S.1, S.2)) (wD cI cL x as (va_up S.1 (nI j).toNatClampNeg L1, T1)) r0
      rw [nI_clamp (n := j) (by omega)]
      exact dk_fr1 hj (eX6_inner_i l D cI cL x as j hj S.2 T1 (S.1 j) L1 a2 a3 _ hu)
def EX6_feed (a1 : Int32) (a2 : Int32) (a3 : Int32) (a4 : Int32) (a5 : Int32) (T : dk_T) : Option (Int32 × dk_T) := pq_cl (fX6_feed a1 a2 a3 a4 a5 T.1.2 T.1.1) fun (u : Int32 × Int32 × (Nat → Int32)) => some (u.1, ((u.2.2, u.2.1), (T.2.1, T.2.2)))
set_option maxHeartbeats 4000000 in
set_option maxRecDepth 100000 in
theorem eX6_feed (l : Launch) (D : va_G) (cI cL : ClassId) (x : Nat) (as : Nat → Nat) (T T1 : dk_T) (a1 : Int32) (a2 : Int32) (a3 : Int32) (a4 : Int32) (a5 : Int32) (r : Int32) (hd : EX6_feed a1 a2 a3 a4 a5  T = some (r, T1)) : pq_CI l yX6_feed qsX6_feed 2 42 D cI cL [.ref x, .int a1, .int a2, .int a3, .int a4, .int a5] (dk6 cI cL x as T) (dk6 cI cL x as T1) r := by
  unfold EX6_feed at hd
  obtain ⟨u, hu, h2⟩ := pq_clx hd
  obtain ⟨rfl, g0⟩ := Prod.mk.inj (Option.some.inj h2)
  subst g0
  exact (qX6_feed l D cI cL x (as 0) (as 71) (as 69) (as 70) T.1.2 T.1.1 a1 a2 a3 a4 a5 u hu).ix (wr := [(as 0, .inl (cL, 4, .inr (.inr (.inr (.inr (fun j => some (as (1 + 17 * j)))))))), (as 71, .inr (2, [.ref (as 72), .int T.2.2])), (as 72, .inl (cI, 1000, .inl T.2.1))]) [0, 2, 3] [1, 4, 5] [3, 0, 4, 5, 1, 2] rfl rfl (by decide) (by decide) (by decide) rfl
def DX6_feed (a1 : Int32) (a2 : Int32) (a3 : Int32) (a4 : Int32) (a5 : Int32) (S : dk_S) : Option (Int32 × dk_S) := pq_cl (EX6_feed a1 a2 a3 a4 a5 S.2) fun (u : Int32 × dk_T) => some (u.1, (S.1, u.2))
theorem kX6_feed (l : Launch) (D : va_G) (cI cL : ClassId) (x : Nat) (as : Nat → Nat) (S S1 : dk_S) (a1 : Int32) (a2 : Int32) (a3 : Int32) (a4 : Int32) (a5 : Int32) (r : Int32) (hd : DX6_feed a1 a2 a3 a4 a5 S = some (r, S1)) : pq_CI l yX6_feed qsX6_feed 2 42 D cI cL [.ref x, .int a1, .int a2, .int a3, .int a4, .int a5] (wD cI cL x as S) (wD cI cL x as S1) r := by
  unfold DX6_feed at hd
  obtain ⟨⟨r0, T1⟩, hu, h2⟩ := pq_clx hd
  obtain ⟨rfl, rfl⟩ := Prod.mk.inj (Option.some.inj h2)
  exact dk_fr0 (eX6_feed l D cI cL x as S.2 T1 a1 a2 a3 a4 a5 _ hu)
def EX6_end (a1 : Int32) (T : dk_T) : Option (Int32 × dk_T) := pq_cl (fX6_end a1 T.1.2) fun (u : Int32 × Int32) => some (u.1, ((T.1.1, u.2), (T.2.1, T.2.2)))
set_option maxHeartbeats 4000000 in
set_option maxRecDepth 100000 in
theorem eX6_end (l : Launch) (D : va_G) (cI cL : ClassId) (x : Nat) (as : Nat → Nat) (T T1 : dk_T) (a1 : Int32) (r : Int32) (hd : EX6_end a1  T = some (r, T1)) : pq_CI l yX6_end qsX6_end 0 0 D cI cL [.ref x, .int a1] (dk6 cI cL x as T) (dk6 cI cL x as T1) r := by
  unfold EX6_end at hd
  obtain ⟨u, hu, h2⟩ := pq_clx hd
  obtain ⟨rfl, g0⟩ := Prod.mk.inj (Option.some.inj h2)
  subst g0
  exact (qX6_end l D cI cL x (as 0) (as 71) (as 69) (as 70) T.1.2 a1 u hu).ix (wr := [(as 0, .inl (cL, 4, .inr (.inr (.inr (.inr (fun j => some (as (1 + 17 * j)))))))), (as 70, .inl (cI, 1000, .inl T.1.1)), (as 71, .inr (2, [.ref (as 72), .int T.2.2])), (as 72, .inl (cI, 1000, .inl T.2.1))]) [0, 2] [1, 3, 4, 5] [4, 0, 5, 1, 2, 3] rfl rfl (by decide) (by decide) (by decide) rfl
def DX6_end (a1 : Int32) (S : dk_S) : Option (Int32 × dk_S) := pq_cl (EX6_end a1 S.2) fun (u : Int32 × dk_T) => some (u.1, (S.1, u.2))
theorem kX6_end (l : Launch) (D : va_G) (cI cL : ClassId) (x : Nat) (as : Nat → Nat) (S S1 : dk_S) (a1 : Int32) (r : Int32) (hd : DX6_end a1 S = some (r, S1)) : pq_CI l yX6_end qsX6_end 0 0 D cI cL [.ref x, .int a1] (wD cI cL x as S) (wD cI cL x as S1) r := by
  unfold DX6_end at hd
  obtain ⟨⟨r0, T1⟩, hu, h2⟩ := pq_clx hd
  obtain ⟨rfl, rfl⟩ := Prod.mk.inj (Option.some.inj h2)
  exact dk_fr0 (eX6_end l D cI cL x as S.2 T1 a1 _ hu)
def EX6_take (T : dk_T) : Option (Int32 × dk_T) := pq_cl (fX6_take T.2.2 T.2.1 T.1.2 T.1.1) fun (u : Int32 × Int32 × (Nat → Int32)) => some (u.1, ((u.2.2, u.2.1), (T.2.1, T.2.2)))
set_option maxHeartbeats 4000000 in
set_option maxRecDepth 100000 in
theorem eX6_take (l : Launch) (D : va_G) (cI cL : ClassId) (x : Nat) (as : Nat → Nat) (T T1 : dk_T) (r : Int32) (hd : EX6_take   T = some (r, T1)) : pq_CI l yX6_take qsX6_take 1 22 D cI cL [.ref x] (dk6 cI cL x as T) (dk6 cI cL x as T1) r := by
  unfold EX6_take at hd
  obtain ⟨u, hu, h2⟩ := pq_clx hd
  obtain ⟨rfl, g0⟩ := Prod.mk.inj (Option.some.inj h2)
  subst g0
  exact (qX6_take l D cI cL x (as 0) (as 69) (as 70) (as 71) (as 72) T.1.2 T.1.1 T.2.2 T.2.1 u hu).ix (wr := [(as 0, .inl (cL, 4, .inr (.inr (.inr (.inr (fun j => some (as (1 + 17 * j))))))))]) [0, 2, 3, 4, 5] [1] [1, 0, 2, 3, 4, 5] rfl rfl (by decide) (by decide) (by decide) rfl
def DX6_take (S : dk_S) : Option (Int32 × dk_S) := pq_cl (EX6_take  S.2) fun (u : Int32 × dk_T) => some (u.1, (S.1, u.2))
theorem kX6_take (l : Launch) (D : va_G) (cI cL : ClassId) (x : Nat) (as : Nat → Nat) (S S1 : dk_S) (r : Int32) (hd : DX6_take  S = some (r, S1)) : pq_CI l yX6_take qsX6_take 1 22 D cI cL [.ref x] (wD cI cL x as S) (wD cI cL x as S1) r := by
  unfold DX6_take at hd
  obtain ⟨⟨r0, T1⟩, hu, h2⟩ := pq_clx hd
  obtain ⟨rfl, rfl⟩ := Prod.mk.inj (Option.some.inj h2)
  exact dk_fr0 (eX6_take l D cI cL x as S.2 T1  _ hu)
def EX6_out (a1 : Int32) (T : dk_T) : Option (Int32 × dk_T) := pq_cl (fX6_out a1 T.2.2 T.2.1) fun (u : Int32) => some (u, T)
set_option maxHeartbeats 4000000 in
set_option maxRecDepth 100000 in
theorem eX6_out (l : Launch) (D : va_G) (cI cL : ClassId) (x : Nat) (as : Nat → Nat) (T T1 : dk_T) (a1 : Int32) (r : Int32) (hd : EX6_out a1  T = some (r, T1)) : pq_CI l yX6_out qsX6_out 1 21 D cI cL [.ref x, .int a1] (dk6 cI cL x as T) (dk6 cI cL x as T1) r := by
  unfold EX6_out at hd
  obtain ⟨u, hu, h2⟩ := pq_clx hd
  obtain ⟨rfl, g0⟩ := Prod.mk.inj (Option.some.inj h2)
  subst g0
  exact (qX6_out l D cI cL x (as 0) (as 69) (as 71) (as 72) T.2.2 T.2.1 a1 u hu).ix (wr := [(as 0, .inl (cL, 4, .inr (.inr (.inr (.inr (fun j => some (as (1 + 17 * j)))))))), (as 69, .inr (2, [.ref (as 70), .int T.1.2])), (as 70, .inl (cI, 1000, .inl T.1.1))]) [0, 4, 5] [1, 2, 3] [3, 0, 1, 2, 4, 5] rfl rfl (by decide) (by decide) (by decide) rfl
def DX6_out (a1 : Int32) (S : dk_S) : Option (Int32 × dk_S) := pq_cl (EX6_out a1 S.2) fun (u : Int32 × dk_T) => some (u.1, (S.1, u.2))
theorem kX6_out (l : Launch) (D : va_G) (cI cL : ClassId) (x : Nat) (as : Nat → Nat) (S S1 : dk_S) (a1 : Int32) (r : Int32) (hd : DX6_out a1 S = some (r, S1)) : pq_CI l yX6_out qsX6_out 1 21 D cI cL [.ref x, .int a1] (wD cI cL x as S) (wD cI cL x as S1) r := by
  unfold DX6_out at hd
  obtain ⟨⟨r0, T1⟩, hu, h2⟩ := pq_clx hd
  obtain ⟨rfl, rfl⟩ := Prod.mk.inj (Option.some.inj h2)
  exact dk_fr0 (eX6_out l D cI cL x as S.2 T1 a1 _ hu)
def EX6_pack_o (a1 : Int32) (a2 : Int32) (T : dk_T) : Option (Int32 × dk_T) := pq_cl (fX6_pack_o a1 a2) fun (u : Int32) => some (u, T)
set_option maxHeartbeats 4000000 in
set_option maxRecDepth 100000 in
theorem eX6_pack_o (l : Launch) (D : va_G) (cI cL : ClassId) (x : Nat) (as : Nat → Nat) (T T1 : dk_T) (a1 : Int32) (a2 : Int32) (r : Int32) (hd : EX6_pack_o a1 a2  T = some (r, T1)) : pq_CI l yX6_pack qsX6_pack 6 149 D cI cL [.ref x, .int a1, .int a2] (dk6 cI cL x as T) (dk6 cI cL x as T1) r := by
  unfold EX6_pack_o at hd
  obtain ⟨u, hu, h2⟩ := pq_clx hd
  obtain ⟨rfl, g0⟩ := Prod.mk.inj (Option.some.inj h2)
  subst g0
  exact (qX6_pack_o l D cI cL x (as 0) (as 69) (as 71) a1 a2 u hu).ix (wr := [(as 0, .inl (cL, 4, .inr (.inr (.inr (.inr (fun j => some (as (1 + 17 * j)))))))), (as 69, .inr (2, [.ref (as 70), .int T.1.2])), (as 70, .inl (cI, 1000, .inl T.1.1)), (as 71, .inr (2, [.ref (as 72), .int T.2.2])), (as 72, .inl (cI, 1000, .inl T.2.1))]) [0] [1, 2, 3, 4, 5] [5, 0, 1, 2, 3, 4] rfl rfl (by decide) (by decide) (by decide) rfl
def EX6_pack_i (a1 : Int32) (a2 : Int32) (L : dk_Ln) (T : dk_T) : Option (Int32 × dk_Ln × dk_T) := pq_cl (fX6_pack_i a1 a2 T.1.1 (L.1 0) (L.1 1) T.1.2 T.2.2 T.2.1 (L.1 2) (L.1 3) (L.1 4) (L.2 0) (L.2 2) (L.2 3) (L.2 4)) fun (u : Int32 × Int32 × Int32 × (Nat → Int32) × Int32 × Int32 × Int32 × (Nat → Int32) × (Nat → Int32) × (Nat → Int32) × (Nat → Int32)) => some (u.1, (va_up (va_up (va_up (L.1) 2 u.2.2.2.2.1) 3 u.2.2.2.2.2.1) 4 u.2.2.2.2.2.2.1, va_up (va_up (va_up (va_up (L.2) 0 u.2.2.2.2.2.2.2.1) 2 u.2.2.2.2.2.2.2.2.1) 3 u.2.2.2.2.2.2.2.2.2.1) 4 u.2.2.2.2.2.2.2.2.2.2), ((T.1.1, u.2.1), (u.2.2.2.1, u.2.2.1)))
set_option maxHeartbeats 4000000 in
set_option maxRecDepth 100000 in
theorem eX6_pack_i (l : Launch) (D : va_G) (cI cL : ClassId) (x : Nat) (as : Nat → Nat) (k : Nat) (hk : k < 4) (T T1 : dk_T) (L L1 : dk_Ln) (a2 : Int32) (r : Int32) (hd : EX6_pack_i (nI k) a2 L T = some (r, L1, T1)) : pq_CI l yX6_pack qsX6_pack 6 149 D cI cL [.ref x, .int (nI k), .int a2] (dk6 cI cL x as T ++ lnw cI as k L) (dk6 cI cL x as T1 ++ lnw cI as k L1) r := by
  unfold EX6_pack_i at hd
  obtain ⟨u, hu, h2⟩ := pq_clx hd
  obtain ⟨rfl, g0⟩ := Prod.mk.inj (Option.some.inj h2)
  obtain ⟨rfl, g1⟩ := Prod.mk.inj g0
  subst g1
  exact (qX6_pack_i l D cI cL (fun j => as (1 + 17 * j)) x (as 0) (as 69) (as 70) (as 71) (as 72) (as (1 + 17 * k)) (as (1 + 17 * k + 3)) (as (1 + 17 * k + 11)) (as (1 + 17 * k + 1)) (as (1 + 17 * k + 2)) (as (1 + 17 * k + 5)) (as (1 + 17 * k + 6)) (as (1 + 17 * k + 7)) (as (1 + 17 * k + 8)) (as (1 + 17 * k + 9)) (as (1 + 17 * k + 10)) T.1.2 T.1.1 T.2.2 T.2.1 (L.1 0) (L.1 1) (L.1 2) (L.1 3) (L.1 4) (L.2 0) (L.1 9) (L.2 2) (L.2 3) (L.2 4) (nI k) a2 (congrArg (fun j => as (1 + 17 * j)) (nI_clamp (n := k) (by omega))) u hu).ix (wr := [(as (1 + 17 * k + 3), .inr (0, [.ref (as (1 + 17 * k + 4)), .int (L.1 5), .int (L.1 6), .int (L.1 7), .int (L.1 8)])), (as (1 + 17 * k + 4), .inl (cI, 24, .inl (L.2 1))), (as (1 + 17 * k + 11), .inr (4, [.ref (as (1 + 17 * k + 12)), .ref (as (1 + 17 * k + 14)), .ref (as (1 + 17 * k + 16)), .int (L.1 10)])), (as (1 + 17 * k + 12), .inr (1, [.ref (as (1 + 17 * k + 13))])), (as (1 + 17 * k + 13), .inl (cI, 23, .inl (L.2 5))), (as (1 + 17 * k + 14), .inr (1, [.ref (as (1 + 17 * k + 15))])), (as (1 + 17 * k + 15), .inl (cI, 23, .inl (L.2 6))), (as (1 + 17 * k + 16), .inl (cI, 24, .inl (L.2 7)))]) [0, 1, 2, 3, 4, 5, 6, 7, 8, 11, 12, 13, 14, 15, 16] [9, 10, 17, 18, 19, 20, 21, 22] [8, 9, 10, 11, 12, 13, 14, 15, 16, 0, 1, 17, 18, 19, 20, 21, 22, 2, 3, 4, 5, 6, 7] rfl rfl (by decide) (by decide) (by decide) rfl
def DX6_pack (a1 : Int32) (a2 : Int32) (S : dk_S) : Option (Int32 × dk_S) := if a1 < 0 ∨ nI 4 ≤ a1 then pq_cl (EX6_pack_o a1 a2 S.2) fun (u : Int32 × dk_T) => some (u.1, (S.1, u.2)) else pq_cl (EX6_pack_i a1 a2 (S.1 a1.toNatClampNeg) S.2) fun (u : Int32 × dk_Ln × dk_T) => some (u.1, (va_up S.1 a1.toNatClampNeg u.2.1, u.2.2))
theorem kX6_pack (l : Launch) (D : va_G) (cI cL : ClassId) (x : Nat) (as : Nat → Nat) (S S1 : dk_S) (a1 : Int32) (a2 : Int32) (r : Int32) (hd : DX6_pack a1 a2 S = some (r, S1)) : pq_CI l yX6_pack qsX6_pack 6 149 D cI cL [.ref x, .int a1, .int a2] (wD cI cL x as S) (wD cI cL x as S1) r := by
  unfold DX6_pack at hd
  by_cases hc : a1 < 0 ∨ nI 4 ≤ a1
  · rw [if_pos hc] at hd
    obtain ⟨⟨r0, T1⟩, hu, h2⟩ := pq_clx hd
    obtain ⟨rfl, rfl⟩ := Prod.mk.inj (Option.some.inj h2)
    exact dk_fr0 (eX6_pack_o l D cI cL x as S.2 T1 a1 a2 _ hu)
  · rw [if_neg hc] at hd
    rcases pk_ix a1 (n := 4) (by decide) with h | h | ⟨j, hj, rfl⟩
    · exact absurd (Or.inl h) hc
    · exact absurd (Or.inr h) hc
    · skip
      obtain ⟨⟨r0, L1, T1⟩, hu, h2⟩ := pq_clx hd
      obtain ⟨rfl, rfl⟩ := Prod.mk.inj (Option.some.inj h2)
      rw [nI_clamp (n := j) (by omega)] at hu
      show pq_CI l _ _ _ _ D cI cL _ (wD cI cL x as (S.1, S.2)) (wD cI cL x as (va_up S.1 (nI j).toNatClampNeg L1, T1)) r0
      rw [nI_clamp (n := j) (by omega)]
      exact dk_fr1 hj (eX6_pack_i l D cI cL x as j hj S.2 T1 (S.1 j) L1 a2 _ hu)
def EX6_unpack_o (a1 : Int32) (a2 : Int32) (a3 : Int32) (T : dk_T) : Option (Int32 × dk_T) := pq_cl (fX6_unpack_o a1 a2 a3) fun (u : Int32) => some (u, T)
set_option maxHeartbeats 4000000 in
set_option maxRecDepth 100000 in
theorem eX6_unpack_o (l : Launch) (D : va_G) (cI cL : ClassId) (x : Nat) (as : Nat → Nat) (T T1 : dk_T) (a1 : Int32) (a2 : Int32) (a3 : Int32) (r : Int32) (hd : EX6_unpack_o a1 a2 a3  T = some (r, T1)) : pq_CI l yX6_unpack qsX6_unpack 6 148 D cI cL [.ref x, .int a1, .int a2, .int a3] (dk6 cI cL x as T) (dk6 cI cL x as T1) r := by
  unfold EX6_unpack_o at hd
  obtain ⟨u, hu, h2⟩ := pq_clx hd
  obtain ⟨rfl, g0⟩ := Prod.mk.inj (Option.some.inj h2)
  subst g0
  exact (qX6_unpack_o l D cI cL x (as 0) (as 69) (as 71) a1 a2 a3 u hu).ix (wr := [(as 0, .inl (cL, 4, .inr (.inr (.inr (.inr (fun j => some (as (1 + 17 * j)))))))), (as 69, .inr (2, [.ref (as 70), .int T.1.2])), (as 70, .inl (cI, 1000, .inl T.1.1)), (as 71, .inr (2, [.ref (as 72), .int T.2.2])), (as 72, .inl (cI, 1000, .inl T.2.1))]) [0] [1, 2, 3, 4, 5] [5, 0, 1, 2, 3, 4] rfl rfl (by decide) (by decide) (by decide) rfl
def EX6_unpack_i (a1 : Int32) (a2 : Int32) (a3 : Int32) (L : dk_Ln) (T : dk_T) : Option (Int32 × dk_Ln × dk_T) := pq_cl (fX6_unpack_i a1 a2 a3 T.1.1 (L.1 0) (L.1 5) T.1.2 T.2.2 T.2.1 (L.1 6) (L.1 7) (L.1 8) (L.2 1) (L.1 10) (L.2 5) (L.2 6) (L.2 7)) fun (u : Int32 × Int32 × Int32 × (Nat → Int32) × Int32 × Int32 × Int32 × (Nat → Int32) × Int32 × (Nat → Int32) × (Nat → Int32) × (Nat → Int32)) => some (u.1, (va_up (va_up (va_up (va_up (L.1) 6 u.2.2.2.2.1) 7 u.2.2.2.2.2.1) 8 u.2.2.2.2.2.2.1) 10 u.2.2.2.2.2.2.2.2.1, va_up (va_up (va_up (va_up (L.2) 1 u.2.2.2.2.2.2.2.1) 5 u.2.2.2.2.2.2.2.2.2.1) 6 u.2.2.2.2.2.2.2.2.2.2.1) 7 u.2.2.2.2.2.2.2.2.2.2.2), ((T.1.1, u.2.1), (u.2.2.2.1, u.2.2.1)))
set_option maxHeartbeats 4000000 in
set_option maxRecDepth 100000 in
theorem eX6_unpack_i (l : Launch) (D : va_G) (cI cL : ClassId) (x : Nat) (as : Nat → Nat) (k : Nat) (hk : k < 4) (T T1 : dk_T) (L L1 : dk_Ln) (a2 : Int32) (a3 : Int32) (r : Int32) (hd : EX6_unpack_i (nI k) a2 a3 L T = some (r, L1, T1)) : pq_CI l yX6_unpack qsX6_unpack 6 148 D cI cL [.ref x, .int (nI k), .int a2, .int a3] (dk6 cI cL x as T ++ lnw cI as k L) (dk6 cI cL x as T1 ++ lnw cI as k L1) r := by
  unfold EX6_unpack_i at hd
  obtain ⟨u, hu, h2⟩ := pq_clx hd
  obtain ⟨rfl, g0⟩ := Prod.mk.inj (Option.some.inj h2)
  obtain ⟨rfl, g1⟩ := Prod.mk.inj g0
  subst g1
  exact (qX6_unpack_i l D cI cL (fun j => as (1 + 17 * j)) x (as 0) (as 69) (as 70) (as 71) (as 72) (as (1 + 17 * k)) (as (1 + 17 * k + 1)) (as (1 + 17 * k + 5)) (as (1 + 17 * k + 3)) (as (1 + 17 * k + 4)) (as (1 + 17 * k + 11)) (as (1 + 17 * k + 12)) (as (1 + 17 * k + 13)) (as (1 + 17 * k + 14)) (as (1 + 17 * k + 15)) (as (1 + 17 * k + 16)) T.1.2 T.1.1 T.2.2 T.2.1 (L.1 0) (L.1 5) (L.1 6) (L.1 7) (L.1 8) (L.2 1) (L.1 10) (L.2 5) (L.2 6) (L.2 7) (nI k) a2 a3 (congrArg (fun j => as (1 + 17 * j)) (nI_clamp (n := k) (by omega))) u hu).ix (wr := [(as (1 + 17 * k + 1), .inr (0, [.ref (as (1 + 17 * k + 2)), .int (L.1 1), .int (L.1 2), .int (L.1 3), .int (L.1 4)])), (as (1 + 17 * k + 2), .inl (cI, 24, .inl (L.2 0))), (as (1 + 17 * k + 5), .inr (4, [.ref (as (1 + 17 * k + 6)), .ref (as (1 + 17 * k + 8)), .ref (as (1 + 17 * k + 10)), .int (L.1 9)])), (as (1 + 17 * k + 6), .inr (1, [.ref (as (1 + 17 * k + 7))])), (as (1 + 17 * k + 7), .inl (cI, 23, .inl (L.2 2))), (as (1 + 17 * k + 8), .inr (1, [.ref (as (1 + 17 * k + 9))])), (as (1 + 17 * k + 9), .inl (cI, 23, .inl (L.2 3))), (as (1 + 17 * k + 10), .inl (cI, 24, .inl (L.2 4)))]) [0, 1, 2, 3, 4, 5, 6, 9, 10, 17, 18, 19, 20, 21, 22] [7, 8, 11, 12, 13, 14, 15, 16] [8, 9, 10, 11, 12, 13, 14, 0, 1, 15, 16, 2, 3, 4, 5, 6, 7, 17, 18, 19, 20, 21, 22] rfl rfl (by decide) (by decide) (by decide) rfl
def DX6_unpack (a1 : Int32) (a2 : Int32) (a3 : Int32) (S : dk_S) : Option (Int32 × dk_S) := if a1 < 0 ∨ nI 4 ≤ a1 then pq_cl (EX6_unpack_o a1 a2 a3 S.2) fun (u : Int32 × dk_T) => some (u.1, (S.1, u.2)) else pq_cl (EX6_unpack_i a1 a2 a3 (S.1 a1.toNatClampNeg) S.2) fun (u : Int32 × dk_Ln × dk_T) => some (u.1, (va_up S.1 a1.toNatClampNeg u.2.1, u.2.2))
theorem kX6_unpack (l : Launch) (D : va_G) (cI cL : ClassId) (x : Nat) (as : Nat → Nat) (S S1 : dk_S) (a1 : Int32) (a2 : Int32) (a3 : Int32) (r : Int32) (hd : DX6_unpack a1 a2 a3 S = some (r, S1)) : pq_CI l yX6_unpack qsX6_unpack 6 148 D cI cL [.ref x, .int a1, .int a2, .int a3] (wD cI cL x as S) (wD cI cL x as S1) r := by
  unfold DX6_unpack at hd
  by_cases hc : a1 < 0 ∨ nI 4 ≤ a1
  · rw [if_pos hc] at hd
    obtain ⟨⟨r0, T1⟩, hu, h2⟩ := pq_clx hd
    obtain ⟨rfl, rfl⟩ := Prod.mk.inj (Option.some.inj h2)
    exact dk_fr0 (eX6_unpack_o l D cI cL x as S.2 T1 a1 a2 a3 _ hu)
  · rw [if_neg hc] at hd
    rcases pk_ix a1 (n := 4) (by decide) with h | h | ⟨j, hj, rfl⟩
    · exact absurd (Or.inl h) hc
    · exact absurd (Or.inr h) hc
    · skip
      obtain ⟨⟨r0, L1, T1⟩, hu, h2⟩ := pq_clx hd
      obtain ⟨rfl, rfl⟩ := Prod.mk.inj (Option.some.inj h2)
      rw [nI_clamp (n := j) (by omega)] at hu
      show pq_CI l _ _ _ _ D cI cL _ (wD cI cL x as (S.1, S.2)) (wD cI cL x as (va_up S.1 (nI j).toNatClampNeg L1, T1)) r0
      rw [nI_clamp (n := j) (by omega)]
      exact dk_fr1 hj (eX6_unpack_i l D cI cL x as j hj S.2 T1 (S.1 j) L1 a2 a3 _ hu)
def EX6_pass_oo (a1 : Int32) (a2 : Int32) (a3 : Int32) (T : dk_T) : Option (Int32 × dk_T) := pq_cl (fX6_pass_oo a1 a2 a3) fun (u : Int32) => some (u, T)
set_option maxHeartbeats 4000000 in
set_option maxRecDepth 100000 in
theorem eX6_pass_oo (l : Launch) (D : va_G) (cI cL : ClassId) (x : Nat) (as : Nat → Nat) (T T1 : dk_T) (a1 : Int32) (a2 : Int32) (a3 : Int32) (r : Int32) (hd : EX6_pass_oo a1 a2 a3  T = some (r, T1)) : pq_CI l yX6_pass qsX6_pass 6 149 D cI cL [.ref x, .int a1, .int a2, .int a3] (dk6 cI cL x as T) (dk6 cI cL x as T1) r := by
  unfold EX6_pass_oo at hd
  obtain ⟨u, hu, h2⟩ := pq_clx hd
  obtain ⟨rfl, g0⟩ := Prod.mk.inj (Option.some.inj h2)
  subst g0
  exact (qX6_pass_oo l D cI cL x (as 0) (as 69) (as 71) a1 a2 a3 u hu).ix (wr := [(as 0, .inl (cL, 4, .inr (.inr (.inr (.inr (fun j => some (as (1 + 17 * j)))))))), (as 69, .inr (2, [.ref (as 70), .int T.1.2])), (as 70, .inl (cI, 1000, .inl T.1.1)), (as 71, .inr (2, [.ref (as 72), .int T.2.2])), (as 72, .inl (cI, 1000, .inl T.2.1))]) [0] [1, 2, 3, 4, 5] [5, 0, 1, 2, 3, 4] rfl rfl (by decide) (by decide) (by decide) rfl
def EX6_pass_oi (a1 : Int32) (a2 : Int32) (a3 : Int32) (L : dk_Ln) (T : dk_T) : Option (Int32 × dk_Ln × dk_T) := pq_cl (fX6_pass_oi a1 a2 a3 (L.1 0)) fun (u : Int32) => some (u, L, T)
set_option maxHeartbeats 4000000 in
set_option maxRecDepth 100000 in
theorem eX6_pass_oi (l : Launch) (D : va_G) (cI cL : ClassId) (x : Nat) (as : Nat → Nat) (k : Nat) (hk : k < 4) (T T1 : dk_T) (L L1 : dk_Ln) (a1 : Int32) (a3 : Int32) (r : Int32) (hd : EX6_pass_oi a1 (nI k) a3 L T = some (r, L1, T1)) : pq_CI l yX6_pass qsX6_pass 6 149 D cI cL [.ref x, .int a1, .int (nI k), .int a3] (dk6 cI cL x as T ++ lnw cI as k L) (dk6 cI cL x as T1 ++ lnw cI as k L1) r := by
  unfold EX6_pass_oi at hd
  obtain ⟨u, hu, h2⟩ := pq_clx hd
  obtain ⟨rfl, g0⟩ := Prod.mk.inj (Option.some.inj h2)
  obtain ⟨rfl, g1⟩ := Prod.mk.inj g0
  subst g1
  exact (qX6_pass_oi l D cI cL (fun j => as (1 + 17 * j)) x (as 69) (as 71) (as 0) (as (1 + 17 * k)) (as (1 + 17 * k + 1)) (as (1 + 17 * k + 3)) (as (1 + 17 * k + 5)) (as (1 + 17 * k + 11)) (L.1 0) a1 (nI k) a3 (congrArg (fun j => as (1 + 17 * j)) (nI_clamp (n := k) (by omega))) u hu).ix (wr := [(as 69, .inr (2, [.ref (as 70), .int T.1.2])), (as 70, .inl (cI, 1000, .inl T.1.1)), (as 71, .inr (2, [.ref (as 72), .int T.2.2])), (as 72, .inl (cI, 1000, .inl T.2.1)), (as (1 + 17 * k + 1), .inr (0, [.ref (as (1 + 17 * k + 2)), .int (L.1 1), .int (L.1 2), .int (L.1 3), .int (L.1 4)])), (as (1 + 17 * k + 2), .inl (cI, 24, .inl (L.2 0))), (as (1 + 17 * k + 3), .inr (0, [.ref (as (1 + 17 * k + 4)), .int (L.1 5), .int (L.1 6), .int (L.1 7), .int (L.1 8)])), (as (1 + 17 * k + 4), .inl (cI, 24, .inl (L.2 1))), (as (1 + 17 * k + 5), .inr (4, [.ref (as (1 + 17 * k + 6)), .ref (as (1 + 17 * k + 8)), .ref (as (1 + 17 * k + 10)), .int (L.1 9)])), (as (1 + 17 * k + 6), .inr (1, [.ref (as (1 + 17 * k + 7))])), (as (1 + 17 * k + 7), .inl (cI, 23, .inl (L.2 2))), (as (1 + 17 * k + 8), .inr (1, [.ref (as (1 + 17 * k + 9))])), (as (1 + 17 * k + 9), .inl (cI, 23, .inl (L.2 3))), (as (1 + 17 * k + 10), .inl (cI, 24, .inl (L.2 4))), (as (1 + 17 * k + 11), .inr (4, [.ref (as (1 + 17 * k + 12)), .ref (as (1 + 17 * k + 14)), .ref (as (1 + 17 * k + 16)), .int (L.1 10)])), (as (1 + 17 * k + 12), .inr (1, [.ref (as (1 + 17 * k + 13))])), (as (1 + 17 * k + 13), .inl (cI, 23, .inl (L.2 5))), (as (1 + 17 * k + 14), .inr (1, [.ref (as (1 + 17 * k + 15))])), (as (1 + 17 * k + 15), .inl (cI, 23, .inl (L.2 6))), (as (1 + 17 * k + 16), .inl (cI, 24, .inl (L.2 7)))]) [0, 1, 6] [2, 3, 4, 5, 7, 8, 9, 10, 11, 12, 13, 14, 15, 16, 17, 18, 19, 20, 21, 22] [20, 21, 0, 1, 2, 3, 22, 4, 5, 6, 7, 8, 9, 10, 11, 12, 13, 14, 15, 16, 17, 18, 19] rfl rfl (by decide) (by decide) (by decide) rfl
def EX6_pass_io (a1 : Int32) (a2 : Int32) (a3 : Int32) (L : dk_Ln) (T : dk_T) : Option (Int32 × dk_Ln × dk_T) := pq_cl (fX6_pass_io a1 a2 a3 (L.1 0)) fun (u : Int32) => some (u, L, T)
set_option maxHeartbeats 4000000 in
set_option maxRecDepth 100000 in
theorem eX6_pass_io (l : Launch) (D : va_G) (cI cL : ClassId) (x : Nat) (as : Nat → Nat) (k : Nat) (hk : k < 4) (T T1 : dk_T) (L L1 : dk_Ln) (a2 : Int32) (a3 : Int32) (r : Int32) (hd : EX6_pass_io (nI k) a2 a3 L T = some (r, L1, T1)) : pq_CI l yX6_pass qsX6_pass 6 149 D cI cL [.ref x, .int (nI k), .int a2, .int a3] (dk6 cI cL x as T ++ lnw cI as k L) (dk6 cI cL x as T1 ++ lnw cI as k L1) r := by
  unfold EX6_pass_io at hd
  obtain ⟨u, hu, h2⟩ := pq_clx hd
  obtain ⟨rfl, g0⟩ := Prod.mk.inj (Option.some.inj h2)
  obtain ⟨rfl, g1⟩ := Prod.mk.inj g0
  subst g1
  exact (qX6_pass_io l D cI cL (fun j => as (1 + 17 * j)) x (as 69) (as 71) (as 0) (as (1 + 17 * k)) (as (1 + 17 * k + 1)) (as (1 + 17 * k + 3)) (as (1 + 17 * k + 5)) (as (1 + 17 * k + 11)) (L.1 0) (nI k) a2 a3 (congrArg (fun j => as (1 + 17 * j)) (nI_clamp (n := k) (by omega))) u hu).ix (wr := [(as 69, .inr (2, [.ref (as 70), .int T.1.2])), (as 70, .inl (cI, 1000, .inl T.1.1)), (as 71, .inr (2, [.ref (as 72), .int T.2.2])), (as 72, .inl (cI, 1000, .inl T.2.1)), (as (1 + 17 * k + 1), .inr (0, [.ref (as (1 + 17 * k + 2)), .int (L.1 1), .int (L.1 2), .int (L.1 3), .int (L.1 4)])), (as (1 + 17 * k + 2), .inl (cI, 24, .inl (L.2 0))), (as (1 + 17 * k + 3), .inr (0, [.ref (as (1 + 17 * k + 4)), .int (L.1 5), .int (L.1 6), .int (L.1 7), .int (L.1 8)])), (as (1 + 17 * k + 4), .inl (cI, 24, .inl (L.2 1))), (as (1 + 17 * k + 5), .inr (4, [.ref (as (1 + 17 * k + 6)), .ref (as (1 + 17 * k + 8)), .ref (as (1 + 17 * k + 10)), .int (L.1 9)])), (as (1 + 17 * k + 6), .inr (1, [.ref (as (1 + 17 * k + 7))])), (as (1 + 17 * k + 7), .inl (cI, 23, .inl (L.2 2))), (as (1 + 17 * k + 8), .inr (1, [.ref (as (1 + 17 * k + 9))])), (as (1 + 17 * k + 9), .inl (cI, 23, .inl (L.2 3))), (as (1 + 17 * k + 10), .inl (cI, 24, .inl (L.2 4))), (as (1 + 17 * k + 11), .inr (4, [.ref (as (1 + 17 * k + 12)), .ref (as (1 + 17 * k + 14)), .ref (as (1 + 17 * k + 16)), .int (L.1 10)])), (as (1 + 17 * k + 12), .inr (1, [.ref (as (1 + 17 * k + 13))])), (as (1 + 17 * k + 13), .inl (cI, 23, .inl (L.2 5))), (as (1 + 17 * k + 14), .inr (1, [.ref (as (1 + 17 * k + 15))])), (as (1 + 17 * k + 15), .inl (cI, 23, .inl (L.2 6))), (as (1 + 17 * k + 16), .inl (cI, 24, .inl (L.2 7)))]) [0, 1, 6] [2, 3, 4, 5, 7, 8, 9, 10, 11, 12, 13, 14, 15, 16, 17, 18, 19, 20, 21, 22] [20, 21, 0, 1, 2, 3, 22, 4, 5, 6, 7, 8, 9, 10, 11, 12, 13, 14, 15, 16, 17, 18, 19] rfl rfl (by decide) (by decide) (by decide) rfl
def EX6_pass_ii (a1 : Int32) (a2 : Int32) (a3 : Int32) (L : dk_Ln) (L2 : dk_Ln) (T : dk_T) : Option (Int32 × dk_Ln × dk_Ln × dk_T) := pq_cl (fX6_pass_ii a1 a2 a3 (L.1 0) (L.1 5) (L2.1 0) (L2.1 1) (L.1 6) (L.1 7) (L.1 8) (L.2 1) (L.1 10) (L.2 5) (L.2 6) (L.2 7) (L2.1 2) (L2.1 3) (L2.1 4) (L2.2 0) (L2.2 2) (L2.2 3) (L2.2 4)) fun (u : Int32 × Int32 × Int32 × Int32 × (Nat → Int32) × Int32 × (Nat → Int32) × (Nat → Int32) × (Nat → Int32) × Int32 × Int32 × Int32 × (Nat → Int32) × (Nat → Int32) × (Nat → Int32) × (Nat → Int32)) => some (u.1, (va_up (va_up (va_up (va_up (L.1) 6 u.2.1) 7 u.2.2.1) 8 u.2.2.2.1) 10 u.2.2.2.2.2.1, va_up (va_up (va_up (va_up (L.2) 1 u.2.2.2.2.1) 5 u.2.2.2.2.2.2.1) 6 u.2.2.2.2.2.2.2.1) 7 u.2.2.2.2.2.2.2.2.1), (va_up (va_up (va_up (L2.1) 2 u.2.2.2.2.2.2.2.2.2.1) 3 u.2.2.2.2.2.2.2.2.2.2.1) 4 u.2.2.2.2.2.2.2.2.2.2.2.1, va_up (va_up (va_up (va_up (L2.2) 0 u.2.2.2.2.2.2.2.2.2.2.2.2.1) 2 u.2.2.2.2.2.2.2.2.2.2.2.2.2.1) 3 u.2.2.2.2.2.2.2.2.2.2.2.2.2.2.1) 4 u.2.2.2.2.2.2.2.2.2.2.2.2.2.2.2), T)
set_option maxHeartbeats 4000000 in
set_option maxRecDepth 100000 in
theorem eX6_pass_ii (l : Launch) (D : va_G) (cI cL : ClassId) (x : Nat) (as : Nat → Nat) (k : Nat) (hk : k < 4) (k2 : Nat) (hk2 : k2 < 4) (T T1 : dk_T) (L L1 : dk_Ln) (L2 L21 : dk_Ln) (a3 : Int32) (r : Int32) (hd : EX6_pass_ii (nI k) (nI k2) a3 L L2 T = some (r, L1, L21, T1)) : pq_CI l yX6_pass qsX6_pass 6 149 D cI cL [.ref x, .int (nI k), .int (nI k2), .int a3] (dk6 cI cL x as T ++ (lnw cI as k L ++ lnw cI as k2 L2)) (dk6 cI cL x as T1 ++ (lnw cI as k L1 ++ lnw cI as k2 L21)) r := by
  unfold EX6_pass_ii at hd
  obtain ⟨u, hu, h2⟩ := pq_clx hd
  obtain ⟨rfl, g0⟩ := Prod.mk.inj (Option.some.inj h2)
  obtain ⟨rfl, g1⟩ := Prod.mk.inj g0
  obtain ⟨rfl, g2⟩ := Prod.mk.inj g1
  subst g2
  exact (qX6_pass_ii l D cI cL (fun j => as (1 + 17 * j)) x (as 69) (as 71) (as 0) (as (1 + 17 * k)) (as (1 + 17 * k + 1)) (as (1 + 17 * k + 5)) (as (1 + 17 * k + 3)) (as (1 + 17 * k + 4)) (as (1 + 17 * k + 11)) (as (1 + 17 * k + 12)) (as (1 + 17 * k + 13)) (as (1 + 17 * k + 14)) (as (1 + 17 * k + 15)) (as (1 + 17 * k + 16)) (as (1 + 17 * k2)) (as (1 + 17 * k2 + 3)) (as (1 + 17 * k2 + 11)) (as (1 + 17 * k2 + 1)) (as (1 + 17 * k2 + 2)) (as (1 + 17 * k2 + 5)) (as (1 + 17 * k2 + 6)) (as (1 + 17 * k2 + 7)) (as (1 + 17 * k2 + 8)) (as (1 + 17 * k2 + 9)) (as (1 + 17 * k2 + 10)) (L.1 0) (L.1 5) (L.1 6) (L.1 7) (L.1 8) (L.2 1) (L.1 10) (L.2 5) (L.2 6) (L.2 7) (L2.1 0) (L2.1 1) (L2.1 2) (L2.1 3) (L2.1 4) (L2.2 0) (L2.1 9) (L2.2 2) (L2.2 3) (L2.2 4) (nI k) (nI k2) a3 (congrArg (fun j => as (1 + 17 * j)) (nI_clamp (n := k) (by omega))) (congrArg (fun j => as (1 + 17 * j)) (nI_clamp (n := k2) (by omega))) u hu).ix (wr := [(as 69, .inr (2, [.ref (as 70), .int T.1.2])), (as 70, .inl (cI, 1000, .inl T.1.1)), (as 71, .inr (2, [.ref (as 72), .int T.2.2])), (as 72, .inl (cI, 1000, .inl T.2.1)), (as (1 + 17 * k + 1), .inr (0, [.ref (as (1 + 17 * k + 2)), .int (L.1 1), .int (L.1 2), .int (L.1 3), .int (L.1 4)])), (as (1 + 17 * k + 2), .inl (cI, 24, .inl (L.2 0))), (as (1 + 17 * k + 5), .inr (4, [.ref (as (1 + 17 * k + 6)), .ref (as (1 + 17 * k + 8)), .ref (as (1 + 17 * k + 10)), .int (L.1 9)])), (as (1 + 17 * k + 6), .inr (1, [.ref (as (1 + 17 * k + 7))])), (as (1 + 17 * k + 7), .inl (cI, 23, .inl (L.2 2))), (as (1 + 17 * k + 8), .inr (1, [.ref (as (1 + 17 * k + 9))])), (as (1 + 17 * k + 9), .inl (cI, 23, .inl (L.2 3))), (as (1 + 17 * k + 10), .inl (cI, 24, .inl (L.2 4))), (as (1 + 17 * k2 + 3), .inr (0, [.ref (as (1 + 17 * k2 + 4)), .int (L2.1 5), .int (L2.1 6), .int (L2.1 7), .int (L2.1 8)])), (as (1 + 17 * k2 + 4), .inl (cI, 24, .inl (L2.2 1))), (as (1 + 17 * k2 + 11), .inr (4, [.ref (as (1 + 17 * k2 + 12)), .ref (as (1 + 17 * k2 + 14)), .ref (as (1 + 17 * k2 + 16)), .int (L2.1 10)])), (as (1 + 17 * k2 + 12), .inr (1, [.ref (as (1 + 17 * k2 + 13))])), (as (1 + 17 * k2 + 13), .inl (cI, 23, .inl (L2.2 5))), (as (1 + 17 * k2 + 14), .inr (1, [.ref (as (1 + 17 * k2 + 15))])), (as (1 + 17 * k2 + 15), .inl (cI, 23, .inl (L2.2 6))), (as (1 + 17 * k2 + 16), .inl (cI, 24, .inl (L2.2 7)))]) [0, 1, 6, 9, 10, 17, 18, 19, 20, 21, 22, 23, 24, 25, 28, 29, 30, 31, 32, 33] [2, 3, 4, 5, 7, 8, 11, 12, 13, 14, 15, 16, 26, 27, 34, 35, 36, 37, 38, 39] (20 :: 21 :: 0 :: 1 :: 2 :: 3 :: 22 :: 4 :: 5 :: 23 :: 24 :: 6 :: 7 :: 8 :: 9 :: 10 :: 11 :: 25 :: 26 :: 27 :: 28 :: 29 :: 30 :: 31 :: 32 :: 33 :: 12 :: 13 :: 34 :: 35 :: 36 :: 37 :: 38 :: 39 :: 14 :: 15 :: 16 :: 17 :: 18 :: 19 :: []) rfl rfl (by decide) (by decide) (by decide) rfl
def EX6_pass_is (a1 : Int32) (a2 : Int32) (a3 : Int32) (L : dk_Ln) (T : dk_T) : Option (Int32 × dk_Ln × dk_T) := pq_cl (fX6_pass_is a1 a2 a3 (L.1 0) (L.1 1) (L.1 5) (L.1 2) (L.1 3) (L.1 4) (L.2 0) (L.1 6) (L.1 7) (L.1 8) (L.2 1) (L.2 2) (L.2 3) (L.2 4) (L.1 10) (L.2 5) (L.2 6) (L.2 7)) fun (u : Int32 × Int32 × Int32 × Int32 × (Nat → Int32) × Int32 × Int32 × Int32 × (Nat → Int32) × (Nat → Int32) × (Nat → Int32) × (Nat → Int32) × Int32 × (Nat → Int32) × (Nat → Int32) × (Nat → Int32)) => some (u.1, (va_up (va_up (va_up (va_up (va_up (va_up (va_up (L.1) 2 u.2.1) 3 u.2.2.1) 4 u.2.2.2.1) 6 u.2.2.2.2.2.1) 7 u.2.2.2.2.2.2.1) 8 u.2.2.2.2.2.2.2.1) 10 u.2.2.2.2.2.2.2.2.2.2.2.2.1, va_up (va_up (va_up (va_up (va_up (va_up (va_up (va_up (L.2) 0 u.2.2.2.2.1) 1 u.2.2.2.2.2.2.2.2.1) 2 u.2.2.2.2.2.2.2.2.2.1) 3 u.2.2.2.2.2.2.2.2.2.2.1) 4 u.2.2.2.2.2.2.2.2.2.2.2.1) 5 u.2.2.2.2.2.2.2.2.2.2.2.2.2.1) 6 u.2.2.2.2.2.2.2.2.2.2.2.2.2.2.1) 7 u.2.2.2.2.2.2.2.2.2.2.2.2.2.2.2), T)
set_option maxHeartbeats 4000000 in
set_option maxRecDepth 100000 in
theorem eX6_pass_is (l : Launch) (D : va_G) (cI cL : ClassId) (x : Nat) (as : Nat → Nat) (k : Nat) (hk : k < 4) (T T1 : dk_T) (L L1 : dk_Ln) (a3 : Int32) (r : Int32) (hd : EX6_pass_is (nI k) (nI k) a3 L T = some (r, L1, T1)) : pq_CI l yX6_pass qsX6_pass 6 149 D cI cL [.ref x, .int (nI k), .int (nI k), .int a3] (dk6 cI cL x as T ++ lnw cI as k L) (dk6 cI cL x as T1 ++ lnw cI as k L1) r := by
  unfold EX6_pass_is at hd
  obtain ⟨u, hu, h2⟩ := pq_clx hd
  obtain ⟨rfl, g0⟩ := Prod.mk.inj (Option.some.inj h2)
  obtain ⟨rfl, g1⟩ := Prod.mk.inj g0
  subst g1
  exact (qX6_pass_is l D cI cL (fun j => as (1 + 17 * j)) x (as 69) (as 71) (as 0) (as (1 + 17 * k)) (as (1 + 17 * k + 1)) (as (1 + 17 * k + 2)) (as (1 + 17 * k + 3)) (as (1 + 17 * k + 4)) (as (1 + 17 * k + 5)) (as (1 + 17 * k + 6)) (as (1 + 17 * k + 7)) (as (1 + 17 * k + 8)) (as (1 + 17 * k + 9)) (as (1 + 17 * k + 10)) (as (1 + 17 * k + 11)) (as (1 + 17 * k + 12)) (as (1 + 17 * k + 13)) (as (1 + 17 * k + 14)) (as (1 + 17 * k + 15)) (as (1 + 17 * k + 16)) (L.1 0) (L.1 1) (L.1 2) (L.1 3) (L.1 4) (L.2 0) (L.1 5) (L.1 6) (L.1 7) (L.1 8) (L.2 1) (L.1 9) (L.2 2) (L.2 3) (L.2 4) (L.1 10) (L.2 5) (L.2 6) (L.2 7) (nI k) (nI k) a3 (congrArg (fun j => as (1 + 17 * j)) (nI_clamp (n := k) (by omega))) (congrArg (fun j => as (1 + 17 * j)) (nI_clamp (n := k) (by omega))) u hu).ix (wr := [(as 69, .inr (2, [.ref (as 70), .int T.1.2])), (as 70, .inl (cI, 1000, .inl T.1.1)), (as 71, .inr (2, [.ref (as 72), .int T.2.2])), (as 72, .inl (cI, 1000, .inl T.2.1))]) [0, 1, 6, 7, 8, 9, 10, 11, 12, 13, 14, 15, 16, 17, 18, 19, 20, 21, 22] [2, 3, 4, 5] [4, 5, 0, 1, 2, 3, 6, 7, 8, 9, 10, 11, 12, 13, 14, 15, 16, 17, 18, 19, 20, 21, 22] rfl rfl (by decide) (by decide) (by decide) rfl
def DX6_pass (a1 : Int32) (a2 : Int32) (a3 : Int32) (S : dk_S) : Option (Int32 × dk_S) := if a1 < 0 ∨ nI 4 ≤ a1 then (if a2 < 0 ∨ nI 4 ≤ a2 then pq_cl (EX6_pass_oo a1 a2 a3 S.2) fun (u : Int32 × dk_T) => some (u.1, (S.1, u.2)) else pq_cl (EX6_pass_oi a1 a2 a3 (S.1 a2.toNatClampNeg) S.2) fun (u : Int32 × dk_Ln × dk_T) => some (u.1, (va_up S.1 a2.toNatClampNeg u.2.1, u.2.2))) else (if a2 < 0 ∨ nI 4 ≤ a2 then pq_cl (EX6_pass_io a1 a2 a3 (S.1 a1.toNatClampNeg) S.2) fun (u : Int32 × dk_Ln × dk_T) => some (u.1, (va_up S.1 a1.toNatClampNeg u.2.1, u.2.2)) else if a1 = a2 then pq_cl (EX6_pass_is a1 a2 a3 (S.1 a1.toNatClampNeg) S.2) fun (u : Int32 × dk_Ln × dk_T) => some (u.1, (va_up S.1 a1.toNatClampNeg u.2.1, u.2.2)) else pq_cl (EX6_pass_ii a1 a2 a3 (S.1 a1.toNatClampNeg) (S.1 a2.toNatClampNeg) S.2) fun (u : Int32 × dk_Ln × dk_Ln × dk_T) => some (u.1, (va_up (va_up S.1 a1.toNatClampNeg u.2.1) a2.toNatClampNeg u.2.2.1, u.2.2.2)))
theorem kX6_pass (l : Launch) (D : va_G) (cI cL : ClassId) (x : Nat) (as : Nat → Nat) (S S1 : dk_S) (a1 : Int32) (a2 : Int32) (a3 : Int32) (r : Int32) (hd : DX6_pass a1 a2 a3 S = some (r, S1)) : pq_CI l yX6_pass qsX6_pass 6 149 D cI cL [.ref x, .int a1, .int a2, .int a3] (wD cI cL x as S) (wD cI cL x as S1) r := by
  unfold DX6_pass at hd
  by_cases hc : a1 < 0 ∨ nI 4 ≤ a1
  · rw [if_pos hc] at hd
    by_cases hc2 : a2 < 0 ∨ nI 4 ≤ a2
    · rw [if_pos hc2] at hd
      obtain ⟨⟨r0, T1⟩, hu, h2⟩ := pq_clx hd
      obtain ⟨rfl, rfl⟩ := Prod.mk.inj (Option.some.inj h2)
      exact dk_fr0 (eX6_pass_oo l D cI cL x as S.2 T1 a1 a2 a3 _ hu)
    · rw [if_neg hc2] at hd
      rcases pk_ix a2 (n := 4) (by decide) with h | h | ⟨j, hj, rfl⟩
      · exact absurd (Or.inl h) hc2
      · exact absurd (Or.inr h) hc2
      · skip
        obtain ⟨⟨r0, L1, T1⟩, hu, h2⟩ := pq_clx hd
        obtain ⟨rfl, rfl⟩ := Prod.mk.inj (Option.some.inj h2)
        rw [nI_clamp (n := j) (by omega)] at hu
        show pq_CI l _ _ _ _ D cI cL _ (wD cI cL x as (S.1, S.2)) (wD cI cL x as (va_up S.1 (nI j).toNatClampNeg L1, T1)) r0
        rw [nI_clamp (n := j) (by omega)]
        exact dk_fr1 hj (eX6_pass_oi l D cI cL x as j hj S.2 T1 (S.1 j) L1 a1 a3 _ hu)
  · rw [if_neg hc] at hd
    rcases pk_ix a1 (n := 4) (by decide) with h | h | ⟨i, hi, rfl⟩
    · exact absurd (Or.inl h) hc
    · exact absurd (Or.inr h) hc
    · skip
      by_cases hc2 : a2 < 0 ∨ nI 4 ≤ a2
      · rw [if_pos hc2] at hd
        obtain ⟨⟨r0, L1, T1⟩, hu, h2⟩ := pq_clx hd
        obtain ⟨rfl, rfl⟩ := Prod.mk.inj (Option.some.inj h2)
        rw [nI_clamp (n := i) (by omega)] at hu
        show pq_CI l _ _ _ _ D cI cL _ (wD cI cL x as (S.1, S.2)) (wD cI cL x as (va_up S.1 (nI i).toNatClampNeg L1, T1)) r0
        rw [nI_clamp (n := i) (by omega)]
        exact dk_fr1 hi (eX6_pass_io l D cI cL x as i hi S.2 T1 (S.1 i) L1 a2 a3 _ hu)
      · rw [if_neg hc2] at hd
        by_cases he : nI i = a2
        · subst he
          rw [if_pos rfl] at hd
          obtain ⟨⟨r0, L1, T1⟩, hu, h2⟩ := pq_clx hd
          obtain ⟨rfl, rfl⟩ := Prod.mk.inj (Option.some.inj h2)
          rw [nI_clamp (n := i) (by omega)] at hu
          show pq_CI l _ _ _ _ D cI cL _ (wD cI cL x as (S.1, S.2)) (wD cI cL x as (va_up S.1 (nI i).toNatClampNeg L1, T1)) r0
          rw [nI_clamp (n := i) (by omega)]
          exact dk_fr1 hi (eX6_pass_is l D cI cL x as i hi S.2 T1 (S.1 i) L1 a3 _ hu)
        · rw [if_neg he] at hd
          rcases pk_ix a2 (n := 4) (by decide) with h | h | ⟨j, hj, rfl⟩
          · exact absurd (Or.inl h) hc2
          · exact absurd (Or.inr h) hc2
          · skip
            obtain ⟨⟨r0, L1, L2, T1⟩, hu, h2⟩ := pq_clx hd
            obtain ⟨rfl, rfl⟩ := Prod.mk.inj (Option.some.inj h2)
            rw [nI_clamp (n := i) (by omega), nI_clamp (n := j) (by omega)] at hu
            show pq_CI l _ _ _ _ D cI cL _ (wD cI cL x as (S.1, S.2)) (wD cI cL x as (va_up (va_up S.1 (nI i).toNatClampNeg L1) (nI j).toNatClampNeg L2, T1)) r0
            rw [nI_clamp (n := i) (by omega), nI_clamp (n := j) (by omega)]
            exact dk_fr2 hi hj (fun h => he (by rw [h])) (eX6_pass_ii l D cI cL x as i hi j hj S.2 T1 (S.1 i) L1 (S.1 j) L2 a3 _ hu)
def EX6_law (a1 : Int32) (a2 : Int32) (a3 : Int32) (T : dk_T) : Option (Int32 × dk_T) := pq_cl (fX6_law a1 a2 a3) fun (u : Int32) => some (u, T)
set_option maxHeartbeats 4000000 in
set_option maxRecDepth 100000 in
theorem eX6_law (l : Launch) (D : va_G) (cI cL : ClassId) (x : Nat) (as : Nat → Nat) (T T1 : dk_T) (a1 : Int32) (a2 : Int32) (a3 : Int32) (r : Int32) (hd : EX6_law a1 a2 a3  T = some (r, T1)) : pq_CI l yX6_law qsX6_law 2 46 D cI cL [.ref x, .int a1, .int a2, .int a3] (dk6 cI cL x as T) (dk6 cI cL x as T1) r := by
  unfold EX6_law at hd
  obtain ⟨u, hu, h2⟩ := pq_clx hd
  obtain ⟨rfl, g0⟩ := Prod.mk.inj (Option.some.inj h2)
  subst g0
  exact (qX6_law l D cI cL x a1 a2 a3 u hu).ix (wr := [(x, .inr (5, [.ref (as 0), .ref (as 69), .ref (as 71)])), (as 0, .inl (cL, 4, .inr (.inr (.inr (.inr (fun j => some (as (1 + 17 * j)))))))), (as 69, .inr (2, [.ref (as 70), .int T.1.2])), (as 70, .inl (cI, 1000, .inl T.1.1)), (as 71, .inr (2, [.ref (as 72), .int T.2.2])), (as 72, .inl (cI, 1000, .inl T.2.1))]) [] [0, 1, 2, 3, 4, 5] [0, 1, 2, 3, 4, 5] rfl rfl (by decide) (by decide) (by decide) rfl
def DX6_law (a1 : Int32) (a2 : Int32) (a3 : Int32) (S : dk_S) : Option (Int32 × dk_S) := pq_cl (EX6_law a1 a2 a3 S.2) fun (u : Int32 × dk_T) => some (u.1, (S.1, u.2))
theorem kX6_law (l : Launch) (D : va_G) (cI cL : ClassId) (x : Nat) (as : Nat → Nat) (S S1 : dk_S) (a1 : Int32) (a2 : Int32) (a3 : Int32) (r : Int32) (hd : DX6_law a1 a2 a3 S = some (r, S1)) : pq_CI l yX6_law qsX6_law 2 46 D cI cL [.ref x, .int a1, .int a2, .int a3] (wD cI cL x as S) (wD cI cL x as S1) r := by
  unfold DX6_law at hd
  obtain ⟨⟨r0, T1⟩, hu, h2⟩ := pq_clx hd
  obtain ⟨rfl, rfl⟩ := Prod.mk.inj (Option.some.inj h2)
  exact dk_fr0 (eX6_law l D cI cL x as S.2 T1 a1 a2 a3 _ hu)
