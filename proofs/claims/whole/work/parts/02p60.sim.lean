/-! two pure programs side by side: both come to an end, with P between their answers -/
def sm {α β : Type} (P : α → β → Prop) (x : Option α) (y : Option β) : Prop := ∃ a b, x = some a ∧ y = some b ∧ P a b
section SM
variable {α β γ δ : Type} {P : α → β → Prop} {x : Option α} {y : Option β}
theorem sm_ret {a : α} {b : β} (h : P a b) : sm P (some a) (some b) := ⟨a, b, rfl, rfl, h⟩
theorem sm_imp {Q : α → β → Prop} (h : sm P x y) (hPQ : ∀ a b, P a b → Q a b) : sm Q x y := by
  obtain ⟨a, b, h1, h2, h3⟩ := h
  exact ⟨a, b, h1, h2, hPQ a b h3⟩
theorem sm_eqL {x' : Option α} (h : x = x') (k : sm P x' y) : sm P x y := h ▸ k
theorem sm_eqR {y' : Option β} (h : y = y') (k : sm P x y') : sm P x y := h ▸ k
theorem sm_nmL {e : γ} {k : γ → Option α} (h : sm P (k e) y) : sm P (pq_nm e k) y := h
theorem sm_nmR {e : γ} {k : γ → Option β} (h : sm P x (k e)) : sm P x (pq_nm e k) := h
theorem sm_nm {e : γ} {k : γ → Option α} {k' : γ → Option β} (h : ∀ v, sm P (k v) (k' v)) : sm P (pq_nm e k) (pq_nm e k') := h e
theorem sm_nme {e e' : γ} {k : γ → Option α} {k' : γ → Option β} (he : e = e') (h : ∀ v, v = e → sm P (k v) (k' v)) : sm P (pq_nm e k) (pq_nm e' k') := by subst he; exact h e rfl
theorem sm_br {c : Prop} [Decidable c] {a b : Option α} {a' b' : Option β} (h1 : c → sm P a a') (h2 : ¬ c → sm P b b') : sm P (pq_br c a b) (pq_br c a' b') := by
  unfold pq_br
  by_cases h : c
  · rw [if_pos h, if_pos h]; exact h1 h
  · rw [if_neg h, if_neg h]; exact h2 h
theorem sm_bri {c c' : Prop} [Decidable c] [Decidable c'] {a b : Option α} {a' b' : Option β} (hc : c ↔ c') (h1 : c → sm P a a') (h2 : ¬ c → sm P b b') : sm P (pq_br c a b) (pq_br c' a' b') := by
  unfold pq_br
  by_cases h : c
  · rw [if_pos h, if_pos (hc.mp h)]; exact h1 h
  · rw [if_neg h, if_neg (fun q => h (hc.mpr q))]; exact h2 h
theorem sm_brn {c c' : Prop} [Decidable c] [Decidable c'] {a b : Option α} {a' b' : Option β} (hc : c ↔ ¬ c') (h1 : c → sm P a b') (h2 : ¬ c → sm P b a') : sm P (pq_br c a b) (pq_br c' a' b') := by
  unfold pq_br
  by_cases h : c
  · rw [if_pos h, if_neg (hc.mp h)]; exact h1 h
  · rw [if_neg h, if_pos (Decidable.byContradiction fun q => h (hc.mpr q))]; exact h2 h
theorem sm_brL {c : Prop} [Decidable c] {a b : Option α} (h1 : c → sm P a y) (h2 : ¬ c → sm P b y) : sm P (pq_br c a b) y := by
  unfold pq_br
  by_cases h : c
  · rw [if_pos h]; exact h1 h
  · rw [if_neg h]; exact h2 h
theorem sm_brR {c : Prop} [Decidable c] {a b : Option β} (h1 : c → sm P x a) (h2 : ¬ c → sm P x b) : sm P x (pq_br c a b) := by
  unfold pq_br
  by_cases h : c
  · rw [if_pos h]; exact h1 h
  · rw [if_neg h]; exact h2 h
theorem sm_cl {Q : γ → δ → Prop} {o : Option γ} {o' : Option δ} {k : γ → Option α} {k' : δ → Option β} (h : sm Q o o') (hk : ∀ a b, o = some a → o' = some b → Q a b → sm P (k a) (k' b)) : sm P (pq_cl o k) (pq_cl o' k') := by
  obtain ⟨a, b, h1, h2, h3⟩ := h
  subst h1; subst h2
  exact hk a b rfl rfl h3
theorem sm_cle {o o' : Option γ} {a : γ} {k : γ → Option α} {k' : γ → Option β} (h1 : o = some a) (h2 : o' = some a) (hk : sm P (k a) (k' a)) : sm P (pq_cl o k) (pq_cl o' k') := by
  subst h1; subst h2
  exact hk
theorem sm_clL {o : Option γ} {a : γ} {k : γ → Option α} (h : o = some a) (hk : sm P (k a) y) : sm P (pq_cl o k) y := by subst h; exact hk
theorem sm_clR {o : Option γ} {a : γ} {k : γ → Option β} (h : o = some a) (hk : sm P x (k a)) : sm P x (pq_cl o k) := by subst h; exact hk
theorem rd_in {n j : Nat} {f : Nat → Int32} {i : Int32} {k : Int32 → Option α} (hi : i = nI j) (hj : j < n) (hn : n ≤ 2000) : pq_rd n f i k = k (f j) := by
  subst hi
  unfold pq_rd
  rw [if_neg (nI_in hj (by omega)), nI_clamp (by omega)]
theorem wr_in {n j : Nat} {f : Nat → Int32} {i v : Int32} {k : (Nat → Int32) → Option α} (hi : i = nI j) (hj : j < n) (hn : n ≤ 2000) : pq_wr n f i v k = k (upd f j v) := by
  subst hi
  unfold pq_wr
  rw [if_neg (nI_in hj (by omega)), nI_clamp (by omega)]
theorem sm_rdL {n j : Nat} {f : Nat → Int32} {i : Int32} {k : Int32 → Option α} (hi : i = nI j) (hj : j < n) (hn : n ≤ 2000) (h : sm P (k (f j)) y) : sm P (pq_rd n f i k) y := by rw [rd_in hi hj hn]; exact h
theorem sm_rdR {n j : Nat} {f : Nat → Int32} {i : Int32} {k : Int32 → Option β} (hi : i = nI j) (hj : j < n) (hn : n ≤ 2000) (h : sm P x (k (f j))) : sm P x (pq_rd n f i k) := by rw [rd_in hi hj hn]; exact h
theorem sm_wrL {n j : Nat} {f : Nat → Int32} {i v : Int32} {k : (Nat → Int32) → Option α} (hi : i = nI j) (hj : j < n) (hn : n ≤ 2000) (h : sm P (k (upd f j v)) y) : sm P (pq_wr n f i v k) y := by rw [wr_in hi hj hn]; exact h
theorem sm_wrR {n j : Nat} {f : Nat → Int32} {i v : Int32} {k : (Nat → Int32) → Option β} (hi : i = nI j) (hj : j < n) (hn : n ≤ 2000) (h : sm P x (k (upd f j v))) : sm P x (pq_wr n f i v k) := by rw [wr_in hi hj hn]; exact h
end SM
/-- the row n of N numbers is the model's row g from b on; outside of it g is g0 -/
def vA (N b : Nat) (n g g0 : Nat → Int32) : Prop := (∀ j, j < N → g (b + j) = n j) ∧ ∀ q, (q < b ∨ b + N ≤ q) → g q = g0 q
theorem vA.up {N b : Nat} {n g g0 : Nat → Int32} (h : vA N b n g g0) {j : Nat} (hj : j < N) (v : Int32) : vA N b (upd n j v) (upd g (b + j) v) g0 := by
  refine ⟨fun i hi => ?_, fun q hq => ?_⟩
  · unfold upd
    by_cases e : i = j
    · subst e; simp
    · rw [if_neg e, if_neg (by omega)]; exact h.1 i hi
  · unfold upd
    rw [if_neg (by omega)]
    exact h.2 q hq
section SV
variable {α β : Type} {P : α → β → Prop}
/-- both read one place -/
theorem sv_rd {N G b j : Nat} {n g g0 : Nat → Int32} (hR : vA N b n g g0) {i i' : Int32} {k : Int32 → Option α} {k' : Int32 → Option β} (hi : i = nI j) (hi' : i' = nI (b + j)) (hj : j < N) (hN : N ≤ 2000) (hb : b + N ≤ G) (hG : G ≤ 2000) (h : ∀ v, v = n j → sm P (k v) (k' v)) : sm P (pq_rd N n i k) (pq_rd G g i' k') := by
  rw [rd_in hi hj hN, rd_in hi' (by omega) hG, hR.1 j hj]
  exact h _ rfl
/-- both write one place -/
theorem sv_wr {N G b j : Nat} {n g g0 : Nat → Int32} (hR : vA N b n g g0) {i i' v v' : Int32} {k : (Nat → Int32) → Option α} {k' : (Nat → Int32) → Option β} (hi : i = nI j) (hi' : i' = nI (b + j)) (hj : j < N) (hN : N ≤ 2000) (hb : b + N ≤ G) (hG : G ≤ 2000) (hv : v = v') (h : ∀ n1 g1, n1 = upd n j v → vA N b n1 g1 g0 → sm P (k n1) (k' g1)) : sm P (pq_wr N n i v k) (pq_wr G g i' v' k') := by
  subst hv
  rw [wr_in hi hj hN, wr_in hi' (by omega) hG]
  exact h _ _ rfl (hR.up hj v)
end SV
theorem ix_l (a k : Nat) : nI a + (OfNat.ofNat k : Int32) = nI (a + k) := nI_add a k
theorem ix_r (a k : Nat) : (OfNat.ofNat k : Int32) + nI a = nI (k + a) := nI_add k a
theorem ix_0 (k : Nat) : (OfNat.ofNat k : Int32) = nI k := rfl
