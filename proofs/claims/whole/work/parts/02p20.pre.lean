/-! pure programs: names, reads, writes, branches, calls; a program that answers 'none' has left its rows or run out of fuel -/
def pq_nm {α β : Type} (e : α) (k : α → Option β) : Option β := k e
theorem pq_nmx {α β : Type} {e : α} {k : α → Option β} {r : β} (h : pq_nm e k = some r) (x : α) (hx : x = e) : k x = some r := by rw [hx]; exact h
def pq_rd {β : Type} (n : Nat) (f : Nat → Int32) (i : Int32) (k : Int32 → Option β) : Option β := if i < 0 ∨ n ≤ i.toNatClampNeg then none else k (f i.toNatClampNeg)
theorem pq_rdx {β : Type} {n : Nat} {f : Nat → Int32} {i : Int32} {k : Int32 → Option β} {r : β} (h : pq_rd n f i k = some r) : vp_in i n ∧ ∀ x, x = f i.toNatClampNeg → k x = some r := by
  unfold pq_rd at h
  by_cases hc : i < 0 ∨ n ≤ i.toNatClampNeg
  · rw [if_pos hc] at h; cases h
  · rw [if_neg hc] at h; exact ⟨hc, fun x hx => by rw [hx]; exact h⟩
def pq_wr {β : Type} (n : Nat) (f : Nat → Int32) (i v : Int32) (k : (Nat → Int32) → Option β) : Option β := if i < 0 ∨ n ≤ i.toNatClampNeg then none else k (upd f i.toNatClampNeg v)
theorem pq_wrx {β : Type} {n : Nat} {f : Nat → Int32} {i v : Int32} {k : (Nat → Int32) → Option β} {r : β} (h : pq_wr n f i v k = some r) : vp_in i n ∧ ∀ x, x = upd f i.toNatClampNeg v → k x = some r := by
  unfold pq_wr at h
  by_cases hc : i < 0 ∨ n ≤ i.toNatClampNeg
  · rw [if_pos hc] at h; cases h
  · rw [if_neg hc] at h; exact ⟨hc, fun x hx => by rw [hx]; exact h⟩
/-- a row of references is asked at i: only that i lies within -/
def pq_ix {β : Type} (n : Nat) (i : Int32) (k : Option β) : Option β := if i < 0 ∨ n ≤ i.toNatClampNeg then none else k
theorem pq_ixx {β : Type} {n : Nat} {i : Int32} {k : Option β} {r : β} (h : pq_ix n i k = some r) : vp_in i n ∧ k = some r := by
  unfold pq_ix at h
  by_cases hc : i < 0 ∨ n ≤ i.toNatClampNeg
  · rw [if_pos hc] at h; cases h
  · rw [if_neg hc] at h; exact ⟨hc, h⟩
def pq_nz {β : Type} (y : Int32) (k : Option β) : Option β := if y = 0 then none else k
theorem pq_nzx {β : Type} {y : Int32} {k : Option β} {r : β} (h : pq_nz y k = some r) : ¬ y = 0 ∧ k = some r := by
  unfold pq_nz at h
  by_cases hc : y = 0
  · rw [if_pos hc] at h; cases h
  · rw [if_neg hc] at h; exact ⟨hc, h⟩
def pq_br {β : Type} (c : Prop) [Decidable c] (a b : Option β) : Option β := if c then a else b
theorem pq_brt {β : Type} {c : Prop} [Decidable c] {a b : Option β} {r : β} (h : pq_br c a b = some r) (hc : c) : a = some r := by unfold pq_br at h; rw [if_pos hc] at h; exact h
theorem pq_brf {β : Type} {c : Prop} [Decidable c] {a b : Option β} {r : β} (h : pq_br c a b = some r) (hc : ¬ c) : b = some r := by unfold pq_br at h; rw [if_neg hc] at h; exact h
def pq_cl {α β : Type} (o : Option α) (k : α → Option β) : Option β := o.bind k
theorem pq_clx {α β : Type} {o : Option α} {k : α → Option β} {r : β} (h : pq_cl o k = some r) : ∃ v, o = some v ∧ k v = some r := by
  cases o with
  | none => cases h
  | some v => exact ⟨v, rfl, h⟩
