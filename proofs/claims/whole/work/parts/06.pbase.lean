/-! THE PURE BASE: guards of the functional pictures -/
def gd {α : Type} (N : Nat) (i : Int32) (k : Option α) : Option α := if i < 0 ∨ N ≤ i.toNatClampNeg then none else k
theorem gd_some {α : Type} {N : Nat} {i : Int32} {k : Option α} {r : α} (h : gd N i k = some r) : vp_in i N ∧ k = some r := by
  unfold gd at h
  by_cases hc : i < 0 ∨ N ≤ i.toNatClampNeg
  · rw [if_pos hc] at h; cases h
  · rw [if_neg hc] at h; exact ⟨hc, h⟩
theorem gd_in {α : Type} {N : Nat} {i : Int32} {k : Option α} (h : vp_in i N) : gd N i k = k := if_neg h
theorem gd_nI {α : Type} {N j : Nat} {k : Option α} (h : j < N) (hN : N < 2 ^ 31) : gd N (nI j) k = k := gd_in (vp_in_nI h hN)
def zb {α : Type} (v : Int32) (k : Option α) : Option α := if v = 0 ∨ v = 1 then k else none
theorem zb_ok {v : Int32} (h : v = 0 ∨ v = 1) : narrow .boolean (.int v) = .int v ∧ fits .boolean (.int v) = true ∧ vp_nar .boolean v = v := by
  rcases h with rfl | rfl <;> exact ⟨by decide +kernel, by decide +kernel, by decide +kernel⟩
theorem zb_some {α : Type} {v : Int32} {k : Option α} {r : α} (h : zb v k = some r) : (narrow .boolean (.int v) = .int v ∧ fits .boolean (.int v) = true ∧ vp_nar .boolean v = v) ∧ k = some r := by
  unfold zb at h
  by_cases hc : v = 0 ∨ v = 1
  · rw [if_pos hc] at h; exact ⟨zb_ok hc, h⟩
  · rw [if_neg hc] at h; cases h
theorem bd {α β : Type} {x : Option α} {f : α → Option β} {r : β} (h : x.bind f = some r) : ∃ a, x = some a ∧ f a = some r := Option.bind_eq_some_iff.mp h
theorem tsOut {x : Int32} {hi : Int} (h : ∀ k : Nat, (k : Int) ≤ hi → k < 2 ^ 31 → x ≠ nI k) : x.toInt < 0 ∨ hi < x.toInt := by
  by_cases h0 : x.toInt < 0
  · exact Or.inl h0
  · right
    have hx : ¬ x < 0 := by
      intro hl
      exact h0 (Int32.lt_iff_toInt_lt.mp hl)
    obtain ⟨j, hj, e⟩ := nI_of hx
    have h1 := nI_toInt hj
    rw [e, h1]
    by_cases h2 : (j : Int) ≤ hi
    · exact absurd e (h j h2 hj)
    · omega
def nm {α β : Type} (e : α) (k : α → Option β) : Option β := k e
theorem nmE {α β : Type} {e z : α} {k : α → Option β} {r : Option β} (h : z = e) (hf : nm e k = r) : k z = r := by rw [h]; exact hf
theorem ifp {c : Prop} [Decidable c] {α : Type} {a b x : α} (hc : c) (h : (if c then a else b) = x) : a = x := by rw [if_pos hc] at h; exact h
theorem ifn {c : Prop} [Decidable c] {α : Type} {a b x : α} (hc : ¬ c) (h : (if c then a else b) = x) : b = x := by rw [if_neg hc] at h; exact h
theorem zbl_0 : narrow .boolean (.int (nI 0)) = .int (nI 0) ∧ fits .boolean (.int (nI 0)) = true ∧ vp_nar .boolean (nI 0) = (nI 0) := zb_ok (Or.inl rfl)
theorem zbl_1 : narrow .boolean (.int (nI 1)) = .int (nI 1) ∧ fits .boolean (.int (nI 1)) = true ∧ vp_nar .boolean (nI 1) = (nI 1) := zb_ok (Or.inr rfl)
theorem ixN {i : Int32} {N : Nat} (h : vp_in i N) : i.toNatClampNeg < N := by
  have h2 : ¬ (i < 0 ∨ N ≤ i.toNatClampNeg) := h
  omega
