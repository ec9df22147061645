/-! PURE K: the class's choice -/
def CC (r : Nat → Nat) (Q : Nat) : Nat := 64 * (tb r Q).1 + (tb r Q).2 + crs r Q (r 0)
def kv (r : Nat → Nat) (P s : Nat) : Nat := 64 * (ky r (tb r) P s).1 + (ky r (tb r) P s).2 + crs r P (r 0)
def chz (r : Nat → Nat) (P : Nat) : Nat → Nat × Nat
  | 0 => (1000000, 0)
  | i + 1 => if can r P (r (33 + (r 0 - 1 - i))) && decide (kv r P (r (33 + (r 0 - 1 - i))) ≤ (chz r P i).1) then (kv r P (r (33 + (r 0 - 1 - i))), r (33 + (r 0 - 1 - i))) else chz r P i
theorem crs_le {r : Nat → Nat} (hv : Iv r) (P : Nat) : crs r P (r 0) ≤ 100 := by
  have b1 := hv.1.2
  have h : crs r P (r 0) ≤ r 0 * 10 := sm_le (fun i hi => by
    have h1 : un r P i ≤ i := un_le
    split <;> omega)
  omega
theorem CC_le {r : Nat → Nat} (hv : Iv r) (hp : Pr r) {Q : Nat} (hQ : Q ≤ AA r) : CC r Q ≤ 10000 := by
  have h1 := tb_bd hv hp hQ
  have h2 := crs_le hv Q
  unfold CC
  omega
theorem kv_le {r : Nat → Nat} (hv : Iv r) (hp : Pr r) {P s : Nat} (hP : P ≤ AA r) (hs : s < r 0) : kv r P s ≤ 10000 := by
  have h1 := ky_bd hv hp hP hs
  have h2 := crs_le hv P
  unfold kv
  omega
/-- the inversions of one step, counted from behind or from ahead -/
theorem kv_eq {r : Nat → Nat} (hv : Iv r) {P j : Nat} (hj : j < r 0) (hn : ip r P j = false) : kv r P (r (33 + j)) = cnt (nset r P (r (33 + j))) * 64 + bhd r P j (r 0) + CC r (P ||| 2 ^ r (33 + j)) := by
  have h := crs_set hv hj hn (r 0) (Nat.le_refl _)
  rw [if_pos hj] at h
  have e1 : (ky r (tb r) P (r (33 + j))).1 = cnt (nset r P (r (33 + j))) + (tb r (P ||| 2 ^ r (33 + j))).1 := rfl
  have e2 : (ky r (tb r) P (r (33 + j))).2 = un r P (pl r (r (33 + j))) + (tb r (P ||| 2 ^ r (33 + j))).2 := rfl
  rw [pl_eq hv hj] at e2
  unfold kv CC
  omega
theorem chz_ok {r : Nat → Nat} (P : Nat) : ∀ i, i ≤ r 0 → (∀ p, r 0 - i ≤ p → p < r 0 → can r P (r (33 + p)) = true → (chz r P i).1 ≤ kv r P (r (33 + p))) ∧ (chz r P i = (1000000, 0) ∨ ∃ p, r 0 - i ≤ p ∧ p < r 0 ∧ can r P (r (33 + p)) = true ∧ chz r P i = (kv r P (r (33 + p)), r (33 + p)) ∧ ∀ q, r 0 - i ≤ q → q < p → can r P (r (33 + q)) = true → kv r P (r (33 + p)) < kv r P (r (33 + q)))
  | 0, _ => ⟨fun p h1 h2 => by omega, Or.inl rfl⟩
  | i + 1, hi => by
    obtain ⟨h1, h2⟩ := chz_ok (r := r) P i (by omega)
    rw [chz]
    cases hc : (can r P (r (33 + (r 0 - 1 - i))) && decide (kv r P (r (33 + (r 0 - 1 - i))) ≤ (chz r P i).1)) with
    | true =>
      rw [if_pos rfl]
      rw [Bool.and_eq_true, decide_eq_true_eq] at hc
      refine ⟨fun p h3 h4 h5 => ?_, Or.inr ⟨r 0 - 1 - i, by omega, by omega, hc.1, rfl, fun q h3 h4 => by omega⟩⟩
      show kv r P (r (33 + (r 0 - 1 - i))) ≤ _
      by_cases e : p = r 0 - 1 - i
      · rw [e]; exact Nat.le_refl _
      · exact Nat.le_trans hc.2 (h1 p (by omega) h4 h5)
    | false =>
      rw [if_neg (by simp)]
      have hno : can r P (r (33 + (r 0 - 1 - i))) = true → (chz r P i).1 < kv r P (r (33 + (r 0 - 1 - i))) := by
        intro h
        rw [h, Bool.true_and, decide_eq_false_iff_not] at hc
        omega
      refine ⟨fun p h3 h4 h5 => ?_, ?_⟩
      · by_cases e : p = r 0 - 1 - i
        · rw [e] at h5 ⊢; exact Nat.le_of_lt (hno h5)
        · exact h1 p (by omega) h4 h5
      · rcases h2 with h2 | ⟨p, q1, q2, q3, q4, q5⟩
        · exact Or.inl h2
        · refine Or.inr ⟨p, by omega, q2, q3, q4, fun q h3 h4 h5 => ?_⟩
          by_cases e : q = r 0 - 1 - i
          · rw [e] at h5 ⊢
            have := hno h5
            rw [q4] at this
            exact this
          · exact q5 q (by omega) h4 h5
/-- the class's choice is the reference's -/
theorem chz_end {r : Nat → Nat} (hv : Iv r) (hp : Pr r) {P : Nat} (hP : P < AA r) : chz r P (r 0) = (CC r P, nx r P) := by
  obtain ⟨h1, h2⟩ := chz_ok (r := r) P (r 0) (Nat.le_refl _)
  rw [Nat.sub_self] at h1 h2
  obtain ⟨-, -, h3⟩ := tb_ok hv hp (AA r - P) P (by omega)
  obtain ⟨t1, s, hs, hc, he⟩ := h3 (by omega)
  obtain ⟨g1, g2⟩ := pl_lt hv hs
  have htb := tb_bd hv hp (Nat.le_of_lt hP)
  have hks := kv_le hv hp (Nat.le_of_lt hP) hs
  have hmin := h1 (pl r s) (Nat.zero_le _) g1 (by rw [g2]; exact hc)
  rw [g2] at hmin
  rcases h2 with h2 | ⟨p, q1, q2, q3, q4, q5⟩
  · rw [h2] at hmin
    have hmin : 1000000 ≤ kv r P s := hmin
    omega
  · have hop := hv.2.2.2.2.1 p q2
    have hkb := ky_bd hv hp (Nat.le_of_lt hP) hop
    have hlx := t1 _ hop q3
    unfold lx at hlx
    rw [decide_eq_false_iff_not] at hlx
    rw [q4] at hmin
    have hmin : kv r P (r (33 + p)) ≤ kv r P s := hmin
    have hs2 : kv r P s = CC r P := by unfold kv CC; rw [← he]
    have e1 : (ky r (tb r) P (r (33 + p))).1 = (tb r P).1 ∧ (ky r (tb r) P (r (33 + p))).2 = (tb r P).2 := by
      rw [hs2] at hmin
      unfold kv CC at hmin
      omega
    have e2 : ky r (tb r) P (r (33 + p)) = tb r P := Prod.ext e1.1 e1.2
    have e3 : nxp r P = p := by
      refine fnd_eq (Nat.zero_le _) (by omega) ?_ (fun q _ hq => ?_)
      · unfold isn
        rw [q3, decide_eq_true e2]; rfl
      · cases h : isn r P (r (33 + q)) with
        | false => rfl
        | true =>
          unfold isn at h
          rw [Bool.and_eq_true, decide_eq_true_eq] at h
          have h5 := q5 q (Nat.zero_le _) hq h.1
          unfold kv at h5
          rw [h.2, e2] at h5
          omega
    rw [q4]
    unfold nx
    rw [e3]
    exact Prod.ext (by show kv r P (r (33 + p)) = CC r P; unfold kv CC; rw [e2]) rfl
/-- those behind a place that stand already -/
def bq (r : Nat → Nat) (P a : Nat) : Nat → Nat := sm (fun p => if a ≤ p ∧ ip r P p = true then 1 else 0)
theorem bq_s (r : Nat → Nat) (P a : Nat) : ∀ n, bq r P a n = bq r P (a + 1) n + (if a < n ∧ ip r P a = true then 1 else 0)
  | 0 => by simp [bq, sm]
  | n + 1 => by
    have ih := bq_s r P a n
    unfold bq at ih ⊢
    rw [sm, sm, ih]
    by_cases e : a = n
    · subst e
      cases ip r P a <;> simp <;> omega
    · by_cases h : a < n
      · have h2 : a ≤ n := by omega
        have h3 : a + 1 ≤ n := by omega
        have h4 : a < n + 1 := by omega
        cases ip r P n <;> cases ip r P a <;> simp [h, h2, h3, h4] <;> omega
      · have h2 : ¬ a ≤ n := by omega
        have h3 : ¬ a + 1 ≤ n := by omega
        have h4 : ¬ a < n + 1 := by omega
        cases ip r P n <;> cases ip r P a <;> simp [h, h2, h3, h4]
theorem bq_n (r : Nat → Nat) (P : Nat) : ∀ n, bq r P n n = 0 := by
  intro n
  have : ∀ m, m ≤ n → bq r P n m = 0 := by
    intro m
    induction m with
    | zero => intro _; rfl
    | succ m ih =>
      intro hm
      have := ih (by omega)
      unfold bq at this ⊢
      rw [sm, this, if_neg (by omega)]
  exact this n (Nat.le_refl n)
theorem bq_bhd (r : Nat → Nat) (P j n : Nat) : bhd r P j n = bq r P (j + 1) n := rfl
theorem bq_le (r : Nat → Nat) (P a n : Nat) : bq r P a n ≤ n := by
  have := sm_le (f := fun p => if a ≤ p ∧ ip r P p = true then 1 else 0) (n := n) (c := 1) (fun i _ => by split <;> omega)
  unfold bq
  omega
theorem X0_choose {r : Nat → Nat} {n : Int32} {L U H O B df se co ch : Nat → Int32} (hc : CM r n L U H O B) (hv : Iv r) (hp : Pr r) (hdf : ∀ s, s < r 0 → df s = nI (tah r s)) (hse : ∀ P, P ≤ AA r → se P = nI (sn r P)) {P fu : Nat} (hP : P < AA r) (hfu : 1100 ≤ fu) (hco : ∀ Q, P < Q → Q ≤ AA r → co Q = nI (CC r Q)) : m_X0_choose fu df se co ch n O B (nI P) = some (upd co P (nI (CC r P)), upd ch P (nI (nx r P))) := by
  obtain ⟨rfl, -, -, -, hO, hB⟩ := hc
  have b1 := hv.1.2
  have b0 := hv.1.1
  obtain ⟨a1, a2, a3⟩ := AAp hv
  unfold m_X0_choose
  rw [pk_sub (by omega), show nI (r 0 - 1) = nI (r 0 - 0) + (-1 : Int32) by rw [Nat.sub_zero, sb_m1 (by omega)], show nI 1000000 = nI (chz r P 0).1 from rfl]
  rw [show m_X0_choose_19 df se co ch O B (nI P) fu (nI (chz r P 0).1) (nI 0) (nI 0) = m_X0_choose_19 df se co ch O B (nI P) fu (nI (chz r P 0).1) (nI (chz r P 0).2) (nI (bq r P (r 0 - 0) (r 0))) by rw [Nat.sub_zero, bq_n]; rfl]
  refine for0 (fun fn i => m_X0_choose_19 df se co ch O B (nI P) fn (nI (chz r P i).1) (nI (chz r P i).2) (nI (bq r P (r 0 - i) (r 0))) (nI (r 0 - i) + (-1 : Int32))) (r 0) _ fu (by omega) (fun fn i hi => ?_) (fun fn => ?_)
  · have hj : r 0 - i - 1 < r 0 := by omega
    have ho := hv.2.2.2.2.1 _ hj
    have hBb := hv.2.2.2.2.2.2 _ (by omega : r (33 + (r 0 - i - 1)) < 10)
    have ebq := bq_s r P (r 0 - i - 1) (r 0)
    rw [show r 0 - i - 1 + 1 = r 0 - i by omega] at ebq
    have hch : (chz r P i).1 ≤ 1000000 := by
      rcases (chz_ok (r := r) P i (by omega)).2 with h | ⟨p, q1, q2, q3, q4, q5⟩
      · rw [h]; exact Nat.le_refl _
      · rw [q4]
        have := kv_le hv hp (Nat.le_of_lt hP) (hv.2.2.2.2.1 p q2)
        show kv r P (r (33 + p)) ≤ 1000000
        omega
    rw [sb_m1 (by omega), m_X0_choose_19, if_neg (nI_nlt (Nat.zero_le _) (by omega)), gd_nI (by omega) (by omega), nI_clamp (by omega), hO _ (by omega), X6_has (by omega), Option.bind_some, ib0, show nI (r 0 - i - 1) + (-1 : Int32) = nI (r 0 - (i + 1)) + (-1 : Int32) by rw [show r 0 - i - 1 = r 0 - (i + 1) by omega], chz, show r 0 - 1 - i = r 0 - i - 1 by omega, show r 0 - (i + 1) = r 0 - i - 1 by omega, ebq]
    cases ei : P.testBit (r (33 + (r 0 - i - 1))) with
    | true =>
      have e1 : can r P (r (33 + (r 0 - i - 1))) = false := by unfold can; rw [ei]; rfl
      rw [if_neg (by simp), e1, Bool.false_and, if_neg (by simp), if_pos ⟨hj, ei⟩, n_1]
    | false =>
      have hn : ip r P (r 0 - i - 1) = false := ei
      rw [if_pos rfl, if_neg (show ¬ (r 0 - i - 1 < r 0 ∧ ip r P (r 0 - i - 1) = true) from fun z => by rw [hn] at z; cases z.2), Nat.add_zero, gd_nI (by omega) (by omega), nI_clamp (by omega), hB _ (by omega), n_dif]
      have hd : dif (r (43 + r (33 + (r 0 - i - 1)))) P < 2 ^ 10 := dif_lt (by omega) (by omega)
      by_cases e2 : dif (r (43 + r (33 + (r 0 - i - 1)))) P = 0
      · have e1 : can r P (r (33 + (r 0 - i - 1))) = true := can_iff.mpr ⟨ei, e2⟩
        have hgt := or_gt ei
        have hle := or_le (r := r) (Nat.le_of_lt hP) ho
        have ekv := kv_eq hv hj hn
        rw [bq_bhd, show r 0 - i - 1 + 1 = r 0 - i by omega] at ekv
        have hkl := kv_le hv hp (Nat.le_of_lt hP) ho
        rw [e2, if_pos rfl, X0_noteCost hdf hse hv (Nat.le_of_lt hP) ho, Option.bind_some, X6_with (by omega), Option.bind_some, gd_nI (by omega) (by omega), nI_clamp (by omega), hco _ hgt hle, nI_add, nI_add, ← ekv, e1, Bool.true_and]
        by_cases e3 : kv r P (r (33 + (r 0 - i - 1))) ≤ (chz r P i).1
        · rw [if_neg (nI_nlt e3 (by omega)), decide_eq_true e3, if_pos rfl]
        · rw [if_pos (nI_lt (by omega) (by omega)), decide_eq_false e3, if_neg (by simp)]
      · have e1 : can r P (r (33 + (r 0 - i - 1))) = false := by unfold can; rw [decide_eq_false e2, Bool.and_false]
        rw [if_neg (fun z => e2 ((nI_eq (by omega) (by omega)).mp z)), e1, Bool.false_and, if_neg (by simp)]
  · rw [Nat.sub_self, m_X0_choose_19, if_pos (by decide +kernel), gd_nI (by omega) (by omega), gd_nI (by omega) (by omega), nI_clamp (by omega), chz_end hv hp hP]
