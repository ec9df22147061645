/-! PURE H: the table of the best orders -/
theorem forE {σ ρ : Type} (F : Nat → σ → Nat → Option ρ) (I : Nat → σ → Prop) (N : Nat) (hs : ∀ fn st i, i < N → I i st → ∃ st', I (i + 1) st' ∧ F (fn + 1) st i = F fn st' (i + 1)) : ∀ (d fn : Nat) (st : σ) (i : Nat), i + d = N → d < fn → I i st → ∃ st' fn', I N st' ∧ F fn st i = F (fn' + 1) st' N
  | 0, fn, st, i, h, hf, hi => by
    obtain ⟨f, rfl⟩ : ∃ f, fn = f + 1 := ⟨fn - 1, by omega⟩
    obtain rfl : i = N := by omega
    exact ⟨st, f, hi, rfl⟩
  | d + 1, fn, st, i, h, hf, hi => by
    obtain ⟨f, rfl⟩ : ∃ f, fn = f + 1 := ⟨fn - 1, by omega⟩
    obtain ⟨st', h1, h2⟩ := hs f st i (by omega) hi
    rw [h2]
    exact forE F I N hs d f st' (i + 1) (by omega) (by omega) h1
theorem dif_0 {a b : Nat} (ha : a < 2 ^ 32) : dif a b = 0 ↔ ∀ i, a.testBit i = true → b.testBit i = true := by
  rw [bits0]
  constructor
  · intro h i h1
    have h2 := h i
    rw [dif_bit ha, h1] at h2
    cases h3 : b.testBit i with
    | true => rfl
    | false => rw [h3] at h2; cases h2
  · intro h i
    rw [dif_bit ha]
    cases h1 : a.testBit i with
    | false => rfl
    | true => rw [h i h1]; rfl
def AA (r : Nat → Nat) : Nat := 2 ^ r 0 - 1
def ip (r : Nat → Nat) (P q : Nat) : Bool := P.testBit (r (33 + q))
def un (r : Nat → Nat) (P : Nat) : Nat → Nat := sm (fun q => (!(ip r P q)).toNat)
def crs (r : Nat → Nat) (P : Nat) : Nat → Nat := sm (fun p => if ip r P p then un r P p else 0)
def bhd (r : Nat → Nat) (P j : Nat) : Nat → Nat := sm (fun p => if j < p ∧ ip r P p = true then 1 else 0)
def can (r : Nat → Nat) (P s : Nat) : Bool := !(P.testBit s) && decide (dif (r (43 + s)) P = 0)
def nset (r : Nat → Nat) (P s : Nat) : Nat := bs (fun t => r (11 + t) == s + 1 && (usr r t &&& P) != 0) 12
def ky (r : Nat → Nat) (T : Nat → Nat × Nat) (P s : Nat) : Nat × Nat := (cnt (nset r P s) + (T (P ||| 2 ^ s)).1, un r P (pl r s) + (T (P ||| 2 ^ s)).2)
def lx (a b : Nat × Nat) : Bool := decide (a.1 < b.1 ∨ (a.1 = b.1 ∧ a.2 < b.2))
def bst (r : Nat → Nat) (T : Nat → Nat × Nat) (P : Nat) : Nat → Nat × Nat
  | 0 => (1000, 1000)
  | s + 1 => if can r P s && lx (ky r T P s) (bst r T P s) then ky r T P s else bst r T P s
def dp (r : Nat → Nat) : Nat → Nat → Nat × Nat
  | 0, _ => (0, 0)
  | i + 1, P => if P = AA r - (i + 1) then bst r (dp r i) P (r 0) else dp r i P
def tb (r : Nat → Nat) (P : Nat) : Nat × Nat := dp r (AA r - P) P
theorem can_iff {r : Nat → Nat} {P s : Nat} : can r P s = true ↔ P.testBit s = false ∧ dif (r (43 + s)) P = 0 := by
  unfold can
  rw [Bool.and_eq_true, decide_eq_true_eq]
  simp
theorem dp_st {r : Nat → Nat} {P : Nat} (hP : P ≤ AA r) : ∀ i, AA r - P ≤ i → i ≤ AA r → dp r i P = tb r P
  | 0, h, _ => by unfold tb; rw [show AA r - P = 0 by omega]
  | i + 1, h, h2 => by
    by_cases e : AA r - P = i + 1
    · unfold tb; rw [e]
    · rw [dp, if_neg (by omega)]
      exact dp_st hP i (by omega) (by omega)
theorem or_gt {P s : Nat} (h : P.testBit s = false) : P < P ||| 2 ^ s := by
  have h1 : P ≤ P ||| 2 ^ s := Nat.left_le_or
  rcases Nat.lt_or_ge P (P ||| 2 ^ s) with q | q
  · exact q
  · have e : P ||| 2 ^ s = P := Nat.le_antisymm q h1
    have h2 : (P ||| 2 ^ s).testBit s = true := by rw [Nat.testBit_or, Nat.testBit_two_pow_self, Bool.or_true]
    rw [e, h] at h2
    cases h2
theorem or_le {r : Nat → Nat} {P s : Nat} (hP : P ≤ AA r) (hs : s < r 0) : P ||| 2 ^ s ≤ AA r := by
  have h1 : 0 < 2 ^ r 0 := Nat.two_pow_pos _
  have h2 : P < 2 ^ r 0 := by unfold AA at hP; omega
  have h3 := Nat.or_lt_two_pow h2 (Nat.pow_lt_pow_right (a := 2) (by omega) hs)
  unfold AA
  omega
theorem bst_congr {r : Nat → Nat} {T T' : Nat → Nat × Nat} {P : Nat} : ∀ n, (∀ s, s < n → P.testBit s = false → T (P ||| 2 ^ s) = T' (P ||| 2 ^ s)) → bst r T P n = bst r T' P n
  | 0, _ => rfl
  | n + 1, h => by
    rw [bst, bst, bst_congr n (fun s hs => h s (by omega))]
    cases e : can r P n with
    | false => simp
    | true =>
      have e2 : ky r T P n = ky r T' P n := by
        unfold ky
        rw [h n (by omega) (can_iff.mp e).1]
      rw [e2]
theorem tb_eq {r : Nat → Nat} {P : Nat} (hP : P < AA r) : tb r P = bst r (tb r) P (r 0) := by
  obtain ⟨i, hi⟩ : ∃ i, AA r - P = i + 1 := ⟨AA r - P - 1, by omega⟩
  have h1 : tb r P = bst r (dp r i) P (r 0) := by
    unfold tb
    rw [hi, dp, if_pos (by omega)]
  rw [h1]
  apply bst_congr
  intro s hs hb
  have h2 := or_gt hb
  have h3 := or_le (r := r) (Nat.le_of_lt hP) hs
  exact dp_st h3 i (by omega) (by omega)
theorem bst_ok {r : Nat → Nat} {T : Nat → Nat × Nat} {P : Nat} : ∀ n, (∀ s, s < n → can r P s = true → lx (ky r T P s) (bst r T P n) = false) ∧ (bst r T P n = (1000, 1000) ∨ ∃ s, s < n ∧ can r P s = true ∧ bst r T P n = ky r T P s)
  | 0 => ⟨fun s h => absurd h (Nat.not_lt_zero s), Or.inl rfl⟩
  | n + 1 => by
    obtain ⟨h1, h2⟩ := bst_ok (r := r) (T := T) (P := P) n
    have tr : ∀ a b c : Nat × Nat, lx a b = false → lx c b = true → lx a c = false := by
      intro a b c h3 h4
      unfold lx at h3 h4 ⊢
      rw [decide_eq_false_iff_not] at h3 ⊢
      rw [decide_eq_true_eq] at h4
      omega
    have irr : ∀ a : Nat × Nat, lx a a = false := by
      intro a
      unfold lx
      rw [decide_eq_false_iff_not]
      omega
    rw [bst]
    cases hc : (can r P n && lx (ky r T P n) (bst r T P n)) with
    | true =>
      rw [if_pos rfl]
      rw [Bool.and_eq_true] at hc
      refine ⟨fun s hs hcs => ?_, Or.inr ⟨n, by omega, hc.1, rfl⟩⟩
      by_cases e : s = n
      · subst e; exact irr _
      · exact tr _ _ _ (h1 s (by omega) hcs) hc.2
    | false =>
      rw [if_neg (by simp)]
      refine ⟨fun s hs hcs => ?_, ?_⟩
      · by_cases e : s = n
        · subst e
          rw [hcs, Bool.true_and] at hc
          exact hc
        · exact h1 s (by omega) hcs
      · rcases h2 with h2 | ⟨s, a, b, c⟩
        · exact Or.inl h2
        · exact Or.inr ⟨s, by omega, b, c⟩
theorem sm_mono {f : Nat → Nat} {a b : Nat} (h : a ≤ b) : sm f a ≤ sm f b := by
  obtain ⟨d, rfl⟩ : ∃ d, b = a + d := ⟨b - a, by omega⟩
  clear h
  induction d with
  | zero => exact Nat.le_refl _
  | succ d ih => rw [show a + (d + 1) = (a + d) + 1 by omega, sm]; omega
theorem un_le {r : Nat → Nat} {P n : Nat} : un r P n ≤ n := by
  have := sm_le (f := fun q => (!(ip r P q)).toNat) (n := n) (c := 1) (fun i _ => by cases ip r P i <;> simp)
  unfold un
  omega
theorem ip_set {r : Nat → Nat} (hv : Iv r) {P j q : Nat} (hj : j < r 0) (hq : q < r 0) : ip r (P ||| 2 ^ r (33 + j)) q = (ip r P q || decide (j = q)) := by
  unfold ip
  rw [Nat.testBit_or, Nat.testBit_two_pow]
  congr 1
  apply decide_eq_decide.mpr
  exact ⟨fun h => hv.2.2.2.2.2.1 j q hj hq h, fun h => by rw [h]⟩
theorem un_set {r : Nat → Nat} (hv : Iv r) {P j : Nat} (hj : j < r 0) (hn : ip r P j = false) : ∀ n, n ≤ r 0 → un r (P ||| 2 ^ r (33 + j)) n + (if j < n then 1 else 0) = un r P n
  | 0, _ => by simp [un, sm]
  | n + 1, h => by
    have ih := un_set hv hj hn n (by omega)
    unfold un at ih ⊢
    rw [sm, sm, ip_set hv hj (by omega)]
    by_cases e : j = n
    · subst e
      rw [if_neg (by omega)] at ih
      rw [if_pos (by omega), hn]
      simp
      omega
    · rw [decide_eq_false e, Bool.or_false]
      by_cases h2 : j < n
      · rw [if_pos h2] at ih
        rw [if_pos (by omega)]
        omega
      · rw [if_neg h2] at ih
        rw [if_neg (by omega)]
        omega
theorem crs_set {r : Nat → Nat} (hv : Iv r) {P j : Nat} (hj : j < r 0) (hn : ip r P j = false) : ∀ n, n ≤ r 0 → crs r (P ||| 2 ^ r (33 + j)) n + bhd r P j n = crs r P n + (if j < n then un r P j else 0)
  | 0, _ => by simp [crs, bhd, sm]
  | n + 1, h => by
    have ih := crs_set hv hj hn n (by omega)
    have hu := un_set hv hj hn n (by omega)
    unfold crs bhd at ih ⊢
    rw [sm, sm, sm, ip_set hv hj (by omega)]
    by_cases e : j = n
    · subst e
      rw [if_neg (by omega)] at ih hu
      simp [hn]
      omega
    · rw [decide_eq_false e, Bool.or_false]
      by_cases h2 : j < n
      · rw [if_pos h2] at ih hu
        have h3 : j < n + 1 := by omega
        cases hp : ip r P n with
        | false => simp [h3]; omega
        | true => simp [h2, h3]; omega
      · rw [if_neg h2] at ih hu
        have h3 : ¬ j < n + 1 := by omega
        cases hp : ip r P n with
        | false => simp [h3]; omega
        | true => simp [h2, h3]; omega
/-- where not all stand, the first one that doesn't stand may -/
theorem can_ex {r : Nat → Nat} (hv : Iv r) (hp : Pr r) {P : Nat} (hP : P < AA r) : ∃ j, j < r 0 ∧ can r P (r (33 + j)) = true := by
  have b1 := hv.1.2
  have hex : ∃ s, s < r 0 ∧ P.testBit s = false := by
    refine Classical.byContradiction (fun hno => ?_)
    have hall : ∀ s, s < r 0 → P.testBit s = true := fun s hs => by
      cases h : P.testBit s with
      | true => rfl
      | false => exact absurd ⟨s, hs, h⟩ hno
    have e : P = AA r := by
      apply Nat.eq_of_testBit_eq
      intro i
      unfold AA
      rw [Nat.testBit_two_pow_sub_one]
      by_cases h : i < r 0
      · rw [hall i h, decide_eq_true h]
      · rw [decide_eq_false h, Nat.testBit_lt_two_pow]
        have h1 : 0 < 2 ^ r 0 := Nat.two_pow_pos _
        have h2 : 2 ^ r 0 ≤ 2 ^ i := Nat.pow_le_pow_right (by omega) (by omega)
        unfold AA at hP
        omega
    omega
  obtain ⟨s, hs, hb⟩ := hex
  obtain ⟨g1, g2⟩ := pl_lt hv hs
  have hlt : fnd (fun q => !(ip r P q)) (r 0) 0 < r 0 := by
    rcases Nat.lt_or_ge (fnd (fun q => !(ip r P q)) (r 0) 0) (r 0) with q | q
    · exact q
    · have := fnd_no (fun q => !(ip r P q)) (r 0) 0 (pl r s) (Nat.zero_le _) (by omega)
      unfold ip at this
      rw [g2, hb] at this
      cases this
  refine ⟨fnd (fun q => !(ip r P q)) (r 0) 0, hlt, can_iff.mpr ⟨?_, ?_⟩⟩
  · have h9 : (!(ip r P (fnd (fun q => !(ip r P q)) (r 0) 0))) = true := fnd_yes (fun q => !(ip r P q)) (r 0) 0 (by omega)
    have h8 : ip r P (fnd (fun q => !(ip r P q)) (r 0) 0) = false := by simpa using h9
    exact h8
  · have ho := hv.2.2.2.2.1 _ hlt
    have hB := hv.2.2.2.2.2.2 _ (by omega : r (33 + fnd (fun q => !(ip r P q)) (r 0) 0) < 10)
    rw [dif_0 (by omega)]
    intro a ha
    obtain ⟨q, hq1, hq2⟩ := hp _ hlt a ha
    have := fnd_no (fun q => !(ip r P q)) (r 0) 0 q (Nat.zero_le _) hq1
    unfold ip at this
    rw [hq2] at this
    simpa using this
def tri : Nat → Nat
  | 0 => 0
  | u + 1 => tri u + u
theorem tri_10 : ∀ u, u ≤ 10 → tri u ≤ 45 := by decide
theorem un_pos {r : Nat → Nat} {P j : Nat} (hj : j < r 0) (hn : ip r P j = false) : un r P j + 1 ≤ un r P (r 0) := by
  have h1 : un r P (j + 1) ≤ un r P (r 0) := sm_mono (by omega)
  have h2 : un r P (j + 1) = un r P j + 1 := by unfold un; rw [sm, hn]; rfl
  omega
theorem tb_AA (r : Nat → Nat) : tb r (AA r) = (0, 0) := by unfold tb; rw [Nat.sub_self]; rfl
/-- what the table holds -/
theorem tb_ok {r : Nat → Nat} (hv : Iv r) (hp : Pr r) : ∀ (d P : Nat), P + d = AA r → (tb r P).1 ≤ 12 * un r P (r 0) ∧ (tb r P).2 ≤ tri (un r P (r 0)) ∧ (d ≠ 0 → (∀ s, s < r 0 → can r P s = true → lx (ky r (tb r) P s) (tb r P) = false) ∧ ∃ s, s < r 0 ∧ can r P s = true ∧ tb r P = ky r (tb r) P s) := by
  intro d
  induction d using Nat.strongRecOn with
  | ind d ih =>
    intro P hd
    by_cases h0 : d = 0
    · rw [show P = AA r by omega, tb_AA]
      exact ⟨Nat.zero_le _, Nat.zero_le _, fun h => absurd h0 h⟩
    · have b1 := hv.1.2
      have hP : P < AA r := by omega
      have hky : ∀ s, s < r 0 → can r P s = true → (ky r (tb r) P s).1 ≤ 12 * un r P (r 0) ∧ (ky r (tb r) P s).2 ≤ tri (un r P (r 0)) := by
        intro s hs hc
        obtain ⟨g1, g2⟩ := pl_lt hv hs
        have hb := (can_iff.mp hc).1
        have hgt := or_gt hb
        have hle := or_le (r := r) (Nat.le_of_lt hP) hs
        obtain ⟨i1, i2, -⟩ := ih (AA r - (P ||| 2 ^ s)) (by omega) (P ||| 2 ^ s) (by omega)
        have hn : ip r P (pl r s) = false := by unfold ip; rw [g2]; exact hb
        have hu := un_set hv g1 hn (r 0) (Nat.le_refl _)
        rw [g2, if_pos g1] at hu
        have hq := un_pos g1 hn
        have hcn := cnt_le (nset r P s)
        unfold ky
        obtain ⟨u, hu2⟩ : ∃ u, un r P (r 0) = u + 1 := ⟨un r P (r 0) - 1, by omega⟩
        rw [show un r (P ||| 2 ^ s) (r 0) = u by omega] at i1 i2
        rw [hu2, tri]
        exact ⟨by show cnt (nset r P s) + (tb r (P ||| 2 ^ s)).1 ≤ _; omega, by show un r P (pl r s) + (tb r (P ||| 2 ^ s)).2 ≤ _; omega⟩
      obtain ⟨o1, o2⟩ := bst_ok (r := r) (T := tb r) (P := P) (r 0)
      rw [← tb_eq hP] at o1 o2
      have hex : ∃ s, s < r 0 ∧ can r P s = true ∧ tb r P = ky r (tb r) P s := by
        rcases o2 with o2 | o2
        · obtain ⟨j, hj, hc⟩ := can_ex hv hp hP
          have h1 := o1 _ (hv.2.2.2.2.1 j hj) hc
          have h2 := (hky _ (hv.2.2.2.2.1 j hj) hc).1
          have h3 : un r P (r 0) ≤ r 0 := un_le
          rw [o2] at h1
          unfold lx at h1
          rw [decide_eq_false_iff_not] at h1
          exact absurd (Or.inl (show (ky r (tb r) P (r (33 + j))).1 < 1000 by omega)) h1
        · exact o2
      obtain ⟨s, hs, hc, he⟩ := hex
      obtain ⟨k1, k2⟩ := hky s hs hc
      rw [← he] at k1 k2
      exact ⟨k1, k2, fun _ => ⟨o1, s, hs, hc, he⟩⟩
