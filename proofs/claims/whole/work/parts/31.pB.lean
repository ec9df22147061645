/-! PURE B: the abstract manual, simple questions of both sides -/
def hI (h : Nat) : Int32 := if h = 0 then (-1 : Int32) else nI (h - 1)
theorem nI_m1 {s : Nat} (hs : s < 2 ^ 31) : ¬ nI s = (-1 : Int32) := by
  intro h
  have h1 := nI_toInt hs
  rw [h] at h1
  have h2 : ((-1 : Int32)).toInt = -1 := by decide +kernel
  omega
theorem hI_m1 {h : Nat} (hh : h < 1000) : (hI h = (-1 : Int32)) ↔ (h = 0) := by
  unfold hI
  by_cases e : h = 0
  · simp [e]
  · rw [if_neg e]
    exact ⟨fun z => absurd z (nI_m1 (by omega)), fun z => absurd z e⟩
theorem hI_eq {h s : Nat} (hh : h < 1000) (hs : s < 1000) : (hI h = nI s) ↔ (h = s + 1) := by
  unfold hI
  by_cases e : h = 0
  · rw [if_pos e]
    exact ⟨fun z => absurd z.symm (nI_m1 (by omega)), fun z => by omega⟩
  · rw [if_neg e, nI_eq (by omega) (by omega)]
    omega
theorem hI_pos {h : Nat} (hh : h ≠ 0) : hI h = nI (h - 1) := if_neg hh
/-- the class's rows hold the abstract manual r -/
def CM (r : Nat → Nat) (n : Int32) (L U H O B : Nat → Int32) : Prop := n = nI (r 0) ∧ (∀ s, s < 10 → L s = nI (r (1 + s))) ∧ (∀ s, s < 10 → U s = nI (r (23 + s))) ∧ (∀ t, t < 12 → H t = hI (r (11 + t))) ∧ (∀ p, p < 10 → O p = nI (r (33 + p))) ∧ (∀ s, s < 10 → B s = nI (r (43 + s)))
/-- the reference's row holds it -/
def R0 (r : Nat → Nat) (k : Nat → Int32) : Prop := (∀ j, j < 53 → (j < 11 ∨ 23 ≤ j) → k j = nI (r j)) ∧ ∀ t, t < 12 → k (11 + t) = hI (r (11 + t))
def Iv (r : Nat → Nat) : Prop := (2 ≤ r 0 ∧ r 0 ≤ 10) ∧ (∀ s, s < 10 → 1 ≤ r (1 + s) ∧ r (1 + s) ≤ 9) ∧ (∀ t, t < 12 → r (11 + t) ≤ r 0) ∧ (∀ s, s < 10 → r (23 + s) < 4096) ∧ (∀ p, p < r 0 → r (33 + p) < r 0) ∧ (∀ p q, p < r 0 → q < r 0 → r (33 + p) = r (33 + q) → p = q) ∧ (∀ s, s < 10 → r (43 + s) < 1024)
/-- the order keeps the precedences -/
def Pr (r : Nat → Nat) : Prop := ∀ p, p < r 0 → ∀ a, (r (43 + r (33 + p))).testBit a = true → ∃ q, q < p ∧ r (33 + q) = a
/-- the place of a section -/
def pl (r : Nat → Nat) (s : Nat) : Nat := fnd (fun p => r (33 + p) == s) (r 0) 0
theorem pl_lt {r : Nat → Nat} (hv : Iv r) {s : Nat} (hs : s < r 0) : pl r s < r 0 ∧ r (33 + pl r s) = s := by
  obtain ⟨-, -, -, -, hO, hJ, -⟩ := hv
  obtain ⟨i, h1, h2⟩ := php (r 0) (fun p => r (33 + p)) hO hJ s hs
  have e : pl r s = i := fnd_eq (Nat.zero_le i) (by omega) (by simp [h2]) (fun j _ hj => by
    rw [beq_eq_false_iff_ne]
    intro z
    have := hJ j i (by omega) h1 (z.trans h2.symm)
    omega)
  rw [e]
  exact ⟨h1, h2⟩
theorem pl_eq {r : Nat → Nat} (hv : Iv r) {p : Nat} (hp : p < r 0) : pl r (r (33 + p)) = p := by
  obtain ⟨h1, h2⟩ := pl_lt hv (hv.2.2.2.2.1 p hp)
  exact hv.2.2.2.2.2.1 _ _ h1 hp h2
theorem X3_placeOf {r : Nat → Nat} {n : Int32} {L U H O B : Nat → Int32} (hc : CM r n L U H O B) (hv : Iv r) {s fu : Nat} (hs : s < r 0) (hfu : 1100 ≤ fu) : m_X3_placeOf fu n O (nI s) = some (nI (pl r s)) := by
  obtain ⟨rfl, -, -, -, hO, -⟩ := hc
  have b1 := hv.1.2
  obtain ⟨q1, q2⟩ := pl_lt hv hs
  unfold m_X3_placeOf
  refine for0 (fun fn i => m_X3_placeOf_4 (nI (r 0)) O (nI s) fn (nI (if pl r s < i then pl r s else 0)) (nI i)) (r 0) _ fu (by omega) (fun fn i hi => ?_) (fun fn => ?_)
  · have hoi := hv.2.2.2.2.1 i hi
    rw [m_X3_placeOf_4, if_neg (nI_ge hi (by omega)), gd_nI (by omega) (by omega), nI_clamp (by omega), hO i (by omega), n_1]
    by_cases e : r (33 + i) = s
    · have e2 : pl r s = i := by rw [← e]; exact pl_eq hv hi
      rw [if_pos (by rw [e]), e2, if_pos (by omega)]
    · have e2 : pl r s ≠ i := fun z => e (by rw [← z]; exact q2)
      rw [if_neg (fun z => e ((nI_eq (by omega) (by omega)).mp z))]
      simp only [show (pl r s < i + 1) ↔ (pl r s < i) by omega]
  · rw [m_X3_placeOf_4, if_pos (nI_le (Nat.le_refl _) (by omega)), if_pos q1]
theorem X7_placeOf {r : Nat → Nat} {k : Nat → Int32} (hc : R0 r k) (hv : Iv r) {s fu : Nat} (hs : s < r 0) (hfu : 1100 ≤ fu) : m_X7_placeOf fu k (nI s) = some (nI (pl r s)) := by
  have b1 := hv.1.2
  obtain ⟨q1, q2⟩ := pl_lt hv hs
  unfold m_X7_placeOf
  refine for0 (fun fn i => m_X7_placeOf_2 k (nI s) fn (nI i)) (pl r s) _ fu (by omega) (fun fn i hi => ?_) (fun fn => ?_)
  · have hoi := hv.2.2.2.2.1 i (by omega)
    rw [m_X7_placeOf_2, nI_add, gd_nI (by omega) (by omega), nI_clamp (by omega), hc.1 (33 + i) (by omega) (by omega), n_1]
    rw [if_neg]
    intro z
    have z := (nI_eq (by omega) (by omega)).mp z
    have := pl_eq hv (p := i) (by omega)
    rw [z] at this
    omega
  · rw [m_X7_placeOf_2, nI_add, gd_nI (by omega) (by omega), nI_clamp (by omega), hc.1 (33 + pl r s) (by omega) (by omega), q2, if_pos rfl]
theorem X7_ones {x fu : Nat} (hx : x < 2 ^ 31) (hfu : 1100 ≤ fu) : m_X7_ones fu (nI x) = some (nI (cnt x)) := by
  unfold m_X7_ones
  refine for0 (fun fn i => m_X7_ones_4 (nI x) fn (nI (sm (fun k => (x.testBit k).toNat) i)) (nI i)) 12 _ fu (by omega) (fun fn i hi => ?_) (fun fn => ?_)
  · rw [m_X7_ones_4, if_neg (nI_ge hi (by omega)), n_shr hx (by omega), n_and, Nat.and_one_is_mod, nI_add, n_1, sm]
    rw [show (x.testBit i).toNat = x / 2 ^ i % 2 by rw [Nat.testBit_eq_decide_div_mod_eq]; rcases Nat.mod_two_eq_zero_or_one (x / 2 ^ i) with h | h <;> simp [h]]
  · rw [m_X7_ones_4, if_pos (nI_le (Nat.le_refl _) (by omega))]
    rfl
/-- the terms whose home a section is -/
def tah (r : Nat → Nat) (s : Nat) : Nat := bs (fun t => r (11 + t) == s + 1) 12
theorem X3_termsAtHome {r : Nat → Nat} {n : Int32} {L U H O B : Nat → Int32} (hc : CM r n L U H O B) (hv : Iv r) {s fu : Nat} (hs : s < 1000) (hfu : 1100 ≤ fu) : m_X3_termsAtHome fu H (nI s) = some (nI (tah r s)) := by
  obtain ⟨-, -, -, hH, -, -⟩ := hc
  have b1 := hv.1.2
  unfold m_X3_termsAtHome
  refine for0 (fun fn i => m_X3_termsAtHome_4 H (nI s) fn (nI (bs (fun t => r (11 + t) == s + 1) i)) (nI i)) 12 _ fu (by omega) (fun fn i hi => ?_) (fun fn => ?_)
  · have hh := hv.2.2.1 i hi
    rw [m_X3_termsAtHome_4, if_neg (nI_ge hi (by omega)), gd_nI (by omega) (by omega), nI_clamp (by omega), hH i hi, n_1, bs]
    by_cases e : r (11 + i) = s + 1
    · rw [if_pos ((hI_eq (by omega) hs).mpr e), X6_with (by omega), Option.bind_some]
      simp [e]
    · rw [if_neg (fun z => e ((hI_eq (by omega) hs).mp z))]
      simp [e]
  · rw [m_X3_termsAtHome_4, if_pos (nI_le (Nat.le_refl _) (by omega))]
    rfl
theorem X7_homesIn {r : Nat → Nat} {k : Nat → Int32} (hc : R0 r k) (hv : Iv r) {s fu : Nat} (hs : s < 1000) (hfu : 1100 ≤ fu) : m_X7_homesIn fu k (nI s) = some (nI (tah r s)) := by
  have b1 := hv.1.2
  unfold m_X7_homesIn
  refine for0 (fun fn i => m_X7_homesIn_4 k (nI s) fn (nI (bs (fun t => r (11 + t) == s + 1) i)) (nI i)) 12 _ fu (by omega) (fun fn i hi => ?_) (fun fn => ?_)
  · have hh := hv.2.2.1 i hi
    rw [m_X7_homesIn_4, if_neg (nI_ge hi (by omega)), nI_add, gd_nI (by omega) (by omega), nI_clamp (by omega), hc.2 i hi, n_1, bs]
    by_cases e : r (11 + i) = s + 1
    · rw [if_pos ((hI_eq (by omega) hs).mpr e), n_bit (by omega), n_or]
      simp [e]
    · rw [if_neg (fun z => e ((hI_eq (by omega) hs).mp z)), n_or]
      simp [e]
  · rw [m_X7_homesIn_4, if_pos (nI_le (Nat.le_refl _) (by omega))]
    rfl
/-- the sections that use a term -/
def usr (r : Nat → Nat) (t : Nat) : Nat := bs (fun s => (r (23 + s)).testBit t) (r 0)
theorem X3_usersOf {r : Nat → Nat} {n : Int32} {L U H O B : Nat → Int32} (hc : CM r n L U H O B) (hv : Iv r) {t fu : Nat} (ht : t < 12) (hfu : 1100 ≤ fu) : m_X3_usersOf fu n U (nI t) = some (nI (usr r t)) := by
  obtain ⟨rfl, -, hU, -, -, -⟩ := hc
  have b1 := hv.1.2
  unfold m_X3_usersOf
  refine for0 (fun fn i => m_X3_usersOf_4 (nI (r 0)) U (nI t) fn (nI (bs (fun s => (r (23 + s)).testBit t) i)) (nI i)) (r 0) _ fu (by omega) (fun fn i hi => ?_) (fun fn => ?_)
  · rw [m_X3_usersOf_4, if_neg (nI_ge hi (by omega)), gd_nI (by omega) (by omega), nI_clamp (by omega), hU i (by omega), X6_has (by omega), Option.bind_some, n_1, bs, ib0]
    cases e : (r (23 + i)).testBit t with
    | true => rw [if_neg (by simp), X6_with (by omega), Option.bind_some, if_pos rfl]
    | false => rw [if_pos rfl, if_neg (by simp), Nat.or_zero]
  · rw [m_X3_usersOf_4, if_pos (nI_le (Nat.le_refl _) (by omega))]
    rfl
theorem X7_usedBy {r : Nat → Nat} {k : Nat → Int32} (hc : R0 r k) (hv : Iv r) {t fu : Nat} (ht : t < 12) (hfu : 1100 ≤ fu) : m_X7_usedBy fu k (nI t) = some (nI (usr r t)) := by
  have b1 := hv.1.2
  unfold m_X7_usedBy
  refine for0 (fun fn i => m_X7_usedBy_4 k (nI t) fn (nI (bs (fun s => (r (23 + s)).testBit t) i)) (nI i)) (r 0) _ fu (by omega) (fun fn i hi => ?_) (fun fn => ?_)
  · have hu := hv.2.2.2.1 i (by omega)
    rw [m_X7_usedBy_4, gd_nI (by omega) (by omega), nI_clamp (by omega), hc.1 0 (by omega) (by omega), if_neg (nI_ge hi (by omega)), nI_add, gd_nI (by omega) (by omega), nI_clamp (by omega), hc.1 (23 + i) (by omega) (by omega), X7_has (by omega) (by omega), Option.bind_some, n_1, bs, ib0]
    cases e : (r (23 + i)).testBit t with
    | true => rw [if_neg (by simp), n_bit (by omega), n_or, if_pos rfl]
    | false => rw [if_pos rfl, n_or, if_neg (by simp)]
  · rw [m_X7_usedBy_4, gd_nI (by omega) (by omega), nI_clamp (by omega), hc.1 0 (by omega) (by omega), if_pos (nI_le (Nat.le_refl _) (by omega))]
    rfl
