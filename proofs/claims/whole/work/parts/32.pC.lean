/-! PURE C: needs, early terms, notes -/
def dif (a b : Nat) : Nat := a &&& (b ^^^ 4294967295)
theorem dif_bit {a : Nat} (ha : a < 2 ^ 32) (b i : Nat) : (dif a b).testBit i = (a.testBit i && !b.testBit i) := by
  unfold dif
  rw [Nat.testBit_and, Nat.testBit_xor, show (4294967295 : Nat) = 2 ^ 32 - 1 by decide, Nat.testBit_two_pow_sub_one]
  by_cases h : i < 32
  · rw [decide_eq_true h]
    cases b.testBit i <;> simp
  · rw [Nat.testBit_lt_two_pow (Nat.lt_of_lt_of_le ha (Nat.pow_le_pow_right (by omega) (by omega)))]
    simp
theorem n_dif (a b : Nat) : nI a &&& (nI b ^^^ (-1 : Int32)) = nI (dif a b) := by rw [n_m1, n_xor, n_and]; rfl
theorem dif_lt {a b k : Nat} (h : a < 2 ^ k) (hk : k ≤ 32) : dif a b < 2 ^ k := by
  apply Nat.lt_pow_two_of_testBit
  intro i hi
  rw [dif_bit (Nat.lt_of_lt_of_le h (Nat.pow_le_pow_right (by omega) hk)), Nat.testBit_lt_two_pow (Nat.lt_of_lt_of_le h (Nat.pow_le_pow_right (by omega) hi))]
  rfl
/-- the sections that a section needs -/
def nd (r : Nat → Nat) (s : Nat) : Nat := orf (fun t => if (r (23 + s)).testBit t && (r (11 + t) != 0 && r (11 + t) != s + 1) then 2 ^ (r (11 + t) - 1) else 0) 12
def ndg (r : Nat → Nat) (s : Nat) : Nat → Nat := fun t => if (r (23 + s)).testBit t && r (11 + t) != 0 then 2 ^ (r (11 + t) - 1) else 0
theorem nd_bit {r : Nat → Nat} {s v : Nat} : (nd r s).testBit v = true ↔ v ≠ s ∧ ∃ t, t < 12 ∧ (r (23 + s)).testBit t = true ∧ r (11 + t) = v + 1 := by
  unfold nd
  rw [orf_bit]
  constructor
  · rintro ⟨t, ht, h⟩
    split at h
    · rename_i hc
      simp only [Bool.and_eq_true, bne_iff_ne, ne_eq] at hc
      rw [Nat.testBit_two_pow] at h
      have := of_decide_eq_true h
      exact ⟨by omega, t, ht, hc.1, by omega⟩
    · simp at h
  · rintro ⟨hv, t, ht, h1, h2⟩
    refine ⟨t, ht, ?_⟩
    rw [if_pos (by simp [h1, h2]; omega), h2, Nat.testBit_two_pow]
    simp
theorem nd_lt {r : Nat → Nat} (hv : Iv r) (s : Nat) : nd r s < 2 ^ r 0 := by
  apply Nat.lt_pow_two_of_testBit
  intro i hi
  cases h : (nd r s).testBit i with
  | false => rfl
  | true =>
    obtain ⟨-, t, ht, -, h2⟩ := nd_bit.mp h
    have := hv.2.2.1 t ht
    omega
theorem X3_neededBy {r : Nat → Nat} {n : Int32} {L U H O B : Nat → Int32} (hc : CM r n L U H O B) (hv : Iv r) {s fu : Nat} (hs : s < 10) (hfu : 1100 ≤ fu) : m_X3_neededBy fu U H (nI s) = some (nI (nd r s)) := by
  obtain ⟨-, -, hU, hH, -, -⟩ := hc
  have b1 := hv.1.2
  unfold m_X3_neededBy
  refine for0 (fun fn i => m_X3_neededBy_4 U H (nI s) fn (nI (orf (fun t => if (r (23 + s)).testBit t && (r (11 + t) != 0 && r (11 + t) != s + 1) then 2 ^ (r (11 + t) - 1) else 0) i)) (nI i)) 12 _ fu (by omega) (fun fn i hi => ?_) (fun fn => ?_)
  · have hh := hv.2.2.1 i hi
    rw [m_X3_neededBy_4, if_neg (nI_ge hi (by omega)), gd_nI (by omega) (by omega), nI_clamp (by omega), hH i hi, n_1, orf]
    by_cases e0 : r (11 + i) = 0
    · rw [if_pos ((hI_m1 (by omega)).mpr e0), if_neg (by simp [e0]), Nat.or_zero]
    · rw [if_neg (fun z => e0 ((hI_m1 (by omega)).mp z))]
      by_cases e1 : r (11 + i) = s + 1
      · rw [if_pos ((hI_eq (by omega) (by omega)).mpr e1), if_neg (by simp [e1]), Nat.or_zero]
      · rw [if_neg (fun z => e1 ((hI_eq (by omega) (by omega)).mp z)), gd_nI (by omega) (by omega), nI_clamp (by omega), hU s hs, X6_has (by omega), Option.bind_some, ib0]
        cases e : (r (23 + s)).testBit i with
        | false => rw [if_pos rfl, if_neg (by simp), Nat.or_zero]
        | true => rw [if_neg (by simp), hI_pos e0, X6_with (by omega), Option.bind_some, if_pos (by simp [e0, e1])]
  · rw [m_X3_neededBy_4, if_pos (nI_le (Nat.le_refl _) (by omega))]
    rfl
theorem nd_eq {r : Nat → Nat} (hv : Iv r) (s : Nat) : dif (orf (ndg r s) 12) (2 ^ s) = nd r s := by
  have b1 := hv.1.2
  have hl : orf (ndg r s) 12 < 2 ^ 32 := orf_lt (fun j hj => by
    unfold ndg
    have := hv.2.2.1 j hj
    split
    · exact Nat.pow_lt_pow_right (by omega) (by omega)
    · exact Nat.two_pow_pos 32)
  apply Nat.eq_of_testBit_eq
  intro i
  rw [dif_bit hl, Nat.testBit_two_pow]
  rw [Bool.eq_iff_iff, nd_bit, Bool.and_eq_true, orf_bit]
  constructor
  · rintro ⟨⟨t, ht, h⟩, h2⟩
    unfold ndg at h
    split at h
    · rename_i hcc
      simp only [Bool.and_eq_true, bne_iff_ne, ne_eq] at hcc
      rw [Nat.testBit_two_pow] at h
      have := of_decide_eq_true h
      exact ⟨fun z => by subst z; simp at h2, t, ht, hcc.1, by omega⟩
    · simp at h
  · rintro ⟨hn, t, ht, h1, h2⟩
    refine ⟨⟨t, ht, ?_⟩, by simp [Ne.symm hn]⟩
    unfold ndg
    rw [if_pos (by simp [h1, h2]), h2, Nat.testBit_two_pow]
    simp
theorem X7_needs {r : Nat → Nat} {k : Nat → Int32} (hc : R0 r k) (hv : Iv r) {s fu : Nat} (hs : s < 10) (hfu : 1100 ≤ fu) : m_X7_needs fu k (nI s) = some (nI (nd r s)) := by
  have b1 := hv.1.2
  have hu := hv.2.2.2.1 s hs
  unfold m_X7_needs
  refine for0 (fun fn i => m_X7_needs_4 k (nI s) fn (nI (orf (ndg r s) i)) (nI i)) 12 _ fu (by omega) (fun fn i hi => ?_) (fun fn => ?_)
  · have hh := hv.2.2.1 i hi
    rw [m_X7_needs_4, if_neg (nI_ge hi (by omega)), nI_add, gd_nI (by omega) (by omega), nI_clamp (by omega), hc.1 (23 + s) (by omega) (by omega), X7_has (by omega) (by omega), Option.bind_some, n_1, orf, ib0, nI_add, nI_clamp (by omega), hc.2 i hi]
    cases e : (r (23 + s)).testBit i with
    | false => rw [if_pos rfl, n_or, show ndg r s i = 0 by simp [ndg, e]]
    | true =>
      rw [if_neg (by simp), gd_nI (by omega) (by omega)]
      by_cases e0 : r (11 + i) = 0
      · rw [if_pos ((hI_m1 (by omega)).mpr e0), n_or, show ndg r s i = 0 by simp [ndg, e0]]
      · rw [if_neg (fun z => e0 ((hI_m1 (by omega)).mp z)), gd_nI (by omega) (by omega), hI_pos e0, n_bit (by omega), n_or, show ndg r s i = 2 ^ (r (11 + i) - 1) by simp [ndg, e0, e]]
  · rw [m_X7_needs_4, if_pos (nI_le (Nat.le_refl _) (by omega)), n_bit (by omega), n_dif, nd_eq hv]
/-- a term is early in a section -/
def er (r : Nat → Nat) (s t : Nat) : Bool := (r (23 + s)).testBit t && (r (11 + t) != 0 && decide (pl r s < pl r (r (11 + t) - 1)))
def ear (r : Nat → Nat) (s : Nat) : Nat := bs (fun t => er r s t) 12
theorem ear_lt (r : Nat → Nat) (s : Nat) : ear r s < 4096 := bs_lt _ 12
theorem er_iff {r : Nat → Nat} {s t : Nat} : er r s t = true ↔ (r (23 + s)).testBit t = true ∧ r (11 + t) ≠ 0 ∧ pl r s < pl r (r (11 + t) - 1) := by
  unfold er
  simp only [Bool.and_eq_true, bne_iff_ne, decide_eq_true_eq]
theorem X7_earlyIn {r : Nat → Nat} {k : Nat → Int32} (hc : R0 r k) (hv : Iv r) {s fu : Nat} (hs : s < r 0) (hfu : 1100 ≤ fu) : m_X7_earlyIn fu k (nI s) = some (nI (ear r s)) := by
  have b1 := hv.1.2
  have hu := hv.2.2.2.1 s (by omega)
  unfold m_X7_earlyIn
  refine for0 (fun fn i => m_X7_earlyIn_4 fu k (nI s) fn (nI (bs (fun t => er r s t) i)) (nI i)) 12 _ fu (by omega) (fun fn i hi => ?_) (fun fn => ?_)
  · have hh := hv.2.2.1 i hi
    have stepF : ∀ g : Int32 → Int32 → Option Int32, er r s i = false → g (nI (bs (fun t => er r s t) i) ||| nI 0) (nI (i + 1)) = (g (nI (bs (fun t => er r s t) (i + 1))) (nI (i + 1)) : Option Int32) := fun g h => by rw [n_or, bs, h]; rfl
    have stepT : ∀ g : Int32 → Int32 → Option Int32, er r s i = true → g (nI (bs (fun t => er r s t) i) ||| (nI 1 <<< (nI i &&& 31))) (nI (i + 1)) = (g (nI (bs (fun t => er r s t) (i + 1))) (nI (i + 1)) : Option Int32) := fun g h => by rw [n_bit (by omega), n_or, bs, h]; rfl
    rw [m_X7_earlyIn_4, if_neg (nI_ge hi (by omega)), nI_add, gd_nI (by omega) (by omega), nI_clamp (by omega), hc.1 (23 + s) (by omega) (by omega), X7_has (by omega) (by omega), Option.bind_some, ib0, nI_add, nI_clamp (by omega), hc.2 i hi]
    unfold m_X7_earlyIn_65
    rw [n_1]
    cases e : (r (23 + s)).testBit i with
    | false =>
      rw [if_pos rfl, if_pos rfl]
      exact stepF _ (by simp [er, e])
    | true =>
      rw [if_neg (by simp), gd_nI (by omega) (by omega)]
      by_cases e0 : r (11 + i) = 0
      · rw [if_pos ((hI_m1 (by omega)).mpr e0), if_pos rfl]
        exact stepF _ (by simp [er, e0])
      · rw [if_neg (fun z => e0 ((hI_m1 (by omega)).mp z)), gd_nI (by omega) (by omega), hI_pos e0, X7_placeOf hc hv (by omega) hfu, Option.bind_some, X7_placeOf hc hv hs hfu, Option.bind_some]
        have p1 := (pl_lt hv (s := r (11 + i) - 1) (by omega)).1
        have p2 := (pl_lt hv hs).1
        by_cases e1 : pl r s < pl r (r (11 + i) - 1)
        · rw [if_neg (nI_ge e1 (by omega)), if_neg (by decide +kernel)]
          exact stepT _ (er_iff.mpr ⟨e, e0, e1⟩)
        · rw [if_pos (nI_le (by omega) (by omega)), if_pos rfl]
          refine stepF _ ?_
          cases h : er r s i with
          | false => rfl
          | true => exact absurd (er_iff.mp h).2.2 e1
  · rw [m_X7_earlyIn_4, if_pos (nI_le (Nat.le_refl _) (by omega))]
    rfl
theorem tah_bit {r : Nat → Nat} {s t : Nat} : (tah r s).testBit t = true ↔ t < 12 ∧ r (11 + t) = s + 1 := by
  unfold tah
  rw [bs_bit]
  simp
theorem tah_lt (r : Nat → Nat) (s : Nat) : tah r s < 4096 := bs_lt _ 12
theorem X3_earlyTerms {r : Nat → Nat} {n : Int32} {L U H O B : Nat → Int32} (hc : CM r n L U H O B) (hv : Iv r) {s fu : Nat} (hs : s < r 0) (hfu : 1100 ≤ fu) : m_X3_earlyTerms fu n U H O (nI s) = some (nI (ear r s)) := by
  have b1 := hv.1.2
  have p2 := pl_lt hv hs
  unfold m_X3_earlyTerms
  rw [X3_placeOf hc hv hs hfu, Option.bind_some, n_1]
  have hT := fun {q : Nat} (hq : q < 1000) => X3_termsAtHome (s := q) hc hv hq hfu
  obtain ⟨rfl, -, hU, -, hO, -⟩ := hc
  rw [show nI 0 = nI (orf (fun j => tah r (r (33 + (pl r s + 1 + j)))) (pl r s + 1 - (pl r s + 1))) by rw [Nat.sub_self]; rfl]
  refine forA (fun fn i => m_X3_earlyTerms_10 fu (nI (r 0)) U H O (nI s) fn (nI (orf (fun j => tah r (r (33 + (pl r s + 1 + j)))) (i - (pl r s + 1)))) (nI i)) (pl r s + 1) (r 0) (some (nI (ear r s))) fu (by omega) (by omega) (fun fn i ha hi => ?_) (fun fn => ?_)
  · have hoi := hv.2.2.2.2.1 i hi
    rw [m_X3_earlyTerms_10, if_neg (nI_ge hi (by omega)), gd_nI (by omega) (by omega), nI_clamp (by omega), hO i (by omega), hT (by omega), Option.bind_some, n_or, n_1, show i + 1 - (pl r s + 1) = (i - (pl r s + 1)) + 1 by omega, orf, show pl r s + 1 + (i - (pl r s + 1)) = i by omega]
  · rw [m_X3_earlyTerms_10, if_pos (nI_le (Nat.le_refl _) (by omega)), gd_nI (by omega) (by omega), nI_clamp (by omega), hU s (by omega), n_and]
    congr 2
    apply bs_ext
    intro t
    rw [Bool.eq_iff_iff, Nat.testBit_and, Bool.and_eq_true, orf_bit, Bool.and_eq_true, decide_eq_true_eq, er_iff]
    constructor
    · rintro ⟨h1, j, hj, h2⟩
      obtain ⟨h3, h4⟩ := tah_bit.mp h2
      have h5 := pl_eq hv (p := pl r s + 1 + j) (by omega)
      refine ⟨h3, h1, by omega, ?_⟩
      rw [h4, Nat.add_sub_cancel, h5]
      omega
    · rintro ⟨h1, h2, h3, h4⟩
      have hh := hv.2.2.1 t h1
      obtain ⟨g1, g2⟩ := pl_lt hv (s := r (11 + t) - 1) (by omega)
      refine ⟨h2, pl r (r (11 + t) - 1) - (pl r s + 1), by omega, ?_⟩
      rw [show pl r s + 1 + (pl r (r (11 + t) - 1) - (pl r s + 1)) = pl r (r (11 + t) - 1) by omega, g2]
      exact tah_bit.mpr ⟨h1, by omega⟩
