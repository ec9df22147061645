/-! PURE M: bounds on any number, the sums and counts -/
def hx (n : Nat) (x : Int32) : Bool := decide (0 ≤ x.toInt ∧ x.toInt < n)
theorem hx_nI {n j : Nat} (hj : j < n) (hn : n < 2 ^ 31) : hx n (nI j) = true := by
  unfold hx
  rw [nI_toInt (by omega)]
  exact decide_eq_true ⟨by omega, by omega⟩
theorem hx_true {n : Nat} {x : Int32} (h : hx n x = true) : ∃ j, j < n ∧ x = nI j := by
  have h := of_decide_eq_true h
  have hz : ¬ x < 0 := by
    rw [Int32.lt_iff_toInt_lt]
    have h0 : (0 : Int32).toInt = 0 := by decide
    omega
  obtain ⟨j, hj, rfl⟩ := nI_of hz
  rw [nI_toInt hj] at h
  exact ⟨j, by omega, rfl⟩
theorem hx_if {α : Type} {n : Nat} (hn : n < 2 ^ 31) (x : Int32) (a b : α) : (if x < nI 0 then a else if nI n ≤ x then a else b) = if hx n x = true then b else a := by
  unfold hx
  have h0 : (nI 0).toInt = 0 := nI_toInt (n := 0) (by omega)
  have h1 := nI_toInt hn
  by_cases c1 : x.toInt < 0
  · rw [if_pos (Int32.lt_iff_toInt_lt.mpr (by omega)), if_neg]
    intro z
    have := of_decide_eq_true z
    omega
  · rw [if_neg (fun z => by have := Int32.lt_iff_toInt_lt.mp z; omega)]
    by_cases c2 : (n : Int) ≤ x.toInt
    · rw [if_pos (Int32.le_iff_toInt_le.mpr (by omega)), if_neg]
      intro z
      have := of_decide_eq_true z
      omega
    · rw [if_neg (fun z => by have := Int32.le_iff_toInt_le.mp z; omega), if_pos]
      exact decide_eq_true ⟨by omega, by omega⟩
theorem hx_nat {n : Nat} (x : Int32) : (if hx n x = true then some (nI 1) else some (nI 0)) = some (nI (hx n x).toNat) := by
  cases hx n x <;> rfl
theorem X3_hasSection {n : Nat} (hn : n < 2 ^ 31) (x : Int32) : m_X3_hasSection (nI n) x = some (nI (hx n x).toNat) := by
  unfold m_X3_hasSection
  rw [hx_if hn, hx_nat]
theorem X3_hasPlace {n : Nat} (hn : n < 2 ^ 31) (x : Int32) : m_X3_hasPlace (nI n) x = some (nI (hx n x).toNat) := by
  unfold m_X3_hasPlace
  rw [hx_if hn, hx_nat]
theorem X6_isTerm (x : Int32) : m_X6_isTerm x = some (nI (hx 12 x).toNat) := by
  unfold m_X6_isTerm
  rw [hx_if (by omega), hx_nat]
/-- the reference's bounds -/
def iv2 (a b : Nat) (x : Int32) : Bool := decide ((a : Int) ≤ x.toInt ∧ x.toInt ≤ b)
theorem X7_in {a b : Nat} (ha : a < 2 ^ 31) (hb : b < 2 ^ 31) (x : Int32) : m_X7_in x.toInt64 (lN a) (lN b) = some (nI (iv2 a b x).toNat) := by
  unfold m_X7_in iv2
  have e1 : (lg_cmp x.toInt64 (lN a) < nI 0) ↔ x.toInt < a := by
    have := lg_cmp_ge x.toInt64 (lN a)
    rw [Int64.le_iff_toInt_le, Int32.toInt_toInt64, lN_toInt ha] at this
    rw [show nI 0 = (0 : Int32) from rfl, ← Int32.not_le, this]
    omega
  have e2 : (nI 0 < lg_cmp x.toInt64 (lN b)) ↔ (b : Int) < x.toInt := by
    have := lg_cmp_le x.toInt64 (lN b)
    rw [Int64.le_iff_toInt_le, Int32.toInt_toInt64, lN_toInt hb] at this
    rw [show nI 0 = (0 : Int32) from rfl, ← Int32.not_le, this]
    omega
  by_cases c1 : x.toInt < a
  · rw [if_pos (e1.mpr c1), decide_eq_false (fun z => by omega)]; rfl
  · rw [if_neg (fun z => c1 (e1.mp z))]
    by_cases c2 : (b : Int) < x.toInt
    · rw [if_pos (e2.mpr c2), decide_eq_false (fun z => by omega)]; rfl
    · rw [if_neg (fun z => c2 (e2.mp z)), decide_eq_true ⟨by omega, by omega⟩]; rfl
theorem zb_b {α : Type} (b : Bool) (k : Option α) : zb (nI b.toNat) k = k := by cases b <;> rfl
theorem iv2_hx {n : Nat} (h : 1 ≤ n) (x : Int32) : iv2 0 (n - 1) x = hx n x := by
  unfold iv2 hx
  have : ((0 : Nat) : Int) ≤ x.toInt ∧ x.toInt ≤ (n - 1 : Nat) ↔ 0 ≤ x.toInt ∧ x.toInt < n := by omega
  exact decide_eq_decide.mpr this
theorem nI_sub {a b : Nat} (h : b ≤ a) : nI a - nI b = nI (a - b) := by
  have : nI a = nI (a - b) + nI b := by rw [nI_add, Nat.sub_add_cancel h]
  rw [this, Int32.add_sub_cancel]
theorem X7_isSection {r : Nat → Nat} {k : Nat → Int32} (hc : R0 r k) (hv : Iv r) (x : Int32) : m_X7_isSection k x = some (nI (hx (r 0) x).toNat) := by
  have b1 := hv.1
  unfold m_X7_isSection
  rw [gd_nI (by omega) (by omega), nI_clamp (by omega), hc.1 0 (by omega) (by omega), nI_sub (by omega), nI_l (by omega), X7_in (by omega) (by omega), Option.bind_some, zb_b, iv2_hx (by omega)]
theorem X7_isTerm (x : Int32) : m_X7_isTerm x = some (nI (hx 12 x).toNat) := by
  unfold m_X7_isTerm
  rw [X7_in (by omega) (by omega), Option.bind_some, zb_b, ← iv2_hx (n := 12) (by omega)]
theorem X3_isLoose {r : Nat → Nat} {n : Int32} {L U H O B : Nat → Int32} (hc : CM r n L U H O B) (hv : Iv r) {t fu : Nat} (ht : t < 12) (hfu : 1100 ≤ fu) : m_X3_isLoose fu n U H (nI t) = some (nI (r (11 + t) == 0 && usr r t != 0).toNat) := by
  have hh := hv.2.2.1 t ht
  have b1 := hv.1.2
  have hu : usr r t < 2 ^ 10 := Nat.lt_of_lt_of_le (bs_lt _ _) (Nat.pow_le_pow_right (by omega) b1)
  unfold m_X3_isLoose
  rw [gd_nI (by omega) (by omega), nI_clamp (by omega), hc.2.2.2.1 t ht]
  by_cases e : r (11 + t) = 0
  · rw [if_pos ((hI_m1 (by omega)).mpr e), X3_usersOf hc hv ht hfu, Option.bind_some]
    by_cases e2 : usr r t = 0
    · rw [if_pos (by rw [e2])]; simp [e, e2]
    · rw [if_neg (fun z => e2 ((nI_eq (by omega) (by omega)).mp z))]; rw [show (r (11 + t) == 0) = true from beq_iff_eq.mpr e, show (usr r t != 0) = true from bne_iff_ne.mpr e2]; rfl
  · rw [if_neg (fun z => e ((hI_m1 (by omega)).mp z))]; rw [show (r (11 + t) == 0) = false from beq_false_of_ne e]; rfl
def lsm (r : Nat → Nat) : Nat := sm (fun t => (r (11 + t) == 0 && usr r t != 0).toNat) 12
theorem X3_countLoose {r : Nat → Nat} {n : Int32} {L U H O B : Nat → Int32} (hc : CM r n L U H O B) (hv : Iv r) {fu : Nat} (hfu : 1100 ≤ fu) : m_X3_countLoose fu n U H = some (nI (lsm r)) := by
  unfold m_X3_countLoose
  refine for0 (fun fn i => m_X3_countLoose_4 fu n U H fn (nI (sm (fun t => (r (11 + t) == 0 && usr r t != 0).toNat) i)) (nI i)) 12 _ fu (by omega) (fun fn i hi => ?_) (fun fn => ?_)
  · rw [m_X3_countLoose_4, if_neg (nI_ge hi (by omega)), X3_isLoose hc hv hi hfu, Option.bind_some, n_1, n_1, sm, ib0]
    cases (r (11 + i) == 0 && usr r i != 0) <;> simp
  · rw [m_X3_countLoose_4, if_pos (nI_le (Nat.le_refl _) (by omega))]
    rfl
theorem X7_loose {r : Nat → Nat} {k : Nat → Int32} (hc : R0 r k) (hv : Iv r) {fu : Nat} (hfu : 1100 ≤ fu) : m_X7_loose fu k = some (nI (lsm r)) := by
  have b1 := hv.1.2
  unfold m_X7_loose
  refine for0 (fun fn i => m_X7_loose_4 fu k fn (nI (sm (fun t => (r (11 + t) == 0 && usr r t != 0).toNat) i)) (nI i)) 12 _ fu (by omega) (fun fn i hi => ?_) (fun fn => ?_)
  · have hh := hv.2.2.1 i hi
    have hu : usr r i < 2 ^ 10 := Nat.lt_of_lt_of_le (bs_lt _ _) (Nat.pow_le_pow_right (by omega) b1)
    rw [m_X7_loose_4, if_neg (nI_ge hi (by omega)), nI_add 11 i, gd_nI (by omega) (by omega), nI_clamp (by omega), hc.2 i hi, X7_usedBy hc hv hi hfu, Option.bind_some, n_1, n_1, nI_add, sm]
    by_cases e : r (11 + i) = 0
    · rw [if_pos ((hI_m1 (by omega)).mpr e)]
      by_cases e2 : usr r i = 0
      · rw [if_pos (by rw [e2])]; simp [e, e2]
      · rw [if_neg (fun z => e2 ((nI_eq (by omega) (by omega)).mp z))]; rw [show (r (11 + i) == 0) = true from beq_iff_eq.mpr e, show (usr r i != 0) = true from bne_iff_ne.mpr e2]; rfl
    · rw [if_neg (fun z => e ((hI_m1 (by omega)).mp z))]; rw [show (r (11 + i) == 0) = false from beq_false_of_ne e]; rfl
  · rw [m_X7_loose_4, if_pos (nI_le (Nat.le_refl _) (by omega))]
    rfl
def hsm (r : Nat → Nat) : Nat := sm (fun t => (r (11 + t) != 0).toNat) 12
theorem X3_countHomes {r : Nat → Nat} {n : Int32} {L U H O B : Nat → Int32} (hc : CM r n L U H O B) (hv : Iv r) {fu : Nat} (hfu : 1100 ≤ fu) : m_X3_countHomes fu H = some (nI (hsm r)) := by
  have b1 := hv.1.2
  unfold m_X3_countHomes
  refine for0 (fun fn i => m_X3_countHomes_4 H fn (nI (sm (fun t => (r (11 + t) != 0).toNat) i)) (nI i)) 12 _ fu (by omega) (fun fn i hi => ?_) (fun fn => ?_)
  · have hh := hv.2.2.1 i hi
    rw [m_X3_countHomes_4, if_neg (nI_ge hi (by omega)), gd_nI (by omega) (by omega), nI_clamp (by omega), hc.2.2.2.1 i hi, n_1, n_1, sm]
    by_cases e : r (11 + i) = 0
    · rw [if_pos ((hI_m1 (by omega)).mpr e)]; simp [e]
    · rw [if_neg (fun z => e ((hI_m1 (by omega)).mp z))]; rw [show (r (11 + i) != 0) = true from bne_iff_ne.mpr e]; rfl
  · rw [m_X3_countHomes_4, if_pos (nI_le (Nat.le_refl _) (by omega))]
    rfl
theorem X7_homesMany {r : Nat → Nat} {k : Nat → Int32} (hc : R0 r k) (hv : Iv r) {fu : Nat} (hfu : 1100 ≤ fu) : m_X7_homesMany fu k = some (nI (hsm r)) := by
  have b1 := hv.1.2
  unfold m_X7_homesMany
  refine for0 (fun fn i => m_X7_homesMany_4 k fn (nI (sm (fun t => (r (11 + t) != 0).toNat) i)) (nI i)) 12 _ fu (by omega) (fun fn i hi => ?_) (fun fn => ?_)
  · have hh := hv.2.2.1 i hi
    rw [m_X7_homesMany_4, if_neg (nI_ge hi (by omega)), nI_add 11 i, gd_nI (by omega) (by omega), nI_clamp (by omega), hc.2 i hi, n_1, n_1, nI_add, sm]
    by_cases e : r (11 + i) = 0
    · rw [if_pos ((hI_m1 (by omega)).mpr e)]; simp [e]
    · rw [if_neg (fun z => e ((hI_m1 (by omega)).mp z))]; rw [show (r (11 + i) != 0) = true from bne_iff_ne.mpr e]; rfl
  · rw [m_X7_homesMany_4, if_pos (nI_le (Nat.le_refl _) (by omega))]
    rfl
theorem X3_countUses {r : Nat → Nat} {n : Int32} {L U H O B : Nat → Int32} (hc : CM r n L U H O B) (hv : Iv r) {fu : Nat} (hfu : 1100 ≤ fu) : m_X3_countUses fu n U = some (nI (sm (fun s => cnt (r (23 + s))) (r 0))) := by
  have b1 := hv.1.2
  obtain ⟨rfl, -, hU, -⟩ := hc
  unfold m_X3_countUses
  refine for0 (fun fn i => m_X3_countUses_4 (nI (r 0)) U fn (nI (sm (fun s => cnt (r (23 + s))) i)) (nI i)) (r 0) _ fu (by omega) (fun fn i hi => ?_) (fun fn => ?_)
  · rw [m_X3_countUses_4, if_neg (nI_ge hi (by omega)), gd_nI (by omega) (by omega), nI_clamp (by omega), hU i (by omega), J6_bitCount (hv.2.2.2.1 i (by omega)), Option.bind_some, n_1, nI_add, sm]
  · rw [m_X3_countUses_4, if_pos (nI_le (Nat.le_refl _) (by omega))]
theorem X3_countPrecedences {r : Nat → Nat} {n : Int32} {L U H O B : Nat → Int32} (hc : CM r n L U H O B) (hv : Iv r) {fu : Nat} (hfu : 1100 ≤ fu) : m_X3_countPrecedences fu n B = some (nI (sm (fun s => cnt (r (43 + s))) (r 0))) := by
  have b1 := hv.1.2
  obtain ⟨rfl, -, -, -, -, hB⟩ := hc
  unfold m_X3_countPrecedences
  refine for0 (fun fn i => m_X3_countPrecedences_4 (nI (r 0)) B fn (nI (sm (fun s => cnt (r (43 + s))) i)) (nI i)) (r 0) _ fu (by omega) (fun fn i hi => ?_) (fun fn => ?_)
  · have hb := hv.2.2.2.2.2.2 i (by omega)
    rw [m_X3_countPrecedences_4, if_neg (nI_ge hi (by omega)), gd_nI (by omega) (by omega), nI_clamp (by omega), hB i (by omega), J6_bitCount (by omega), Option.bind_some, n_1, nI_add, sm]
  · rw [m_X3_countPrecedences_4, if_pos (nI_le (Nat.le_refl _) (by omega))]
theorem X7_pairs {r : Nat → Nat} {k : Nat → Int32} (hc : R0 r k) (hv : Iv r) {fu : Nat} (hfu : 1100 ≤ fu) : m_X7_pairs fu k = some (nI (sm (fun s => cnt (r (43 + s))) (r 0))) := by
  have b1 := hv.1.2
  unfold m_X7_pairs
  refine for0 (fun fn i => m_X7_pairs_4 fu k fn (nI (sm (fun s => cnt (r (43 + s))) i)) (nI i)) (r 0) _ fu (by omega) (fun fn i hi => ?_) (fun fn => ?_)
  · have hb := hv.2.2.2.2.2.2 i (by omega)
    rw [m_X7_pairs_4, gd_nI (by omega) (by omega), nI_clamp (by omega), hc.1 0 (by omega) (by omega), if_neg (nI_ge hi (by omega)), nI_add 43 i, gd_nI (by omega) (by omega), nI_clamp (by omega), hc.1 (43 + i) (by omega) (by omega), X7_ones (by omega) hfu, Option.bind_some, n_1, nI_add, sm]
  · rw [m_X7_pairs_4, gd_nI (by omega) (by omega), nI_clamp (by omega), hc.1 0 (by omega) (by omega), if_pos (nI_le (Nat.le_refl _) (by omega))]
theorem X3_sumPages {r : Nat → Nat} {n : Int32} {L U H O B : Nat → Int32} (hc : CM r n L U H O B) (hv : Iv r) {fu : Nat} (hfu : 1100 ≤ fu) : m_X3_sumPages fu n L = some (nI (sm (fun s => r (1 + s)) (r 0))) := by
  have b1 := hv.1.2
  obtain ⟨rfl, hL, -⟩ := hc
  unfold m_X3_sumPages
  refine for0 (fun fn i => m_X3_sumPages_4 (nI (r 0)) L fn (nI (sm (fun s => r (1 + s)) i)) (nI i)) (r 0) _ fu (by omega) (fun fn i hi => ?_) (fun fn => ?_)
  · rw [m_X3_sumPages_4, if_neg (nI_ge hi (by omega)), gd_nI (by omega) (by omega), nI_clamp (by omega), hL i (by omega), n_1, nI_add, sm]
  · rw [m_X3_sumPages_4, if_pos (nI_le (Nat.le_refl _) (by omega))]
theorem X3_countEarly {r : Nat → Nat} {n : Int32} {L U H O B : Nat → Int32} (hc : CM r n L U H O B) (hv : Iv r) {fu : Nat} (hfu : 1100 ≤ fu) : m_X3_countEarly fu n U H O = some (nI (sm (fun s => cnt (ear r s)) (r 0))) := by
  have b1 := hv.1.2
  have hn := hc.1
  unfold m_X3_countEarly
  refine for0 (fun fn i => m_X3_countEarly_4 fu n U H O fn (nI (sm (fun s => cnt (ear r s)) i)) (nI i)) (r 0) _ fu (by omega) (fun fn i hi => ?_) (fun fn => ?_)
  · rw [m_X3_countEarly_4, if_neg (by rw [hn]; exact nI_ge hi (by omega)), X3_earlyTerms hc hv hi hfu, Option.bind_some, J6_bitCount (ear_lt r i), Option.bind_some, n_1, nI_add, sm]
  · rw [m_X3_countEarly_4, if_pos (by rw [hn]; exact nI_le (Nat.le_refl _) (by omega))]
theorem X7_sum {r : Nat → Nat} {k : Nat → Int32} (hc : R0 r k) (hv : Iv r) (w : Nat) (hw : w < 2 ^ 31) {fu : Nat} (hfu : 1100 ≤ fu) : m_X7_sum fu k (nI w) = some (nI (sm (fun s => if w = 4 then cnt (r (23 + s)) else if w = 5 then cnt (ear r s) else r (1 + s)) (r 0))) := by
  have b1 := hv.1.2
  unfold m_X7_sum
  refine for0 (fun fn i => m_X7_sum_4 fu k (nI w) fn (nI (sm (fun s => if w = 4 then cnt (r (23 + s)) else if w = 5 then cnt (ear r s) else r (1 + s)) i)) (nI i)) (r 0) _ fu (by omega) (fun fn i hi => ?_) (fun fn => ?_)
  · have hu := hv.2.2.2.1 i (by omega)
    have he := ear_lt r i
    rw [m_X7_sum_4, gd_nI (by omega) (by omega), nI_clamp (by omega), hc.1 0 (by omega) (by omega), if_neg (nI_ge hi (by omega)), sm]
    by_cases c4 : w = 4
    · rw [if_pos (by rw [c4]), nI_add 23 i, gd_nI (by omega) (by omega), nI_clamp (by omega), hc.1 (23 + i) (by omega) (by omega), X7_ones (by omega) hfu, Option.bind_some, n_1, nI_add, if_pos c4]
    · rw [if_neg (fun z => c4 ((nI_eq hw (by omega)).mp z)), if_neg c4]
      by_cases c5 : w = 5
      · rw [if_pos (by rw [c5]), X7_earlyIn hc hv hi hfu, Option.bind_some, X7_ones (by omega) hfu, Option.bind_some, n_1, nI_add, if_pos c5]
      · rw [if_neg (fun z => c5 ((nI_eq hw (by omega)).mp z)), if_neg c5, nI_add 1 i, gd_nI (by omega) (by omega), nI_clamp (by omega), hc.1 (1 + i) (by omega) (by omega), n_1, nI_add]
  · rw [m_X7_sum_4, gd_nI (by omega) (by omega), nI_clamp (by omega), hc.1 0 (by omega) (by omega), if_pos (nI_le (Nat.le_refl _) (by omega))]
