/-! PURE F: the class's graph, rings -/
def fil (f g : Nat → Int32) (i : Nat) : Nat → Int32 := fun j => if j < i then f j else g j
theorem fil_0 (f g : Nat → Int32) : fil f g 0 = g := by funext j; simp [fil]
theorem fil_s (f g : Nat → Int32) (i : Nat) : upd (fil f g i) i (f i) = fil f g (i + 1) := by
  funext j
  simp only [upd, fil]
  by_cases h : j = i
  · subst h; simp
  · by_cases h2 : j < i
    · simp [h, h2, show j < i + 1 by omega]
    · simp [h, h2, show ¬ j < i + 1 by omega]
theorem fil_lt {f g : Nat → Int32} {i j : Nat} (h : j < i) : fil f g i j = f j := if_pos h
theorem fil_ge {f g : Nat → Int32} {i j : Nat} (h : i ≤ j) : fil f g i j = g j := if_neg (by omega)
theorem fil_same {f g : Nat → Int32} {i : Nat} (h : f i = g i) : fil f g (i + 1) = fil f g i := by
  funext j
  simp only [fil]
  by_cases h1 : j = i
  · subst h1; simp [h]
  · by_cases h2 : j < i
    · simp [h2, show j < i + 1 by omega]
    · simp [h2, show ¬ j < i + 1 by omega]
theorem fil_fil (f g h : Nat → Int32) (n : Nat) : fil f (fil g h n) n = fil f h n := by
  funext j
  simp only [fil]
  by_cases h1 : j < n <;> simp [h1]
theorem wr_self (r : Nat → Nat) (k : Nat) : wr r (k + 1) k = wr r k k := by
  rw [wr]
  split
  · exact Nat.or_self _
  · rfl
theorem X4_draw {r : Nat → Nat} {n : Int32} {L U H O B : Nat → Int32} (hc : CM r n L U H O B) (hv : Iv r) {ne re : Nat → Int32} {fu : Nat} (hfu : 1100 ≤ fu) : m_X4_draw fu ne re n U H = some (nI (r 0), fil (fun s => nI (nd r s)) ne (r 0), fil (fun s => nI (wr r (r 0) s)) re (r 0)) := by
  have b1 := hv.1.2
  have hp := p10 hv
  have hN := fun {q : Nat} (hq : q < 10) => X3_neededBy (s := q) hc hv hq hfu
  obtain ⟨rfl, -⟩ := hc
  unfold m_X4_draw
  have key := for0 (fun fn i => m_X4_draw_10 fu (nI (r 0)) U H fn (fil (fun s => nI (nd r s)) ne i) (fil (fun s => nI (wr r 0 s)) re i) (nI i)) (r 0) (some (nI (r 0), fil (fun s => nI (nd r s)) ne (r 0), fil (fun s => nI (wr r (r 0) s)) re (r 0))) fu (by omega) (fun fn i hi => by
    rw [m_X4_draw_10, if_neg (nI_ge hi (by omega)), hN (by omega), Option.bind_some, gd_nI (by omega) (by omega), gd_nI (by omega) (by omega), nI_clamp (by omega), pk_us, X6_with (by omega), Option.bind_some, gd_nI (by omega) (by omega), n_1, fil_s (fun s => nI (nd r s)), show nI (nd r i ||| 2 ^ i) = (fun s => nI (wr r 0 s)) i from rfl, fil_s]) (fun fn => by
    rw [m_X4_draw_10, if_pos (nI_le (Nat.le_refl _) (by omega))]
    refine for0 (fun fm k => m_X4_draw_53 fu (nI (r 0)) (fil (fun s => nI (nd r s)) ne (r 0)) fm (fil (fun s => nI (wr r k s)) re (r 0)) (nI k)) (r 0) _ fu (by omega) (fun fm k hk => ?_) (fun fm => ?_)
    · rw [m_X4_draw_53, if_neg (nI_ge hk (by omega))]
      have key2 := for0 (fun fl j => m_X4_draw_63 (nI (r 0)) (nI k) (m_X4_draw_53 fu (nI (r 0)) (fil (fun s => nI (nd r s)) ne (r 0)) fm) fl (fil (fun s => nI (wr r (k + 1) s)) (fil (fun s => nI (wr r k s)) re (r 0)) j) (nI j)) (r 0) (m_X4_draw_53 fu (nI (r 0)) (fil (fun s => nI (nd r s)) ne (r 0)) fm (fil (fun s => nI (wr r (k + 1) s)) re (r 0)) (nI (k + 1))) fu (by omega) (fun fl j hj => by
        have e1 : fil (fun s => nI (wr r (k + 1) s)) (fil (fun s => nI (wr r k s)) re (r 0)) j j = nI (wr r k j) := by rw [fil_ge (Nat.le_refl j), fil_lt hj]
        have e2 : fil (fun s => nI (wr r (k + 1) s)) (fil (fun s => nI (wr r k s)) re (r 0)) j k = nI (wr r k k) := by
          by_cases h : k < j
          · rw [fil_lt h, wr_self]
          · rw [fil_ge (by omega), fil_lt hk]
        rw [m_X4_draw_63, if_neg (nI_ge hj (by omega)), gd_nI (by omega) (by omega), nI_clamp (by omega), e1, X6_has (by omega), Option.bind_some, ib0, n_1]
        cases e : (wr r k j).testBit k with
        | false =>
          rw [if_pos rfl, fil_same]
          rw [fil_lt hj, wr, if_neg (by rw [e]; simp)]
        | true =>
          rw [if_neg (by simp), gd_nI (by omega) (by omega), gd_nI (by omega) (by omega), gd_nI (by omega) (by omega), nI_clamp (by omega), e2, n_or, show nI (wr r k j ||| wr r k k) = (fun s => nI (wr r (k + 1) s)) j by show _ = nI (wr r (k + 1) j); rw [wr, if_pos e], fil_s]) (fun fl => by
        rw [m_X4_draw_63, if_pos (nI_le (Nat.le_refl _) (by omega)), n_1, fil_fil])
      rw [fil_0] at key2
      exact key2
    · rw [m_X4_draw_53, if_pos (nI_le (Nat.le_refl _) (by omega))])
  rw [fil_0, fil_0] at key
  exact key
theorem X4_component {r : Nat → Nat} {re : Nat → Int32} (hv : Iv r) (hre : ∀ s, s < r 0 → re s = nI (wr r (r 0) s)) {u fu : Nat} (hu : u < r 0) (hfu : 1100 ≤ fu) : m_X4_component fu (nI (r 0)) re (nI u) = some (nI (kno r u)) := by
  have b1 := hv.1.2
  unfold m_X4_component
  refine for0 (fun fn i => m_X4_component_4 (nI (r 0)) re (nI u) fn (nI (bs (fun s => (wr r (r 0) u).testBit s && (wr r (r 0) s).testBit u) i)) (nI i)) (r 0) _ fu (by omega) (fun fn i hi => ?_) (fun fn => ?_)
  · rw [m_X4_component_4, if_neg (nI_ge hi (by omega)), gd_nI (by omega) (by omega), nI_clamp (by omega), hre u hu, X6_has (by omega), Option.bind_some, ib0, bs, n_1]
    cases e : (wr r (r 0) u).testBit i with
    | false => rw [if_pos rfl, Bool.false_and, if_neg (by simp), Nat.or_zero]
    | true =>
      rw [if_neg (by simp), gd_nI (by omega) (by omega), nI_clamp (by omega), hre i hi, X6_has (by omega), Option.bind_some, ib0, Bool.true_and]
      cases e2 : (wr r (r 0) i).testBit u with
      | false => rw [if_pos rfl, if_neg (by simp), Nat.or_zero]
      | true => rw [if_neg (by simp), X6_with (by omega), Option.bind_some, if_pos rfl]
  · rw [m_X4_component_4, if_pos (nI_le (Nat.le_refl _) (by omega))]
    rfl
theorem low_ok : (List.range 1024).all (fun c => (List.range 10).all (fun s => decide (c.testBit s = true → ((nI c &&& -(nI c)) = nI (2 ^ s) ↔ c &&& (2 ^ s - 1) = 0)))) = true := by decide +kernel
theorem low {c s : Nat} (hc : c < 1024) (hs : s < 10) (h : c.testBit s = true) : (nI c &&& -(nI c)) = nI (2 ^ s) ↔ c &&& (2 ^ s - 1) = 0 :=
  of_decide_eq_true (List.all_eq_true.mp (List.all_eq_true.mp low_ok c (List.mem_range.mpr hc)) s (List.mem_range.mpr hs)) h
/-- a component of two or more, told at its first section -/
def lgc (r : Nat → Nat) (s : Nat) : Bool := decide (kno r s &&& (2 ^ s - 1) = 0) && decide (2 ≤ cnt (kno r s))
theorem X4_countLarge {r : Nat → Nat} {re : Nat → Int32} (hv : Iv r) (hre : ∀ s, s < r 0 → re s = nI (wr r (r 0) s)) {fu : Nat} (hfu : 1100 ≤ fu) : m_X4_countLargeComponents fu (nI (r 0)) re = some (nI (sm (fun s => (lgc r s).toNat) (r 0))) := by
  have b1 := hv.1.2
  have hp := p10 hv
  unfold m_X4_countLargeComponents
  refine for0 (fun fn i => m_X4_countLargeComponents_4 fu (nI (r 0)) re fn (nI (sm (fun s => (lgc r s).toNat) i)) (nI i)) (r 0) _ fu (by omega) (fun fn i hi => ?_) (fun fn => ?_)
  · have hk := kno_lt r i
    have hq := p31 (k := i) (by omega)
    have h1 : 1 ≤ 2 ^ i := Nat.two_pow_pos i
    have hcl := cnt_le (kno r i)
    have hand : kno r i &&& (2 ^ i - 1) < 2 ^ 31 := Nat.lt_of_le_of_lt Nat.and_le_left (by omega)
    rw [m_X4_countLargeComponents_4, if_neg (nI_ge hi (by omega)), X4_component hv hre hi hfu, Option.bind_some, n_bit (by omega), pk_sub h1, n_and, sm]
    unfold m_X4_countLargeComponents_33 lgc
    rw [n_1]
    by_cases e : kno r i &&& (2 ^ i - 1) = 0
    · rw [e, if_pos rfl, if_neg (by decide +kernel), J6_bitCount (by omega), Option.bind_some, decide_eq_true rfl, Bool.true_and]
      by_cases e2 : 2 ≤ cnt (kno r i)
      · rw [if_neg (nI_nlt e2 (by omega)), decide_eq_true e2, n_1]; rfl
      · rw [if_pos (nI_lt (by omega) (by omega)), decide_eq_false e2]; rfl
    · rw [if_neg (fun z => e ((nI_eq hand (by omega)).mp z)), if_pos rfl, decide_eq_false e]; rfl
  · rw [m_X4_countLargeComponents_4, if_pos (nI_le (Nat.le_refl _) (by omega))]
theorem X7_knots {r : Nat → Nat} {k : Nat → Int32} (hc : R0 r k) (hv : Iv r) {fu : Nat} (hfu : 1100 ≤ fu) : m_X7_knots fu k = some (nI (sm (fun s => (lgc r s).toNat) (r 0))) := by
  have b1 := hv.1.2
  have hp := p10 hv
  unfold m_X7_knots
  refine for0 (fun fn i => m_X7_knots_4 fu k fn (nI (sm (fun s => (lgc r s).toNat) i)) (nI i)) (r 0) _ fu (by omega) (fun fn i hi => ?_) (fun fn => ?_)
  · have hk := kno_lt r i
    have hcl := cnt_le (kno r i)
    rw [m_X7_knots_4, gd_nI (by omega) (by omega), nI_clamp (by omega), hc.1 0 (by omega) (by omega), if_neg (nI_ge hi (by omega)), X7_knotOf hc hv hi hfu, Option.bind_some, X7_ones (by omega) hfu, Option.bind_some, n_bit (by omega), sm]
    unfold lgc
    by_cases e2 : 2 ≤ cnt (kno r i)
    · rw [if_neg (nI_ge (by omega) (by omega)), decide_eq_true e2, Bool.and_true]
      by_cases e : kno r i &&& (2 ^ i - 1) = 0
      · rw [if_pos ((low (by omega) (by omega) (kno_self hv hi)).mpr e), decide_eq_true e, n_1, n_1]; rfl
      · rw [if_neg (fun z => e ((low (by omega) (by omega) (kno_self hv hi)).mp z)), decide_eq_false e, nI_add, n_1]; rfl
    · rw [if_pos (nI_le (by omega) (by omega)), decide_eq_false e2, Bool.and_false, nI_add, n_1]; rfl
  · rw [m_X7_knots_4, gd_nI (by omega) (by omega), nI_clamp (by omega), hc.1 0 (by omega) (by omega), if_pos (nI_le (Nat.le_refl _) (by omega))]
