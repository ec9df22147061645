/-! PURE G: rings -/
theorem X4_sneed {r : Nat → Nat} {ne : Nat → Int32} (hv : Iv r) (hne : ∀ s, s < r 0 → ne s = nI (nd r s)) {x fu : Nat} (hfu : 1100 ≤ fu) : m_X4_sectionsThatNeedOneOf fu (nI (r 0)) ne (nI x) = some (nI (bs (fun s => (nd r s &&& x) != 0) (r 0))) := by
  have b1 := hv.1.2
  have hp := p10 hv
  unfold m_X4_sectionsThatNeedOneOf
  refine for0 (fun fn i => m_X4_sectionsThatNeedOneOf_4 (nI (r 0)) ne (nI x) fn (nI (bs (fun s => (nd r s &&& x) != 0) i)) (nI i)) (r 0) _ fu (by omega) (fun fn i hi => ?_) (fun fn => ?_)
  · have hl := nd_lt hv i
    have hand : nd r i &&& x < 2 ^ 31 := Nat.lt_of_le_of_lt Nat.and_le_left (by omega)
    rw [m_X4_sectionsThatNeedOneOf_4, if_neg (nI_ge hi (by omega)), gd_nI (by omega) (by omega), nI_clamp (by omega), hne i hi, n_and, bs, n_1]
    by_cases e : nd r i &&& x = 0
    · rw [if_pos (by rw [e]), if_neg (by simp [e]), Nat.or_zero]
    · rw [if_neg (fun z => e ((nI_eq hand (by omega)).mp z)), X6_with (by omega), Option.bind_some, if_pos (by simp [e])]
  · rw [m_X4_sectionsThatNeedOneOf_4, if_pos (nI_le (Nat.le_refl _) (by omega))]
def ee (r : Nat → Nat) (s : Nat) : Nat := if sts r s s ≤ r 0 then sts r s s + 1 else r 0 + 1
theorem X4_stepsAround {r : Nat → Nat} {ne ts : Nat → Int32} (hv : Iv r) (hne : ∀ s, s < r 0 → ne s = nI (nd r s)) {st fu : Nat} (hs : st < r 0) (hfu : 1100 ≤ fu) : m_X4_stepsAround fu (nI (r 0)) ne ts (nI st) = some (nI (if sts r st st ≤ r 0 then sts r st st else 0), fil (fun j => nI (bw r st j)) ts (ee r st)) := by
  have b1 := hv.1.2
  have hp := p10 hv
  have hsg := sts_ge r st st
  unfold m_X4_stepsAround
  rw [gd_nI (by omega) (by omega), nI_clamp (by omega), n_bit (by omega)]
  have e1 : upd ts 0 (nI (2 ^ st)) = fil (fun j => nI (bw r st j)) ts 1 := by
    have := fil_s (fun j => nI (bw r st j)) ts 0
    rw [fil_0] at this
    exact this
  rw [e1]
  have body : ∀ fn i, 1 ≤ i → i ≤ r 0 → m_X4_stepsAround_11 fu (nI (r 0)) ne (nI st) (fn + 1) (fil (fun j => nI (bw r st j)) ts i) (nI i) = if (bw r st i).testBit st = false then m_X4_stepsAround_11 fu (nI (r 0)) ne (nI st) fn (fil (fun j => nI (bw r st j)) ts (i + 1)) (nI (i + 1)) else some (nI i, fil (fun j => nI (bw r st j)) ts (i + 1)) := by
    intro fn i h1 h2
    obtain ⟨j, rfl⟩ : ∃ j, i = j + 1 := ⟨i - 1, by omega⟩
    rw [m_X4_stepsAround_11, if_neg (nI_nlt h2 (by omega)), pk_sub (by omega), Nat.add_sub_cancel, gd_nI (by omega) (by omega), nI_clamp (by omega), fil_lt (by omega : j < j + 1), X4_sneed hv hne hfu, Option.bind_some, gd_nI (by omega) (by omega), gd_nI (by omega) (by omega), nI_clamp (by omega), pk_us]
    rw [show nI (bs (fun s => (nd r s &&& bw r st j) != 0) (r 0)) = (fun j => nI (bw r st j)) (j + 1) from rfl, fil_s]
    show ((m_X6_has (nI (bw r st (j + 1))) (nI st)).bind _) = _
    rw [X6_has (by omega), Option.bind_some, ib0, n_1]
  refine forA (fun fn i => m_X4_stepsAround_11 fu (nI (r 0)) ne (nI st) fn (fil (fun j => nI (bw r st j)) ts i) (nI i)) 1 (sts r st st) _ fu (by omega) (by omega) (fun fn i ha hi => ?_) (fun fn => ?_)
  · rw [body fn i ha (by omega), if_pos]
    cases h : (bw r st i).testBit st with
    | false => rfl
    | true =>
      have h1 := fnd_no (fun k => (fw r st k).testBit st) (r 0) 1 i ha hi
      rw [(fw_bit hv hs i st).mpr ((bw_bit hv i st hs).mp h)] at h1
      cases h1
  · by_cases h : sts r st st ≤ r 0
    · rw [body fn _ hsg.1 h, if_neg (by rw [(bw_bit hv _ st hs).mpr (sts_yes hv hs h)]; simp), if_pos h]
      unfold ee
      rw [if_pos h]
    · rw [show sts r st st = r 0 + 1 by omega, m_X4_stepsAround_11, if_pos (nI_lt (by omega) (by omega))]
      unfold ee
      rw [if_neg (by omega), if_neg h]
/-- the least length of a ring among the first sections, and where it begins -/
def rmc (r : Nat → Nat) : Nat → Nat × Nat
  | 0 => (0, 0)
  | i + 1 => if sts r i i ≤ r 0 ∧ ((rmc r i).1 = 0 ∨ sts r i i < (rmc r i).1) then (sts r i i, i) else rmc r i
theorem rmc_ok (r : Nat → Nat) : ∀ i, ((rmc r i).1 = 0 → ∀ s, s < i → r 0 < sts r s s) ∧ ((rmc r i).1 ≠ 0 → (rmc r i).2 < i ∧ sts r (rmc r i).2 (rmc r i).2 = (rmc r i).1 ∧ (rmc r i).1 ≤ r 0 ∧ (∀ s, s < (rmc r i).2 → (rmc r i).1 < sts r s s) ∧ ∀ s, s < i → (rmc r i).1 ≤ sts r s s)
  | 0 => ⟨fun _ s h => absurd h (Nat.not_lt_zero s), fun h => absurd rfl h⟩
  | i + 1 => by
    have ih := rmc_ok r i
    have hg := sts_ge r i i
    rw [rmc]
    by_cases hc : sts r i i ≤ r 0 ∧ ((rmc r i).1 = 0 ∨ sts r i i < (rmc r i).1)
    · rw [if_pos hc]
      have hall : ∀ s, s < i → sts r i i < sts r s s := by
        intro s hs
        by_cases h0 : (rmc r i).1 = 0
        · have := ih.1 h0 s hs
          omega
        · obtain ⟨q1, q2, q3, q4, q5⟩ := ih.2 h0
          have hlt : sts r i i < (rmc r i).1 := by rcases hc.2 with h | h; exact absurd h h0; exact h
          have := q5 s hs
          omega
      refine ⟨fun h => absurd h (by show sts r i i ≠ 0; omega), fun _ => ⟨by show i < i + 1; omega, rfl, hc.1, hall, fun s hs => ?_⟩⟩
      show sts r i i ≤ sts r s s
      by_cases e : s = i
      · subst e; exact Nat.le_refl _
      · exact Nat.le_of_lt (hall s (by omega))
    · rw [if_neg hc]
      refine ⟨fun h s hs => ?_, fun h => ?_⟩
      · by_cases e : s = i
        · subst e
          rcases Nat.lt_or_ge (r 0) (sts r s s) with q | q
          · exact q
          · exact absurd ⟨q, Or.inl h⟩ hc
        · exact ih.1 h s (by omega)
      · obtain ⟨q1, q2, q3, q4, q5⟩ := ih.2 h
        refine ⟨by omega, q2, q3, q4, fun s hs => ?_⟩
        by_cases e : s = i
        · subst e
          rcases Nat.lt_or_ge (r 0) (sts r s s) with q | q
          · omega
          · rcases Nat.lt_or_ge (sts r s s) (rmc r s).1 with q2 | q2
            · exact absurd ⟨q, Or.inr q2⟩ hc
            · exact q2
        · exact q5 s (by omega)
/-- the sections of the ring -/
def rg (r : Nat → Nat) (L S : Nat) : Nat → Nat
  | 0 => S
  | j + 1 => fnd (fun v => (nd r (rg r L S j) &&& bw r S (L - (j + 1))).testBit v) (r 0) 0
theorem rg_ok {r : Nat → Nat} (hv : Iv r) {L S : Nat} (hS : S < r 0) (hL : sts r S S = L) (hN : L ≤ r 0) : ∀ j, j < L → rg r L S j < r 0 ∧ wk r j S (rg r L S j) ∧ wk r (L - j) (rg r L S j) S
  | 0, _ => ⟨hS, rfl, by rw [Nat.sub_zero]; have := sts_yes hv hS (by omega : sts r S S ≤ r 0); rw [hL] at this; exact this⟩
  | j + 1, hj => by
    obtain ⟨h1, h2, h3⟩ := rg_ok hv hS hL hN j (by omega)
    obtain ⟨m, hm⟩ : ∃ m, L - j = m + 1 := ⟨L - j - 1, by omega⟩
    rw [hm] at h3
    obtain ⟨w, h4, h5⟩ := h3
    have hm2 : L - (j + 1) = m := by omega
    have hw := ed_lt hv h4
    have hex : (nd r (rg r L S j) &&& bw r S (L - (j + 1))).testBit w = true := by
      rw [Nat.testBit_and, h4, hm2, (bw_bit hv m w hw).mpr h5]; rfl
    have hlt : rg r L S (j + 1) < r 0 := by
      rw [rg]
      rcases Nat.lt_or_ge (fnd (fun v => (nd r (rg r L S j) &&& bw r S (L - (j + 1))).testBit v) (r 0) 0) (r 0) with q | q
      · exact q
      · have := fnd_no (fun v => (nd r (rg r L S j) &&& bw r S (L - (j + 1))).testBit v) (r 0) 0 w (Nat.zero_le w) (by omega)
        rw [hex] at this
        cases this
    have hy := fnd_yes (fun v => (nd r (rg r L S j) &&& bw r S (L - (j + 1))).testBit v) (r 0) 0 (by rw [rg] at hlt; omega)
    have hy : (nd r (rg r L S j) &&& bw r S (L - (j + 1))).testBit (rg r L S (j + 1)) = true := hy
    rw [Nat.testBit_and, Bool.and_eq_true] at hy
    exact ⟨hlt, (wk_last j S _).mpr ⟨_, h2, hy.1⟩, (bw_bit hv _ _ hlt).mp hy.2⟩
theorem X4_firstOf {r : Nat → Nat} (hv : Iv r) {x fu : Nat} (hfu : 1100 ≤ fu) (h : fnd (fun v => x.testBit v) (r 0) 0 < r 0) : m_X4_firstOf fu (nI (r 0)) (nI x) = some (nI (fnd (fun v => x.testBit v) (r 0) 0)) := by
  have b1 := hv.1.2
  unfold m_X4_firstOf
  refine for0 (fun fn i => m_X4_firstOf_2 (nI (r 0)) (nI x) fn (nI i)) (fnd (fun v => x.testBit v) (r 0) 0) _ fu (by omega) (fun fn i hi => ?_) (fun fn => ?_)
  · rw [m_X4_firstOf_2, if_neg (nI_ge (by omega) (by omega)), X6_has (by omega), Option.bind_some, ib0, if_pos (fnd_no (fun v => x.testBit v) (r 0) 0 i (Nat.zero_le i) hi), n_1]
  · rw [m_X4_firstOf_2, if_neg (nI_ge h (by omega)), X6_has (by omega), Option.bind_some, ib0, if_neg (by rw [fnd_yes (fun v => x.testBit v) (r 0) 0 (by omega)]; simp)]
theorem X4_writeRing {r : Nat → Nat} {ne ts ri : Nat → Int32} (hv : Iv r) (hne : ∀ s, s < r 0 → ne s = nI (nd r s)) {L S fu : Nat} (hS : S < r 0) (hL : sts r S S = L) (hN : L ≤ r 0) (hfu : 1100 ≤ fu) : m_X4_writeRing fu (nI L) (nI (r 0)) ri ne ts (nI S) = some (fil (fun j => nI (rg r L S j)) ri L, fil (fun j => nI (bw r S j)) ts (ee r S)) := by
  have b1 := hv.1.2
  have hsg := sts_ge r S S
  unfold m_X4_writeRing
  rw [X4_stepsAround hv hne hS hfu, Option.bind_some, gd_nI (by omega) (by omega), nI_clamp (by omega)]
  have e1 : upd ri 0 (nI S) = fil (fun j => nI (rg r L S j)) ri 1 := by
    have := fil_s (fun j => nI (rg r L S j)) ri 0
    rw [fil_0] at this
    exact this
  rw [e1]
  have he : ee r S = L + 1 := by unfold ee; rw [if_pos (by omega)]; omega
  refine forA (fun fn i => m_X4_writeRing_15 fu (nI L) (nI (r 0)) ne (fil (fun j => nI (bw r S j)) ts (ee r S)) fn (fil (fun j => nI (rg r L S j)) ri i) (nI i)) 1 L _ fu (by omega) (by omega) (fun fn i ha hi => ?_) (fun fn => ?_)
  · obtain ⟨j, rfl⟩ : ∃ j, i = j + 1 := ⟨i - 1, by omega⟩
    have h1 := (rg_ok hv hS hL hN j (by omega)).1
    have h2 := (rg_ok hv hS hL hN (j + 1) hi).1
    rw [m_X4_writeRing_15, if_neg (nI_ge hi (by omega)), pk_sub (by omega), Nat.add_sub_cancel, gd_nI (by omega) (by omega), nI_clamp (by omega), fil_lt (by omega : j < j + 1)]
    show gd 10 (nI (rg r L S j)) _ = _
    rw [gd_nI (by omega) (by omega), pk_sub (by omega), gd_nI (by omega) (by omega), nI_clamp (by omega), hne _ h1, nI_clamp (by omega), fil_lt (by omega), n_and, X4_firstOf hv hfu (by rw [rg] at h2; exact h2), Option.bind_some, gd_nI (by omega) (by omega), nI_clamp (by omega), n_1]
    rw [show nI (fnd (fun v => (nd r (rg r L S j) &&& bw r S (L - (j + 1))).testBit v) (r 0) 0) = (fun j => nI (rg r L S j)) (j + 1) from rfl, fil_s]
  · rw [m_X4_writeRing_15, if_pos (nI_le (Nat.le_refl _) (by omega))]
def tsq (r : Nat → Nat) (ts : Nat → Int32) : Nat → (Nat → Int32)
  | 0 => ts
  | i + 1 => fil (fun j => nI (bw r i j)) (tsq r ts i) (ee r i)
theorem X4_findRing {r : Nat → Nat} {ne ts ri : Nat → Int32} (hv : Iv r) (hne : ∀ s, s < r 0 → ne s = nI (nd r s)) {fu : Nat} (hfu : 1100 ≤ fu) : ∃ ri' ts', m_X4_findRing fu (nI (r 0)) ri ne ts = some (nI (rmc r (r 0)).1, ri', ts') ∧ ∀ j, j < (rmc r (r 0)).1 → ri' j = nI (rg r (rmc r (r 0)).1 (rmc r (r 0)).2 j) := by
  have b1 := hv.1.2
  have key : ∀ k, (∀ fn, m_X4_findRing_9 fu (nI (r 0)) ri ne (fn + 1) (nI (rmc r (r 0)).1) (tsq r ts (r 0)) (nI (rmc r (r 0)).2) (nI (r 0)) = k) → m_X4_findRing fu (nI (r 0)) ri ne ts = k := by
    intro k hk
    unfold m_X4_findRing
    refine for0 (fun fn i => m_X4_findRing_9 fu (nI (r 0)) ri ne fn (nI (rmc r i).1) (tsq r ts i) (nI (rmc r i).2) (nI i)) (r 0) k fu (by omega) (fun fn i hi => ?_) hk
    have hsg := sts_ge r i i
    have hok := rmc_ok r i
    have hle : (rmc r i).1 ≤ 10 := by
      by_cases h : (rmc r i).1 = 0
      · omega
      · have := (hok.2 h).2.2.1; omega
    rw [m_X4_findRing_9, if_neg (nI_ge hi (by omega)), X4_stepsAround hv hne hi hfu, Option.bind_some, rmc, tsq]
    unfold m_X4_findRing_42
    simp only []
    rw [n_1]
    by_cases h : sts r i i ≤ r 0
    · rw [if_pos h, if_neg (nI_ge (a := 0) (b := sts r i i) (by omega) (by omega))]
      by_cases h0 : (rmc r i).1 = 0
      · rw [if_pos (by rw [h0]), if_pos ⟨h, Or.inl h0⟩]
      · rw [if_neg (fun z => h0 ((nI_eq (b := 0) (by omega) (by omega)).mp z))]
        by_cases h1 : sts r i i < (rmc r i).1
        · rw [if_neg (nI_ge h1 (by omega)), if_pos ⟨h, Or.inr h1⟩]
        · rw [if_pos (nI_le (by omega) (by omega)), if_neg (fun z => by rcases z.2 with z | z; exact h0 z; exact h1 z)]
    · rw [if_neg h, if_pos (nI_le (Nat.le_refl 0) (by omega)), if_neg (fun z => h z.1)]
  have hok := rmc_ok r (r 0)
  by_cases h : (rmc r (r 0)).1 = 0
  · refine ⟨ri, tsq r ts (r 0), key _ (fun fn => ?_), fun j hj => by omega⟩
    rw [m_X4_findRing_9, if_pos (nI_le (Nat.le_refl _) (by omega)), if_pos (by rw [h]; exact nI_le (Nat.le_refl 0) (by omega))]
  · obtain ⟨q1, q2, q3, q4, q5⟩ := hok.2 h
    refine ⟨fil (fun j => nI (rg r (rmc r (r 0)).1 (rmc r (r 0)).2 j)) ri (rmc r (r 0)).1, fil (fun j => nI (bw r (rmc r (r 0)).2 j)) (tsq r ts (r 0)) (ee r (rmc r (r 0)).2), key _ (fun fn => ?_), fun j hj => fil_lt hj⟩
    rw [m_X4_findRing_9, if_pos (nI_le (Nat.le_refl _) (by omega)), if_neg (nI_ge (a := 0) (b := (rmc r (r 0)).1) (by omega) (by omega)), X4_writeRing hv hne q1 q2 q3 hfu, Option.bind_some]
theorem X7_ringMany {r : Nat → Nat} {k : Nat → Int32} (hc : R0 r k) (hv : Iv r) {fu : Nat} (hfu : 1100 ≤ fu) : m_X7_ringMany fu k = some (nI (rmc r (r 0)).1) := by
  have b1 := hv.1.2
  unfold m_X7_ringMany
  refine for0 (fun fn i => m_X7_ringMany_4 fu k fn (nI (rmc r i).1) (nI i)) (r 0) _ fu (by omega) (fun fn i hi => ?_) (fun fn => ?_)
  · have hsg := sts_ge r i i
    have hok := rmc_ok r i
    have hle : (rmc r i).1 ≤ 10 := by
      by_cases h : (rmc r i).1 = 0
      · omega
      · have := (hok.2 h).2.2.1; omega
    rw [m_X7_ringMany_4, gd_nI (by omega) (by omega), nI_clamp (by omega), hc.1 0 (by omega) (by omega), if_neg (nI_ge hi (by omega)), X7_stepsTo hc hv hi hi hfu, Option.bind_some, rmc, n_1]
    by_cases h : sts r i i ≤ r 0
    · rw [if_pos h, if_neg (nI_m1 (by omega))]
      by_cases h0 : (rmc r i).1 = 0
      · rw [if_pos (by rw [h0]), if_pos ⟨h, Or.inl h0⟩]
      · rw [if_neg (fun z => h0 ((nI_eq (b := 0) (by omega) (by omega)).mp z))]
        by_cases h1 : sts r i i < (rmc r i).1
        · rw [if_neg (nI_ge h1 (by omega)), if_pos ⟨h, Or.inr h1⟩]
        · rw [if_pos (nI_le (by omega) (by omega)), if_neg (fun z => by rcases z.2 with z | z; exact h0 z; exact h1 z)]
    · rw [if_neg h, if_pos rfl, if_neg (fun z => h z.1)]
  · rw [m_X7_ringMany_4, gd_nI (by omega) (by omega), nI_clamp (by omega), hc.1 0 (by omega) (by omega), if_pos (nI_le (Nat.le_refl _) (by omega))]
/-- the next section of the ring, as the reference seeks it -/
theorem rg_next {r : Nat → Nat} (hv : Iv r) {L S : Nat} (hS : S < r 0) (hL : sts r S S = L) (hN : L ≤ r 0) {j v : Nat} (hj : j + 1 < L) (he : (nd r (rg r L S j)).testBit v = true) : (bw r S (L - (j + 1))).testBit v = true ↔ sts r v S = L - (j + 1) := by
  have hvl := ed_lt hv he
  obtain ⟨h1, h2, h3⟩ := rg_ok hv hS hL hN j (by omega)
  rw [bw_bit hv _ v hvl]
  constructor
  · intro h
    have hle := sts_le hv hvl (by omega) h
    rcases Nat.lt_or_ge (sts r v S) (L - (j + 1)) with q | q
    · have hw := sts_yes hv hvl (by omega : sts r v S ≤ r 0)
      have hcl := wk_app (j + 1) (sts r v S) S v S ((wk_last j S v).mpr ⟨_, h2, he⟩) hw
      have := sts_le hv hS (by omega) hcl
      omega
    · omega
  · intro h
    rw [← h]
    exact sts_yes hv hvl (by omega)
theorem X7_ring {r : Nat → Nat} {k : Nat → Int32} (hc : R0 r k) (hv : Iv r) {q fu : Nat} (hq : q < (rmc r (r 0)).1) (hfu : 1100 ≤ fu) : m_X7_ring fu k (nI q) = some (nI (rg r (rmc r (r 0)).1 (rmc r (r 0)).2 q)) := by
  have b1 := hv.1.2
  obtain ⟨q1, q2, q3, q4, q5⟩ := (rmc_ok r (r 0)).2 (by omega)
  generalize hL : (rmc r (r 0)).1 = L at *
  generalize hS : (rmc r (r 0)).2 = S at *
  have hm : (-1 : Int32) ≤ nI q := by
    have h1 := nI_pos' (n := q) (by omega)
    have h2 : (-1 : Int32) ≤ 0 := by decide +kernel
    exact Int32.le_trans h2 h1
  unfold m_X7_ring
  rw [if_pos hm, X7_ringMany hc hv hfu, Option.bind_some, if_neg (nI_m1 (by omega)), hL, if_pos (nI_lt hq (by omega))]
  refine for0 (fun fn i => m_X7_ring_29 fu k (nI q) (nI L) fn (nI i)) S _ fu (by omega) (fun fn i hi => ?_) (fun fn => ?_)
  · have h4 := q4 i hi
    have hsg := sts_ge r i i
    rw [m_X7_ring_29, X7_stepsTo hc hv (by omega) (by omega) hfu, Option.bind_some, n_1]
    rw [if_neg]
    split
    · exact fun z => by have := (nI_eq (by omega) (by omega)).mp z; omega
    · exact fun z => nI_m1 (by omega) z.symm
  · rw [m_X7_ring_29, X7_stepsTo hc hv q1 q1 hfu, Option.bind_some, if_pos (show sts r S S ≤ r 0 by omega), q2, if_pos rfl, pk_sub (by omega)]
    refine for0 (fun fm j => m_X7_ring_53 fu k (nI q) (nI L) (nI S) fm (nI (rg r L S j)) (nI (L - 1 - j))) q _ fu (by omega) (fun fm j hj => ?_) (fun fm => ?_)
    · have hj1 := (rg_ok hv q1 q2 q3 j (by omega)).1
      have hj2 := (rg_ok hv q1 q2 q3 (j + 1) (by omega)).1
      rw [m_X7_ring_53, pk_sub (by omega), if_neg (nI_nlt (by omega) (by omega))]
      refine for0 (fun fl v => m_X7_ring_64 fu k (nI S) (nI (rg r L S j)) (nI (L - 1 - j)) (m_X7_ring_53 fu k (nI q) (nI L) (nI S) fm) fl (nI v)) (rg r L S (j + 1)) _ fu (by omega) (fun fl v hvv => ?_) (fun fl => ?_)
      · have hnl := nd_lt hv (rg r L S j)
        have hp := p10 hv
        have hno := fnd_no (fun v => (nd r (rg r L S j) &&& bw r S (L - (j + 1))).testBit v) (r 0) 0 v (Nat.zero_le v) hvv
        have hno : (nd r (rg r L S j) &&& bw r S (L - (j + 1))).testBit v = false := hno
        rw [m_X7_ring_64, X7_needs hc hv (by omega) hfu, Option.bind_some, X7_has (by omega) (by omega), Option.bind_some, ib0, n_1]
        cases e : (nd r (rg r L S j)).testBit v with
        | false => rw [if_pos rfl]
        | true =>
          have hsg := sts_ge r v S
          rw [if_neg (by simp), X7_stepsTo hc hv (by omega) q1 hfu, Option.bind_some, if_neg]
          rw [Nat.testBit_and, e, Bool.true_and] at hno
          have hne : sts r v S ≠ L - (j + 1) := fun z => by rw [(rg_next hv q1 q2 q3 (by omega) e).mpr z] at hno; cases hno
          split
          · exact fun z => by have := (nI_eq (by omega) (by omega)).mp z; omega
          · exact fun z => nI_m1 (by omega) z.symm
      · have hnl := nd_lt hv (rg r L S j)
        have hp := p10 hv
        have hy := fnd_yes (fun v => (nd r (rg r L S j) &&& bw r S (L - (j + 1))).testBit v) (r 0) 0 (by rw [rg] at hj2; omega)
        have hy : (nd r (rg r L S j) &&& bw r S (L - (j + 1))).testBit (rg r L S (j + 1)) = true := hy
        rw [Nat.testBit_and, Bool.and_eq_true] at hy
        have hst := (rg_next hv q1 q2 q3 (by omega) hy.1).mp hy.2
        rw [m_X7_ring_64, X7_needs hc hv (by omega) hfu, Option.bind_some, X7_has (by omega) (by omega), Option.bind_some, ib0, if_neg (by rw [hy.1]; simp), X7_stepsTo hc hv hj2 q1 hfu, Option.bind_some, if_pos (by omega : sts r (rg r L S (j + 1)) S ≤ r 0), hst, if_pos (by rw [show L - (j + 1) = L - 1 - j by omega]), sb_m1 (by omega), show L - 1 - j - 1 = L - 1 - (j + 1) by omega]
    · rw [m_X7_ring_53, pk_sub (by omega), if_pos (nI_lt (by omega) (by omega))]
