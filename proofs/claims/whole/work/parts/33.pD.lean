/-! PURE D: notes -/
/-- the place of a term's note; r 0 if it has none -/
def np (r : Nat → Nat) (t : Nat) : Nat := fnd (fun p => er r (r (33 + p)) t) (r 0) 0
theorem np_le (r : Nat → Nat) (t : Nat) : np r t ≤ r 0 := by have := (fnd_le (fun p => er r (r (33 + p)) t) (r 0) 0).2; unfold np; omega
/-- what an early use at place p says -/
theorem er_at {r : Nat → Nat} (hv : Iv r) {p t : Nat} (hp : p < r 0) : er r (r (33 + p)) t = true ↔ (r (23 + r (33 + p))).testBit t = true ∧ r (11 + t) ≠ 0 ∧ p < pl r (r (11 + t) - 1) := by
  rw [er_iff, pl_eq hv hp]
theorem np_yes {r : Nat → Nat} (hv : Iv r) {t : Nat} (h : np r t < r 0) : (r (23 + r (33 + np r t))).testBit t = true ∧ r (11 + t) ≠ 0 ∧ np r t < pl r (r (11 + t) - 1) :=
  (er_at hv h).mp (fnd_yes (fun p => er r (r (33 + p)) t) (r 0) 0 (by unfold np at h; omega))
theorem np_no {r : Nat → Nat} {t p : Nat} (h : p < np r t) : er r (r (33 + p)) t = false := fnd_no (fun p => er r (r (33 + p)) t) (r 0) 0 p (Nat.zero_le p) h
theorem np_use {r : Nat → Nat} (hv : Iv r) {t p : Nat} (h : p < np r t) (h0 : r (11 + t) ≠ 0) (hh : p < pl r (r (11 + t) - 1)) : (r (23 + r (33 + p))).testBit t = false := by
  cases e : (r (23 + r (33 + p))).testBit t with
  | false => rfl
  | true =>
    have h1 := np_no h
    have h2 := np_le r t
    rw [(er_at hv (by omega)).mpr ⟨e, h0, hh⟩] at h1
    cases h1
theorem np_0 {r : Nat → Nat} {t : Nat} (h0 : r (11 + t) = 0) : np r t = r 0 := by
  have := fnd_none (P := fun p => er r (r (33 + p)) t) (d := r 0) (i := 0) (fun j _ _ => by simp [er, h0])
  unfold np
  omega
/-- a term's note lies in a section -/
def nsec (r : Nat → Nat) (t : Nat) : Int32 := if np r t < r 0 then nI (r (33 + np r t)) else (-1 : Int32)
theorem X7_noteOf {r : Nat → Nat} {k : Nat → Int32} (hc : R0 r k) (hv : Iv r) {t fu : Nat} (ht : t < 12) (hfu : 1100 ≤ fu) : m_X7_noteOf fu k (nI t) = some (nsec r t) := by
  have b1 := hv.1.2
  have b2 := np_le r t
  unfold m_X7_noteOf
  refine for0 (fun fn i => m_X7_noteOf_2 fu k (nI t) fn (nI i)) (np r t) _ fu (by omega) (fun fn i hi => ?_) (fun fn => ?_)
  · have hoi := hv.2.2.2.2.1 i (by omega)
    have hl := ear_lt r (r (33 + i))
    rw [m_X7_noteOf_2, gd_nI (by omega) (by omega), nI_clamp (by omega), hc.1 0 (by omega) (by omega), if_neg (nI_ge (by omega) (by omega)), nI_add, gd_nI (by omega) (by omega), nI_clamp (by omega), hc.1 (33 + i) (by omega) (by omega), X7_earlyIn hc hv hoi hfu, Option.bind_some, X7_has (by omega) (by omega), Option.bind_some, n_1, ib0]
    rw [if_pos]
    unfold ear
    rw [bs_bit, decide_eq_true ht, np_no hi]; rfl
  · rw [m_X7_noteOf_2, gd_nI (by omega) (by omega), nI_clamp (by omega), hc.1 0 (by omega) (by omega)]
    unfold nsec
    by_cases h : np r t < r 0
    · have hoi := hv.2.2.2.2.1 (np r t) h
      have hl := ear_lt r (r (33 + np r t))
      have hy := (er_at hv h).mpr (np_yes hv h)
      rw [if_neg (nI_ge h (by omega)), if_pos h, nI_add, gd_nI (by omega) (by omega), nI_clamp (by omega), hc.1 (33 + np r t) (by omega) (by omega), X7_earlyIn hc hv hoi hfu, Option.bind_some, X7_has (by omega) (by omega), Option.bind_some, ib0]
      rw [if_neg, gd_nI (by omega) (by omega)]
      unfold ear
      rw [bs_bit, decide_eq_true ht, hy]; simp
    · rw [if_pos (nI_le (by omega) (by omega)), if_neg h]
theorem X3_noteSection {r : Nat → Nat} {n : Int32} {L U H O B : Nat → Int32} (hc : CM r n L U H O B) (hv : Iv r) {t fu : Nat} (ht : t < 12) (hfu : 1100 ≤ fu) : m_X3_noteSection fu n U H O (nI t) = some (nsec r t) := by
  obtain ⟨rfl, -, hU, hH, hO, -⟩ := hc
  have b1 := hv.1.2
  have b2 := np_le r t
  have hh := hv.2.2.1 t ht
  unfold m_X3_noteSection
  rw [gd_nI (by omega) (by omega), nI_clamp (by omega), hH t ht]
  by_cases e0 : r (11 + t) = 0
  · rw [if_pos ((hI_m1 (by omega)).mpr e0)]
    unfold nsec
    rw [np_0 e0, if_neg (by omega)]
  · rw [if_neg (fun z => e0 ((hI_m1 (by omega)).mp z)), hI_pos e0]
    obtain ⟨g1, g2⟩ := pl_lt hv (s := r (11 + t) - 1) (by omega)
    have hb : (if np r t < r 0 then np r t else pl r (r (11 + t) - 1)) < r 0 := by split <;> omega
    refine for0 (fun fn i => m_X3_noteSection_16 (nI (r 0)) U O (nI t) (nI (r (11 + t) - 1)) fn (nI i)) (if np r t < r 0 then np r t else pl r (r (11 + t) - 1)) _ fu (by omega) (fun fn i hi => ?_) (fun fn => ?_)
    · have hn : i < np r t ∧ i < pl r (r (11 + t) - 1) := by
        by_cases h : np r t < r 0
        · have := (np_yes hv h).2.2
          rw [if_pos h] at hi
          omega
        · rw [if_neg h] at hi
          omega
      have hoi := hv.2.2.2.2.1 i (by omega)
      rw [m_X3_noteSection_16, if_neg (nI_ge (by omega) (by omega)), gd_nI (by omega) (by omega), nI_clamp (by omega), hO i (by omega), n_1]
      rw [if_neg]
      · rw [gd_nI (by omega) (by omega), gd_nI (by omega) (by omega), nI_clamp (by omega), hU _ (by omega), X6_has (by omega), Option.bind_some, ib0, if_pos (np_use hv hn.1 e0 hn.2)]
      · intro z
        have z := (nI_eq (by omega) (by omega)).mp z
        have h5 := pl_eq hv (p := i) (by omega)
        rw [z] at h5
        omega
    · unfold nsec
      by_cases h : np r t < r 0
      · obtain ⟨y1, y2, y3⟩ := np_yes hv h
        have hoi := hv.2.2.2.2.1 (np r t) h
        rw [if_pos h, if_pos h, m_X3_noteSection_16, if_neg (nI_ge h (by omega)), gd_nI (by omega) (by omega), nI_clamp (by omega), hO _ (by omega)]
        rw [if_neg]
        · rw [gd_nI (by omega) (by omega), gd_nI (by omega) (by omega), nI_clamp (by omega), hU _ (by omega), X6_has (by omega), Option.bind_some, ib0, if_neg (by rw [y1]; simp), gd_nI (by omega) (by omega)]
        · intro z
          have z := (nI_eq (by omega) (by omega)).mp z
          have h5 := pl_eq hv (p := np r t) h
          rw [z] at h5
          omega
      · rw [if_neg h, if_neg h, m_X3_noteSection_16, if_neg (nI_ge g1 (by omega)), gd_nI (by omega) (by omega), nI_clamp (by omega), hO _ (by omega), g2, if_pos rfl]
/-- the terms that have notes -/
def nts (r : Nat → Nat) : Nat := bs (fun t => decide (np r t < r 0)) 12
theorem nts_lt (r : Nat → Nat) : nts r < 4096 := bs_lt _ 12
theorem cnt_bs (P : Nat → Bool) : cnt (bs P 12) = sm (fun t => (P t).toNat) 12 := by
  unfold cnt
  apply sm_congr
  intro i hi
  rw [bs_bit, decide_eq_true hi]; rfl
theorem nsec_m1 {r : Nat → Nat} (hv : Iv r) (t : Nat) : (nsec r t = (-1 : Int32)) ↔ ¬ np r t < r 0 := by
  unfold nsec
  have b1 := hv.1.2
  by_cases h : np r t < r 0
  · have := hv.2.2.2.2.1 _ h
    rw [if_pos h]
    exact ⟨fun z => absurd z (nI_m1 (by omega)), fun z => absurd h z⟩
  · rw [if_neg h]
    simp [h]
theorem X7_notesMany {r : Nat → Nat} {k : Nat → Int32} (hc : R0 r k) (hv : Iv r) {fu : Nat} (hfu : 1100 ≤ fu) : m_X7_notesMany fu k = some (nI (cnt (nts r))) := by
  unfold m_X7_notesMany nts
  rw [cnt_bs]
  refine for0 (fun fn i => m_X7_notesMany_4 fu k fn (nI (sm (fun t => (decide (np r t < r 0)).toNat) i)) (nI i)) 12 _ fu (by omega) (fun fn i hi => ?_) (fun fn => ?_)
  · rw [m_X7_notesMany_4, if_neg (nI_ge hi (by omega)), X7_noteOf hc hv hi hfu, Option.bind_some, n_1, sm]
    by_cases h : np r i < r 0
    · rw [if_neg (fun z => ((nsec_m1 hv i).mp z) h), decide_eq_true h, nI_add]; rfl
    · rw [if_pos ((nsec_m1 hv i).mpr h), decide_eq_false h, nI_add]; rfl
  · rw [m_X7_notesMany_4, if_pos (nI_le (Nat.le_refl _) (by omega))]
theorem X3_notedTerms {r : Nat → Nat} {n : Int32} {L U H O B w : Nat → Int32} (hc : CM r n L U H O B) (hw : ∀ p, p < r 0 → w p = nI (r (33 + p))) (hv : Iv r) {fu : Nat} (hfu : 1100 ≤ fu) : m_X3_notedTerms fu n U H w = some (nI (nts r)) := by
  have hT := fun {q : Nat} (hq : q < 1000) => X3_termsAtHome (s := q) hc hv hq hfu
  obtain ⟨rfl, -, hU, -, -, -⟩ := hc
  have b1 := hv.1.2
  unfold m_X3_notedTerms
  refine for0 (fun fn i => m_X3_notedTerms_7 fu (nI (r 0)) U H w fn (nI (orf (fun j => orf (fun q => r (23 + r (33 + q))) j &&& tah r (r (33 + j))) i)) (nI (orf (fun q => r (23 + r (33 + q))) i)) (nI i)) (r 0) _ fu (by omega) (fun fn i hi => ?_) (fun fn => ?_)
  · have hoi := hv.2.2.2.2.1 i hi
    rw [m_X3_notedTerms_7, if_neg (nI_ge hi (by omega)), gd_nI (by omega) (by omega), nI_clamp (by omega), hw i hi, hT (by omega), Option.bind_some, gd_nI (by omega) (by omega), nI_clamp (by omega), hU _ (by omega), n_and, n_or, n_or, n_1, orf, orf]
  · rw [m_X3_notedTerms_7, if_pos (nI_le (Nat.le_refl _) (by omega))]
    congr 2
    unfold nts
    apply bs_ext
    intro t
    rw [Bool.eq_iff_iff, orf_bit, Bool.and_eq_true, decide_eq_true_eq, decide_eq_true_eq]
    constructor
    · rintro ⟨j, hj, h⟩
      rw [Nat.testBit_and, Bool.and_eq_true, orf_bit, tah_bit] at h
      obtain ⟨⟨q, hq, h1⟩, h2, h3⟩ := h
      refine ⟨h2, ?_⟩
      rcases Nat.lt_or_ge (np r t) (r 0) with h4 | h4
      · exact h4
      · have h5 := np_use hv (t := t) (p := q) (by omega) (by omega) (by rw [h3, Nat.add_sub_cancel, pl_eq hv hj]; exact hq)
        rw [h5] at h1
        cases h1
    · rintro ⟨h1, h2⟩
      obtain ⟨y1, y2, y3⟩ := np_yes hv h2
      have hh := hv.2.2.1 t h1
      obtain ⟨g1, g2⟩ := pl_lt hv (s := r (11 + t) - 1) (by omega)
      refine ⟨pl r (r (11 + t) - 1), g1, ?_⟩
      rw [Nat.testBit_and, Bool.and_eq_true, orf_bit, tah_bit, g2]
      exact ⟨⟨np r t, y3, y1⟩, h1, by omega⟩
theorem X3_countNotes {r : Nat → Nat} {n : Int32} {L U H O B w : Nat → Int32} (hc : CM r n L U H O B) (hw : ∀ p, p < r 0 → w p = nI (r (33 + p))) (hv : Iv r) {fu : Nat} (hfu : 1100 ≤ fu) : m_X3_countNotes fu n U H w = some (nI (cnt (nts r))) := by
  unfold m_X3_countNotes
  rw [X3_notedTerms hc hw hv hfu, Option.bind_some, J6_bitCount (nts_lt r)]
  rfl
theorem X3_notesIn {r : Nat → Nat} {n : Int32} {L U H O B : Nat → Int32} (hc : CM r n L U H O B) (hv : Iv r) {s fu : Nat} (hs : s < r 0) (hfu : 1100 ≤ fu) : m_X3_notesIn fu n U H O (nI s) = some (nI (bs (fun t => decide (nsec r t = nI s)) 12)) := by
  unfold m_X3_notesIn
  refine for0 (fun fn i => m_X3_notesIn_4 fu n U H O (nI s) fn (nI (bs (fun t => decide (nsec r t = nI s)) i)) (nI i)) 12 _ fu (by omega) (fun fn i hi => ?_) (fun fn => ?_)
  · rw [m_X3_notesIn_4, if_neg (nI_ge hi (by omega)), X3_noteSection hc hv hi hfu, Option.bind_some, n_1, bs]
    by_cases h : nsec r i = nI s
    · rw [if_pos h, X6_with (by omega), Option.bind_some, decide_eq_true h]; rfl
    · rw [if_neg h, decide_eq_false h, if_neg (by simp), Nat.or_zero]
  · rw [m_X3_notesIn_4, if_pos (nI_le (Nat.le_refl _) (by omega))]
theorem X7_notesIn {r : Nat → Nat} {k : Nat → Int32} (hc : R0 r k) (hv : Iv r) {s fu : Nat} (hs : s < r 0) (hfu : 1100 ≤ fu) : m_X7_notesIn fu k (nI s) = some (nI (bs (fun t => decide (nsec r t = nI s)) 12)) := by
  unfold m_X7_notesIn
  refine for0 (fun fn i => m_X7_notesIn_4 fu k (nI s) fn (nI (bs (fun t => decide (nsec r t = nI s)) i)) (nI i)) 12 _ fu (by omega) (fun fn i hi => ?_) (fun fn => ?_)
  · rw [m_X7_notesIn_4, if_neg (nI_ge hi (by omega)), X7_noteOf hc hv hi hfu, Option.bind_some, n_1, bs]
    by_cases h : nsec r i = nI s
    · rw [if_pos h, n_bit (by omega), n_or, decide_eq_true h]; rfl
    · rw [if_neg h, n_or, decide_eq_false h]; rfl
  · rw [m_X7_notesIn_4, if_pos (nI_le (Nat.le_refl _) (by omega))]
/-- the length of a term's note -/
def nlf (r : Nat → Nat) (t : Nat) : Nat → Nat := fun j => r (1 + r (33 + (np r t + j)))
def nl (r : Nat → Nat) (t : Nat) : Nat := if np r t < r 0 then sm (nlf r t) (pl r (r (11 + t) - 1) - np r t) else 0
theorem X7_lasts {r : Nat → Nat} {k : Nat → Int32} (hc : R0 r k) (hv : Iv r) {t fu : Nat} (ht : t < 12) (hfu : 1100 ≤ fu) : m_X7_lasts fu k (nI t) = some (nI (nl r t)) := by
  have b1 := hv.1.2
  have hh := hv.2.2.1 t ht
  unfold m_X7_lasts
  rw [X7_noteOf hc hv ht hfu, Option.bind_some]
  by_cases h : np r t < r 0
  · rw [if_neg (fun z => ((nsec_m1 hv t).mp z) h)]
    obtain ⟨y1, y2, y3⟩ := np_yes hv h
    have hoi := hv.2.2.2.2.1 (np r t) h
    obtain ⟨g1, g2⟩ := pl_lt hv (s := r (11 + t) - 1) (by omega)
    rw [show nsec r t = nI (r (33 + np r t)) from if_pos h, X7_placeOf hc hv hoi hfu, Option.bind_some, pl_eq hv h]
    unfold nl
    rw [if_pos h, show nI 0 = nI (sm (nlf r t) (np r t - np r t)) by rw [Nat.sub_self]; rfl]
    refine forA (fun fn i => m_X7_lasts_29 k (nI t) fn (nI (sm (nlf r t) (i - np r t))) (nI i)) (np r t) (pl r (r (11 + t) - 1)) _ fu (by omega) (by omega) (fun fn i ha hi => ?_) (fun fn => ?_)
    · have ho2 := hv.2.2.2.2.1 i (by omega)
      rw [m_X7_lasts_29, gd_nI (by omega) (by omega), nI_clamp (by omega), hc.1 0 (by omega) (by omega), if_neg (nI_ge (by omega) (by omega)), nI_add, gd_nI (by omega) (by omega), nI_add, gd_nI (by omega) (by omega), nI_clamp (by omega), nI_clamp (by omega), hc.1 (33 + i) (by omega) (by omega), hc.2 t ht, n_1]
      rw [if_neg]
      · rw [gd_nI (by omega) (by omega), nI_add, gd_nI (by omega) (by omega), nI_clamp (by omega), hc.1 (1 + r (33 + i)) (by omega) (by omega), nI_add, show i + 1 - np r t = (i - np r t) + 1 by omega, sm]
        unfold nlf
        rw [show np r t + (i - np r t) = i by omega]
      · rw [hI_pos y2]
        intro z
        have z := (nI_eq (by omega) (by omega)).mp z
        have h5 := pl_eq hv (p := i) (by omega)
        rw [z] at h5
        omega
    · rw [m_X7_lasts_29, gd_nI (by omega) (by omega), nI_clamp (by omega), hc.1 0 (by omega) (by omega), if_neg (nI_ge (by omega) (by omega)), nI_add, gd_nI (by omega) (by omega), nI_add, gd_nI (by omega) (by omega), nI_clamp (by omega), nI_clamp (by omega), hc.1 (33 + _) (by omega) (by omega), hc.2 t ht, g2, hI_pos y2, if_pos rfl]
  · rw [if_pos ((nsec_m1 hv t).mpr h), gd_nI (by omega) (by omega), nI_clamp (by omega), hc.1 0 (by omega) (by omega)]
    obtain ⟨f, rfl⟩ : ∃ f, fu = f + 1 := ⟨fu - 1, by omega⟩
    rw [m_X7_lasts_29, gd_nI (by omega) (by omega), nI_clamp (by omega), hc.1 0 (by omega) (by omega), if_pos (nI_le (Nat.le_refl _) (by omega))]
    unfold nl
    rw [if_neg h]
theorem X3_noteLength {r : Nat → Nat} {n : Int32} {L U H O B w : Nat → Int32} (hc : CM r n L U H O B) (hw : ∀ p, p < r 0 → w p = nI (r (33 + p))) (hv : Iv r) {t fu : Nat} (ht : t < 12) (hfu : 1100 ≤ fu) : m_X3_noteLength fu n L U H w (nI t) = some (nI (nl r t)) := by
  obtain ⟨rfl, hL, hU, hH, -, -⟩ := hc
  have b1 := hv.1.2
  have hh := hv.2.2.1 t ht
  have b2 := np_le r t
  unfold m_X3_noteLength
  rw [gd_nI (by omega) (by omega), nI_clamp (by omega), hH t ht]
  by_cases e0 : r (11 + t) = 0
  · rw [if_pos ((hI_m1 (by omega)).mpr e0)]
    unfold nl
    rw [np_0 e0, if_neg (by omega)]
  · rw [if_neg (fun z => e0 ((hI_m1 (by omega)).mp z)), hI_pos e0]
    obtain ⟨g1, g2⟩ := pl_lt hv (s := r (11 + t) - 1) (by omega)
    refine for0 (fun fn i => m_X3_noteLength_23 (nI (r 0)) L U w (nI t) (nI (r (11 + t) - 1)) fn (nI (if np r t < i then sm (nlf r t) (i - np r t) else 0)) (nI (decide (np r t < i)).toNat) (nI i)) (pl r (r (11 + t) - 1)) _ fu (by omega) (fun fn i hi => ?_) (fun fn => ?_)
    · have hoi := hv.2.2.2.2.1 i (by omega)
      rw [m_X3_noteLength_23, if_neg (nI_ge (by omega) (by omega)), gd_nI (by omega) (by omega), nI_clamp (by omega), hw i (by omega)]
      rw [if_neg]
      · rw [gd_nI (by omega) (by omega), ib0]
        unfold m_X3_noteLength_70
        rcases Nat.lt_trichotomy (np r t) i with h | h | h
        · rw [decide_eq_true h, if_neg (by simp), if_neg (by decide +kernel), gd_nI (by omega) (by omega), nI_clamp (by omega), hL _ (by omega), if_pos h, if_pos (show np r t < i + 1 by omega), decide_eq_true (show np r t < i + 1 by omega), nI_add, n_1, show i + 1 - np r t = (i - np r t) + 1 by omega, sm]
          unfold nlf
          rw [show np r t + (i - np r t) = i by omega]
          rfl
        · have hu : (r (23 + r (33 + i))).testBit t = true := by rw [← h]; exact (np_yes hv (by omega)).1
          rw [decide_eq_false (by omega), if_pos rfl, gd_nI (by omega) (by omega), nI_clamp (by omega), hU _ (by omega), X6_has (by omega), Option.bind_some, ib0, if_neg (by rw [hu]; simp), if_neg (by decide +kernel), gd_nI (by omega) (by omega), hL _ (by omega), if_neg (by omega), if_pos (show np r t < i + 1 by omega), decide_eq_true (show np r t < i + 1 by omega), nI_add, n_1, show i + 1 - np r t = 0 + 1 by omega, sm, sm]
          unfold nlf
          rw [show np r t + 0 = i by omega]
          rfl
        · rw [decide_eq_false (by omega), if_pos rfl, gd_nI (by omega) (by omega), nI_clamp (by omega), hU _ (by omega), X6_has (by omega), Option.bind_some, ib0, if_pos (np_use hv h e0 hi), if_pos rfl, if_neg (by omega), if_neg (show ¬ np r t < i + 1 by omega), decide_eq_false (show ¬ np r t < i + 1 by omega), n_1]
          rfl
      · intro z
        have z := (nI_eq (by omega) (by omega)).mp z
        have h5 := pl_eq hv (p := i) (by omega)
        rw [z] at h5
        omega
    · rw [m_X3_noteLength_23, if_neg (nI_ge g1 (by omega)), gd_nI (by omega) (by omega), nI_clamp (by omega), hw _ (by omega), g2, if_pos rfl]
      unfold nl
      by_cases h : np r t < r 0
      · have := (np_yes hv h).2.2
        rw [if_pos this, if_pos h]
      · rw [if_neg (by omega), if_neg h]
theorem X3_sumNoteLengths {r : Nat → Nat} {n : Int32} {L U H O B w : Nat → Int32} (hc : CM r n L U H O B) (hw : ∀ p, p < r 0 → w p = nI (r (33 + p))) (hv : Iv r) {fu : Nat} (hfu : 1100 ≤ fu) : m_X3_sumNoteLengths fu n L U H w = some (nI (sm (nl r) 12)) := by
  unfold m_X3_sumNoteLengths
  refine for0 (fun fn i => m_X3_sumNoteLengths_4 fu n L U H w fn (nI (sm (nl r) i)) (nI i)) 12 _ fu (by omega) (fun fn i hi => ?_) (fun fn => ?_)
  · rw [m_X3_sumNoteLengths_4, if_neg (nI_ge hi (by omega)), X3_noteLength hc hw hv hi hfu, Option.bind_some, nI_add, n_1, sm]
  · rw [m_X3_sumNoteLengths_4, if_pos (nI_le (Nat.le_refl _) (by omega))]
theorem X7_lastsAll {r : Nat → Nat} {k : Nat → Int32} (hc : R0 r k) (hv : Iv r) {fu : Nat} (hfu : 1100 ≤ fu) : m_X7_lastsAll fu k = some (nI (sm (nl r) 12)) := by
  unfold m_X7_lastsAll
  refine for0 (fun fn i => m_X7_lastsAll_4 fu k fn (nI (sm (nl r) i)) (nI i)) 12 _ fu (by omega) (fun fn i hi => ?_) (fun fn => ?_)
  · rw [m_X7_lastsAll_4, if_neg (nI_ge hi (by omega)), X7_lasts hc hv hi hfu, Option.bind_some, nI_add, n_1, sm]
  · rw [m_X7_lastsAll_4, if_pos (nI_le (Nat.le_refl _) (by omega))]
