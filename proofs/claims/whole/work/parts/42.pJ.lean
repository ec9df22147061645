/-! PURE J: the next section of the best order, the reference's order -/
def isn (r : Nat → Nat) (P s : Nat) : Bool := can r P s && decide (ky r (tb r) P s = tb r P)
def nxp (r : Nat → Nat) (P : Nat) : Nat := fnd (fun p => isn r P (r (33 + p))) (r 0) 0
def nx (r : Nat → Nat) (P : Nat) : Nat := r (33 + nxp r P)
def bp (r : Nat → Nat) : Nat → Nat
  | 0 => 0
  | i + 1 => bp r i ||| 2 ^ nx r (bp r i)
def bo (r : Nat → Nat) (i : Nat) : Nat := nx r (bp r i)
theorem nxp_lt {r : Nat → Nat} (hv : Iv r) (hp : Pr r) {P : Nat} (hP : P < AA r) : nxp r P < r 0 ∧ isn r P (nx r P) = true ∧ nx r P < r 0 := by
  obtain ⟨-, -, h3⟩ := tb_ok hv hp (AA r - P) P (by omega)
  obtain ⟨-, s, hs, hc, he⟩ := h3 (by omega)
  obtain ⟨g1, g2⟩ := pl_lt hv hs
  have hlt : nxp r P < r 0 := by
    rcases Nat.lt_or_ge (nxp r P) (r 0) with q | q
    · exact q
    · have := fnd_no (fun p => isn r P (r (33 + p))) (r 0) 0 (pl r s) (Nat.zero_le _) (by unfold nxp at q; omega)
      rw [g2] at this
      unfold isn at this
      rw [hc, decide_eq_true he.symm] at this
      cases this
  exact ⟨hlt, fnd_yes (fun p => isn r P (r (33 + p))) (r 0) 0 (by unfold nxp at hlt; omega), hv.2.2.2.2.1 _ hlt⟩
theorem isn_can {r : Nat → Nat} {P s : Nat} (h : isn r P s = true) : can r P s = true := by
  unfold isn at h
  rw [Bool.and_eq_true] at h
  exact h.1
theorem bp_ok {r : Nat → Nat} (hv : Iv r) (hp : Pr r) : ∀ i, i ≤ r 0 → bp r i ≤ AA r ∧ un r (bp r i) (r 0) + i = r 0 ∧ (i < r 0 → bp r i < AA r)
  | 0, _ => by
    have h1 : un r 0 (r 0) = r 0 := by
      have : ∀ n, un r 0 n = n := by
        intro n
        induction n with
        | zero => rfl
        | succ n ih => unfold un at ih ⊢; rw [sm, ih]; unfold ip; rw [Nat.zero_testBit]; rfl
      exact this _
    have := AAp hv
    exact ⟨Nat.zero_le _, by rw [bp, h1]; omega, fun _ => by rw [bp]; omega⟩
  | i + 1, hi => by
    obtain ⟨h1, h2, h3⟩ := bp_ok hv hp i (by omega)
    obtain ⟨g1, g2, g3⟩ := nxp_lt hv hp (h3 (by omega))
    have hb := (can_iff.mp (isn_can g2)).1
    have hu := un_set hv g1 (P := bp r i) (by unfold ip; exact hb) (r 0) (Nat.le_refl _)
    rw [if_pos g1] at hu
    have hu : un r (bp r i ||| 2 ^ nx r (bp r i)) (r 0) + 1 = un r (bp r i) (r 0) := hu
    have hle := or_le (r := r) h1 g3
    rw [bp]
    refine ⟨hle, by omega, fun h => ?_⟩
    rcases Nat.lt_or_ge (bp r i ||| 2 ^ nx r (bp r i)) (AA r) with q | q
    · exact q
    · have e : bp r i ||| 2 ^ nx r (bp r i) = AA r := Nat.le_antisymm hle q
      have h4 : un r (AA r) (r 0) = 0 := by
        have : ∀ n, n ≤ r 0 → un r (AA r) n = 0 := by
          intro n
          induction n with
          | zero => intro _; rfl
          | succ n ih =>
            intro hn
            have := ih (by omega)
            unfold un at this ⊢
            rw [sm, this]
            unfold ip AA
            rw [Nat.testBit_two_pow_sub_one, decide_eq_true (hv.2.2.2.2.1 n (by omega))]
            rfl
        exact this _ (Nat.le_refl _)
      rw [e, h4] at hu
      omega
/-- what stands before a place of the best order -/
theorem bp_bit {r : Nat → Nat} {i s : Nat} : (bp r i).testBit s = true ↔ ∃ j, j < i ∧ bo r j = s := by
  induction i with
  | zero => simp [bp]
  | succ i ih =>
    rw [bp, Nat.testBit_or, Bool.or_eq_true, ih, Nat.testBit_two_pow, decide_eq_true_eq]
    constructor
    · rintro (⟨j, h1, h2⟩ | h)
      · exact ⟨j, by omega, h2⟩
      · exact ⟨i, by omega, h⟩
    · rintro ⟨j, h1, h2⟩
      by_cases e : j = i
      · subst e; exact Or.inr h2
      · exact Or.inl ⟨j, by omega, h2⟩
theorem bo_ok {r : Nat → Nat} (hv : Iv r) (hp : Pr r) {i : Nat} (hi : i < r 0) : bo r i < r 0 ∧ can r (bp r i) (bo r i) = true := by
  obtain ⟨g1, g2, g3⟩ := nxp_lt hv hp ((bp_ok hv hp i (by omega)).2.2 hi)
  exact ⟨g3, isn_can g2⟩
theorem bo_inj {r : Nat → Nat} (hv : Iv r) (hp : Pr r) : ∀ i j, i < r 0 → j < r 0 → bo r i = bo r j → i = j := by
  have key : ∀ i j, i < j → j < r 0 → bo r i ≠ bo r j := by
    intro i j hij hj h
    have h1 := (can_iff.mp (bo_ok hv hp hj).2).1
    rw [bp_bit.mpr ⟨i, hij, h⟩] at h1
    cases h1
  intro i j hi hj h
  rcases Nat.lt_trichotomy i j with q | q | q
  · exact absurd h (key i j q hj)
  · exact q
  · exact absurd h.symm (key j i q hi)
theorem X7_isNext {r : Nat → Nat} {k no tu : Nat → Int32} (hc : R0 r k) (hv : Iv r) (hp : Pr r) (hno : ∀ Q, Q ≤ AA r → no Q = nI (tb r Q).1) (htu : ∀ Q, Q ≤ AA r → tu Q = nI (tb r Q).2) {s P fu : Nat} (hs : s < r 0) (hP : P < AA r) (hfu : 1100 ≤ fu) : m_X7_isNext fu k no tu (nI s) (nI P) = some (nI (isn r P s).toNat) := by
  have b1 := hv.1.2
  obtain ⟨a1, a2, a3⟩ := AAp hv
  unfold m_X7_isNext isn
  rw [X7_canStand hc hv (by omega) (by omega), Option.bind_some, ib0]
  cases ec : can r P s with
  | false => rw [if_pos rfl]; rfl
  | true =>
    have hle := or_le (r := r) (Nat.le_of_lt hP) hs
    have hkb := ky_bd hv hp (Nat.le_of_lt hP) hs
    have htb := tb_bd hv hp (Nat.le_of_lt hP)
    have hcl := nset_lt r P s
    have e1 : cnt (nset r P s) + (tb r (P ||| 2 ^ s)).1 = (ky r (tb r) P s).1 := rfl
    have e2 : un r P (pl r s) + (tb r (P ||| 2 ^ s)).2 = (ky r (tb r) P s).2 := rfl
    rw [if_neg (by simp), X7_noted hc hv (by omega) (by omega) hfu, Option.bind_some, X7_ones (by omega) hfu, Option.bind_some, n_bit (by omega), n_or, gd_nI (by omega) (by omega), gd_nI (by omega) (by omega), nI_clamp (by omega), nI_clamp (by omega), hno _ hle, hno _ (Nat.le_of_lt hP), nI_add, e1, Bool.true_and]
    by_cases c1 : (ky r (tb r) P s).1 = (tb r P).1
    · rw [if_pos (by rw [c1]), X7_turned hc hv hs (by omega) hfu, Option.bind_some, gd_nI (by omega) (by omega), gd_nI (by omega) (by omega), htu _ hle, htu _ (Nat.le_of_lt hP), nI_add, e2]
      by_cases c2 : (ky r (tb r) P s).2 = (tb r P).2
      · rw [if_pos (by rw [c2]), decide_eq_true (Prod.ext c1 c2)]; rfl
      · rw [if_neg (fun z => c2 ((nI_eq (by omega) (by omega)).mp z)), decide_eq_false (fun z => c2 (by rw [z]))]; rfl
    · rw [if_neg (fun z => c1 ((nI_eq (by omega) (by omega)).mp z)), decide_eq_false (fun z => c1 (by rw [z]))]; rfl
theorem X7_lays {r : Nat → Nat} {k : Nat → Int32} (hc : R0 r k) (hv : Iv r) (hp : Pr r) {fu : Nat} (hfu : 1100 ≤ fu) (nu no tu : Nat → Int32) : ∃ no' tu', (∀ Q, Q ≤ AA r → no' Q = nI (tb r Q).1) ∧ (∀ Q, Q ≤ AA r → tu' Q = nI (tb r Q).2) ∧ m_X7_lays fu k nu no tu = some (fil (fun i => nI (bo r i)) nu (r 0), no', tu') := by
  have b1 := hv.1.2
  obtain ⟨a1, a2, a3⟩ := AAp hv
  obtain ⟨no', tu', g1, g2, g3⟩ := X7_finds hc hv hp hfu no tu
  refine ⟨no', tu', g1, g2, ?_⟩
  unfold m_X7_lays
  rw [g3, Option.bind_some]
  have key := for0 (fun fn i => m_X7_lays_8 fu k no' tu' fn (fil (fun i => nI (bo r i)) nu i) (nI (bp r i)) (nI i)) (r 0) (some (fil (fun i => nI (bo r i)) nu (r 0), no', tu')) fu (by omega) (fun fn i hi => by
    have hP := (bp_ok hv hp i (by omega)).2.2 hi
    obtain ⟨q1, q2, q3⟩ := nxp_lt hv hp hP
    rw [m_X7_lays_8, gd_nI (by omega) (by omega), nI_clamp (by omega), hc.1 0 (by omega) (by omega), if_neg (nI_ge hi (by omega))]
    refine for0 (fun fm p => m_X7_lays_20 fu k (fil (fun i => nI (bo r i)) nu i) no' tu' (nI (bp r i)) (nI i) (m_X7_lays_8 fu k no' tu' fn) fm (nI p)) (nxp r (bp r i)) _ fu (by omega) (fun fm p hpp => ?_) (fun fm => ?_)
    · have ho := hv.2.2.2.2.1 p (by omega)
      rw [m_X7_lays_20, nI_add, gd_nI (by omega) (by omega), nI_clamp (by omega), hc.1 (33 + p) (by omega) (by omega), X7_isNext hc hv hp g1 g2 ho hP hfu, Option.bind_some, ib0, if_pos (fnd_no (fun p => isn r (bp r i) (r (33 + p))) (r 0) 0 p (Nat.zero_le _) hpp), n_1]
    · have ho : r (33 + nxp r (bp r i)) = nx r (bp r i) := rfl
      rw [m_X7_lays_20, nI_add, gd_nI (by omega) (by omega), nI_clamp (by omega), hc.1 (33 + nxp r (bp r i)) (by omega) (by omega), ho, X7_isNext hc hv hp g1 g2 q3 hP hfu, Option.bind_some, ib0, if_neg (by rw [q2]; simp), gd_nI (by omega) (by omega), gd_nI (by omega) (by omega), gd_nI (by omega) (by omega), nI_clamp (by omega), pk_us]
      unfold nm
      rw [n_bit (by omega), n_or, n_1, show nI (nx r (bp r i)) = (fun i => nI (bo r i)) i from rfl, fil_s]
      rfl) (fun fn => by
    rw [m_X7_lays_8, gd_nI (by omega) (by omega), nI_clamp (by omega), hc.1 0 (by omega) (by omega), if_pos (nI_le (Nat.le_refl _) (by omega))])
  rw [fil_0] at key
  exact key
/-! the class's search -/
def sn (r : Nat → Nat) (P : Nat) : Nat := orf (fun s => if P.testBit s then r (23 + s) else 0) (r 0)
theorem sn_add {r : Nat → Nat} {j s : Nat} (hj : j < 2 ^ s) (hs : s < r 0) : sn r (j ||| 2 ^ s) = sn r j ||| r (23 + s) := by
  apply Nat.eq_of_testBit_eq
  intro t
  rw [Nat.testBit_or, Bool.eq_iff_iff, Bool.or_eq_true]
  unfold sn
  rw [orf_bit, orf_bit]
  constructor
  · rintro ⟨q, hq, h⟩
    split at h
    · rename_i h1
      rw [Nat.testBit_or, Bool.or_eq_true, Nat.testBit_two_pow, decide_eq_true_eq] at h1
      rcases h1 with h1 | h1
      · exact Or.inl ⟨q, hq, by rw [if_pos h1]; exact h⟩
      · rw [h1]; exact Or.inr h
    · simp at h
  · rintro (⟨q, hq, h⟩ | h)
    · split at h
      · rename_i h1
        exact ⟨q, hq, by rw [if_pos (by rw [Nat.testBit_or, h1, Bool.true_or])]; exact h⟩
      · simp at h
    · exact ⟨s, hs, by rw [if_pos (by rw [Nat.testBit_or, Nat.testBit_two_pow_self, Bool.or_true])]; exact h⟩
theorem sn_0 (r : Nat → Nat) : sn r 0 = 0 := by
  rw [bits0]
  intro t
  cases h : (sn r 0).testBit t with
  | false => rfl
  | true =>
    unfold sn at h
    rw [orf_bit] at h
    obtain ⟨q, hq, h⟩ := h
    rw [Nat.zero_testBit] at h
    simp at h
theorem X0_gather {r : Nat → Nat} {n : Int32} {L U H O B : Nat → Int32} (hc : CM r n L U H O B) (hv : Iv r) {fu : Nat} (hfu : 1100 ≤ fu) (df se : Nat → Int32) : ∃ df' se', (∀ s, s < r 0 → df' s = nI (tah r s)) ∧ (∀ P, P ≤ AA r → se' P = nI (sn r P)) ∧ m_X0_gatherTerms fu df se n U H = some (df', se') := by
  have b1 := hv.1.2
  obtain ⟨a1, a2, a3⟩ := AAp hv
  have hT := fun {q : Nat} (hq : q < 1000) => X3_termsAtHome (s := q) hc hv hq hfu
  obtain ⟨rfl, -, hU, -⟩ := hc
  unfold m_X0_gatherTerms
  rw [gd_nI (by omega) (by omega), nI_clamp (by omega)]
  obtain ⟨st', fn', hI, hF⟩ := forE (σ := (Nat → Int32) × (Nat → Int32)) (fun fn st i => m_X0_gatherTerms_9 fu (nI (r 0)) U H fn st.1 st.2 (nI i)) (fun i st => (∀ s, s < i → st.1 s = nI (tah r s)) ∧ (∀ P, P < 2 ^ i → st.2 P = nI (sn r P))) (r 0) (fun fn st i hi hI => by
    obtain ⟨i1, i2⟩ := hI
    have hpi : 2 ^ (i + 1) ≤ 1024 := Nat.le_trans (Nat.pow_le_pow_right (by omega) (by omega : i + 1 ≤ 10)) (by decide)
    have hps : 2 ^ (i + 1) = 2 ^ i + 2 ^ i := by rw [Nat.pow_succ]; omega
    rw [m_X0_gatherTerms_9, if_neg (nI_ge hi (by omega)), hT (by omega), Option.bind_some, gd_nI (by omega) (by omega), nI_clamp (by omega)]
    obtain ⟨se', fm', hJ, hG⟩ := forE (σ := Nat → Int32) (fun fm se j => m_X0_gatherTerms_36 (upd st.1 i (nI (tah r i))) U (nI i) (m_X0_gatherTerms_9 fu (nI (r 0)) U H fn) fm se (nI j)) (fun j se => ∀ P, P < 2 ^ i + j → se P = nI (sn r P)) (2 ^ i) (fun fm se j hj hJ => by
      have hor : j ||| 2 ^ i = j + 2 ^ i := Nat.or_two_pow_eq_add_of_lt hj
      refine ⟨upd se (2 ^ i + j) (nI (sn r (2 ^ i + j))), fun P hP => ?_, ?_⟩
      · by_cases e : P = 2 ^ i + j
        · rw [e, pk_us]
        · rw [pk_un e]; exact hJ P (by omega)
      · rw [m_X0_gatherTerms_36, n_bit (by omega), if_neg (nI_ge hj (by omega)), X6_with (by omega), Option.bind_some, gd_nI (by omega) (by omega), gd_nI (by omega) (by omega), hor, gd_nI (by omega) (by omega), nI_clamp (by omega), nI_clamp (by omega), nI_clamp (by omega), hJ j (by omega), hU i (by omega), n_or, n_1, ← sn_add hj hi, hor, Nat.add_comm j (2 ^ i)]) (2 ^ i) fu st.2 0 (by omega) (by omega) (fun P hP => i2 P (by omega))
    have hG : m_X0_gatherTerms_36 (upd st.1 i (nI (tah r i))) U (nI i) (m_X0_gatherTerms_9 fu (nI (r 0)) U H fn) fu st.2 (nI 0) = m_X0_gatherTerms_36 (upd st.1 i (nI (tah r i))) U (nI i) (m_X0_gatherTerms_9 fu (nI (r 0)) U H fn) (fm' + 1) se' (nI (2 ^ i)) := hG
    refine ⟨(upd st.1 i (nI (tah r i)), se'), ⟨fun s hs => ?_, fun P hP => hJ P (by omega)⟩, ?_⟩
    · show upd st.1 i _ s = _
      by_cases e : s = i
      · rw [e, pk_us]
      · rw [pk_un e]; exact i1 s (by omega)
    · rw [hG, m_X0_gatherTerms_36, n_bit (by omega), if_pos (nI_le (Nat.le_refl _) (by omega)), n_1]) (r 0) fu (df, upd se 0 (nI 0)) 0 (by omega) (by omega) ⟨fun s hs => absurd hs (Nat.not_lt_zero s), fun P hP => by rw [show P = 0 by omega, sn_0]; show upd se 0 (nI 0) 0 = nI 0; exact pk_us⟩
  have hF : m_X0_gatherTerms_9 fu (nI (r 0)) U H fu df (upd se 0 (nI 0)) (nI 0) = m_X0_gatherTerms_9 fu (nI (r 0)) U H (fn' + 1) st'.1 st'.2 (nI (r 0)) := hF
  refine ⟨st'.1, st'.2, hI.1, fun P hP => hI.2 P (by omega), ?_⟩
  rw [hF, m_X0_gatherTerms_9, if_pos (nI_le (Nat.le_refl _) (by omega))]
theorem nset_eq {r : Nat → Nat} {P s : Nat} : tah r s &&& sn r P = nset r P s := by
  unfold nset
  apply bs_ext
  intro t
  rw [Nat.testBit_and, Bool.eq_iff_iff, Bool.and_eq_true, tah_bit, Bool.and_eq_true, decide_eq_true_eq, Bool.and_eq_true, beq_iff_eq, bne_iff_ne]
  unfold sn
  rw [orf_bit]
  constructor
  · rintro ⟨⟨h1, h2⟩, q, hq, h⟩
    refine ⟨h1, h2, fun z => ?_⟩
    split at h
    · rename_i h3
      have h4 : (usr r t &&& P).testBit q = true := by
        unfold usr
        rw [Nat.testBit_and, bs_bit, decide_eq_true hq, h, h3]; rfl
      rw [z, Nat.zero_testBit] at h4
      cases h4
    · simp at h
  · rintro ⟨h1, h2, h3⟩
    obtain ⟨q, hq⟩ := Nat.exists_testBit_of_ne_zero h3
    unfold usr at hq
    rw [Nat.testBit_and, bs_bit, Bool.and_eq_true, Bool.and_eq_true, decide_eq_true_eq] at hq
    exact ⟨⟨h1, h2⟩, q, hq.1.1, by rw [if_pos hq.2]; exact hq.1.2⟩
theorem cnt_0 : cnt 0 = 0 := by decide
theorem X0_noteCost {r : Nat → Nat} {df se : Nat → Int32} (hdf : ∀ s, s < r 0 → df s = nI (tah r s)) (hse : ∀ P, P ≤ AA r → se P = nI (sn r P)) (hv : Iv r) {P s : Nat} (hP : P ≤ AA r) (hs : s < r 0) : m_X0_noteCost df se (nI P) (nI s) = some (nI (cnt (nset r P s) * 64)) := by
  have b1 := hv.1.2
  obtain ⟨a1, a2, a3⟩ := AAp hv
  have hl := nset_lt r P s
  unfold m_X0_noteCost
  rw [gd_nI (by omega) (by omega), gd_nI (by omega) (by omega), nI_clamp (by omega), nI_clamp (by omega), hdf s hs, hse P hP, n_and, nset_eq]
  by_cases e : nset r P s = 0
  · rw [e, if_pos rfl, cnt_0]
  · rw [if_neg (fun z => e ((nI_eq (by omega) (by omega)).mp z)), J6_bitCount (by omega), Option.bind_some, pk_mul]
