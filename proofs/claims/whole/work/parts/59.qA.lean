/-! PURE QA: the questions that search -/
theorem np_iff {r : Nat → Nat} {t : Nat} : np r t < r 0 ↔ ∃ p, p < r 0 ∧ er r (r (33 + p)) t = true := by
  constructor
  · intro h
    exact ⟨np r t, h, fnd_yes (fun p => er r (r (33 + p)) t) (r 0) 0 (by unfold np at h; omega)⟩
  · rintro ⟨p, h1, h2⟩
    rcases Nat.lt_or_ge p (np r t) with q | q
    · rw [np_no q] at h2; cases h2
    · omega
theorem nts_bo {r : Nat → Nat} (ho : Ok r) : orf (fun p => nset r (bp r p) (bo r p)) (r 0) = nts (setO r (bo r)) := by
  have b0 := ho.1.1
  have hv := Iv_setO ho.1 (bo_PO ho.1 ho.2.1)
  have e0 := sO_0 r (bo r)
  refine Nat.eq_of_testBit_eq (fun t => ?_)
  have key : (orf (fun p => nset r (bp r p) (bo r p)) (r 0)).testBit t = true ↔ (nts (setO r (bo r))).testBit t = true := by
    unfold nts
    rw [orf_bit, bs_bit, Bool.and_eq_true, decide_eq_true_eq, decide_eq_true_eq, np_iff]
    constructor
    · rintro ⟨h, h1, h2⟩
      unfold nset at h2
      rw [bs_bit, Bool.and_eq_true, Bool.and_eq_true, decide_eq_true_eq, beq_iff_eq, bne_iff_ne] at h2
      obtain ⟨t1, t2, t3⟩ := h2
      refine ⟨t1, ?_⟩
      have : ∃ s, (usr r t &&& bp r h).testBit s = true := by
        apply Classical.byContradiction
        intro z
        exact t3 (bits0.mpr (fun i => by
          cases q : (usr r t &&& bp r h).testBit i with
          | true => exact absurd ⟨i, q⟩ z
          | false => rfl))
      obtain ⟨s, hs⟩ := this
      rw [Nat.testBit_and, Bool.and_eq_true] at hs
      obtain ⟨q, q1, q2⟩ := bp_bit.mp hs.2
      have hu := hs.1
      unfold usr at hu
      rw [bs_bit, Bool.and_eq_true, decide_eq_true_eq] at hu
      refine ⟨q, by omega, ?_⟩
      rw [er_at hv (by omega), sO_in (bo r) (by omega)]
      have hl := (bo_ok ho.1 ho.2.1 h1).1
      have hp : pl (setO r (bo r)) (bo r h) = h := by
        have := pl_eq hv (p := h) (by omega)
        rw [sO_in (bo r) h1] at this
        exact this
      rw [sO_lo _ _ (by omega), sO_lo _ _ (by omega), q2, t2, Nat.add_sub_cancel, hp]
      exact ⟨hu.2, by omega, q1⟩
    · rintro ⟨t1, q, q1, q2⟩
      rw [er_at hv q1, sO_in (bo r) (by omega)] at q2
      have hl := (bo_ok ho.1 ho.2.1 (i := q) (by omega)).1
      rw [sO_lo _ _ (by omega), sO_lo _ _ (by omega)] at q2
      obtain ⟨u1, u2, u3⟩ := q2
      have hh := ho.1.2.2.1 t t1
      obtain ⟨p1, p2⟩ := pl_lt hv (s := r (11 + t) - 1) (by omega)
      rw [e0] at p1
      rw [sO_in (bo r) p1] at p2
      refine ⟨pl (setO r (bo r)) (r (11 + t) - 1), p1, ?_⟩
      unfold nset
      rw [bs_bit, Bool.and_eq_true, Bool.and_eq_true, decide_eq_true_eq, beq_iff_eq, bne_iff_ne]
      refine ⟨t1, by omega, fun z => ?_⟩
      have : (usr r t &&& bp r (pl (setO r (bo r)) (r (11 + t) - 1))).testBit (bo r q) = true := by
        rw [Nat.testBit_and, Bool.and_eq_true]
        refine ⟨?_, bp_bit.mpr ⟨q, u3, rfl⟩⟩
        unfold usr
        rw [bs_bit, Bool.and_eq_true, decide_eq_true_eq]
        exact ⟨hl, u1⟩
      rw [z, Nat.zero_testBit] at this
      cases this
  cases q : (nts (setO r (bo r))).testBit t with
  | true => exact key.mpr q
  | false =>
    cases q' : (orf (fun p => nset r (bp r p) (bo r p)) (r 0)).testBit t with
    | true => rw [key.mp q'] at q; cases q
    | false => rfl
theorem bp_lt {r : Nat → Nat} (ho : Ok r) {i : Nat} (hi : i ≤ r 0) : bp r i < 1024 := by
  have := (bp_ok ho.1 ho.2.1 i hi).1
  have := (AAp ho.1).2.1
  omega
theorem X7_leastNotes {r : Nat → Nat} {k nu : Nat → Int32} (ho : Ok r) (hk : R0 r k) (hn : ∀ p, p < r 0 → nu p = nI (bo r p)) {fu : Nat} (hfu : 1100 ≤ fu) : m_X7_leastNotes fu k nu = some (nI (nts (setO r (bo r)))) := by
  have b0 := ho.1.1
  unfold m_X7_leastNotes
  refine for0 (fun fn i => m_X7_leastNotes_6 fu k nu fn (nI (bp r i)) (nI (orf (fun p => nset r (bp r p) (bo r p)) i)) (nI i)) (r 0) _ fu (by omega) (fun fn i hi => ?_) (fun fn => ?_)
  · have hb := (bo_ok ho.1 ho.2.1 hi).1
    rw [m_X7_leastNotes_6, gd_nI (by omega) (by omega), nI_clamp (by omega), hk.1 0 (by omega) (by omega), if_neg (nI_ge hi (by omega)), gd_nI (by omega) (by omega), nI_clamp (by omega), hn i hi, X7_noted hk ho.1 (by omega) (bp_lt ho (by omega)) hfu, Option.bind_some, gd_nI (by omega) (by omega), n_bit (by omega), n_or, n_or, n_1]
    rfl
  · rw [m_X7_leastNotes_6, gd_nI (by omega) (by omega), nI_clamp (by omega), hk.1 0 (by omega) (by omega), if_pos (nI_le (Nat.le_refl _) (by omega)), nts_bo ho]
theorem E_best {r : Nat → Nat} {n : Int32} {L U H O B k : Nat → Int32} (ho : Ok r) (hc : CM r n L U H O B) (hk : R0 r k) {fu : Nat} (hfu : 1100 ≤ fu) {nt' iv fd : Int32} {qo df se co ch : Nat → Int32} {vn : Int32} {vL vU vH vO vB : Nat → Int32} (hb : BO nt' iv fd qo vn vL vU vH vO vB) (nu no tu : Nat → Int32) (x1 : Int32) : ∃ a nt1 iv1 fd1 qo1 df1 se1 co1 ch1 vn1 vL1 vU1 vH1 vO1 vB1 nu1 no1 tu1, m_X6_best fu n L U H O B nt' iv fd qo df se co ch vn vL vU vH vO vB x1 = some (a, nt1, iv1, fd1, qo1, df1, se1, co1, ch1, vn1, vL1, vU1, vH1, vO1, vB1) ∧ m_X7_best fu k nu no tu x1 = some (a, nu1, no1, tu1) ∧ BO nt1 iv1 fd1 qo1 vn1 vL1 vU1 vH1 vO1 vB1 := by
  have b0 := ho.1.1
  obtain ⟨qo', df', se', co', ch', vn', vL', vU', vH', vO', vB', f1, f2, f3⟩ := X0_find (df := df) (se := se) (co := co) (ch := ch) hb hc ho.1 ho.2.1 ho.2.2 hfu
  obtain ⟨no', tu', g1, g2, g3⟩ := X7_lays hk ho.1 ho.2.1 hfu nu no tu
  unfold m_X6_best m_X7_best
  have hs : m_X3_hasPlace n x1 = some (nI (hx (r 0) x1).toNat) := by rw [hc.1]; exact X3_hasPlace (by omega) x1
  rw [hs, X7_isSection hk ho.1, Option.bind_some, Option.bind_some, ib0, ib0]
  cases e : hx (r 0) x1 with
  | false => rw [if_pos rfl, if_pos rfl]; exact ⟨_, _, _, _, _, _, _, _, _, _, _, _, _, _, _, _, _, _, rfl, rfl, hb⟩
  | true =>
    obtain ⟨j, hj, rfl⟩ := hx_true e
    rw [if_neg nt, if_neg nt, f1, g3, Option.bind_some, Option.bind_some]
    dsimp only
    rw [gd_nI (by omega) (by omega), gd_nI (by omega) (by omega), nI_clamp (by omega), f3 j hj, fil_lt hj]
    exact ⟨_, _, _, _, _, _, _, _, _, _, _, _, _, _, _, _, _, _, rfl, rfl, Or.inr ⟨rfl, r, ho.1, ho.2.1, ho.2.2, f2, rfl, rfl, f3⟩⟩
