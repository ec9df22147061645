/-! PURE I: the reference's best order -/
theorem AAp {r : Nat → Nat} (hv : Iv r) : AA r + 1 = 2 ^ r 0 ∧ AA r < 1024 ∧ 3 ≤ AA r := by
  have h1 := p10 hv
  have h2 : 2 ^ 2 ≤ 2 ^ r 0 := Nat.pow_le_pow_right (by omega) hv.1.1
  unfold AA
  omega
theorem nset_lt (r : Nat → Nat) (P s : Nat) : nset r P s < 4096 := bs_lt _ 12
theorem usr_lt {r : Nat → Nat} (hv : Iv r) (t : Nat) : usr r t < 1024 := Nat.lt_of_lt_of_le (bs_lt _ _) (p10 hv)
theorem X7_noted {r : Nat → Nat} {k : Nat → Int32} (hc : R0 r k) (hv : Iv r) {s P fu : Nat} (hs : s < 10) (hP : P < 1024) (hfu : 1100 ≤ fu) : m_X7_noted fu k (nI s) (nI P) = some (nI (nset r P s)) := by
  have b1 := hv.1.2
  unfold m_X7_noted
  refine for0 (fun fn i => m_X7_noted_5 fu k (nI s) (nI P) fn (nI (bs (fun t => r (11 + t) == s + 1 && (usr r t &&& P) != 0) i)) (nI i)) 12 _ fu (by omega) (fun fn i hi => ?_) (fun fn => ?_)
  · have hh := hv.2.2.1 i hi
    have hand : usr r i &&& P < 2 ^ 31 := Nat.lt_of_le_of_lt Nat.and_le_right (by omega)
    rw [m_X7_noted_5, if_neg (nI_ge hi (by omega)), nI_add, gd_nI (by omega) (by omega), nI_clamp (by omega), hc.2 i hi, bs, n_1]
    by_cases e : r (11 + i) = s + 1
    · rw [if_pos ((hI_eq (by omega) (by omega)).mpr e), X7_usedBy hc hv hi hfu, Option.bind_some, n_and]
      by_cases e2 : usr r i &&& P = 0
      · rw [if_pos (by rw [e2]), n_or, if_neg (by simp [e2])]
      · rw [if_neg (fun z => e2 ((nI_eq hand (by omega)).mp z)), n_bit (by omega), n_or, if_pos (by simp [e, e2])]
    · rw [if_neg (fun z => e ((hI_eq (by omega) (by omega)).mp z)), n_or, if_neg (by simp [e])]
  · rw [m_X7_noted_5, if_pos (nI_le (Nat.le_refl _) (by omega))]
    rfl
theorem X7_turned {r : Nat → Nat} {k : Nat → Int32} (hc : R0 r k) (hv : Iv r) {s P fu : Nat} (hs : s < r 0) (hP : P < 1024) (hfu : 1100 ≤ fu) : m_X7_turned fu k (nI s) (nI P) = some (nI (un r P (pl r s))) := by
  have b1 := hv.1.2
  obtain ⟨g1, g2⟩ := pl_lt hv hs
  unfold m_X7_turned
  refine for0 (fun fn i => m_X7_turned_5 fu k (nI s) (nI P) fn (nI (un r P i)) (nI i)) (pl r s) _ fu (by omega) (fun fn i hi => ?_) (fun fn => ?_)
  · have ho := hv.2.2.2.2.1 i (by omega)
    rw [m_X7_turned_5, X7_placeOf hc hv hs hfu, Option.bind_some, if_neg (nI_ge hi (by omega)), nI_add, gd_nI (by omega) (by omega), nI_clamp (by omega), hc.1 (33 + i) (by omega) (by omega), X7_has (by omega) (by omega), Option.bind_some, ib0]
    have e1 : un r P (i + 1) = un r P i + (!(P.testBit (r (33 + i)))).toNat := rfl
    rw [e1]
    cases e : P.testBit (r (33 + i)) with
    | false => rw [if_pos rfl, n_1, n_1]; rfl
    | true => rw [if_neg (by simp), nI_add, n_1]; rfl
  · rw [m_X7_turned_5, X7_placeOf hc hv hs hfu, Option.bind_some, if_pos (nI_le (Nat.le_refl _) (by omega))]
theorem X7_canStand {r : Nat → Nat} {k : Nat → Int32} (hc : R0 r k) (hv : Iv r) {s P : Nat} (hs : s < 10) (hP : P < 1024) : m_X7_canStand k (nI s) (nI P) = some (nI (can r P s).toNat) := by
  have hB := hv.2.2.2.2.2.2 s hs
  unfold m_X7_canStand can
  rw [X7_has (by omega) (by omega), Option.bind_some, ib0]
  cases e : P.testBit s with
  | true => rw [if_neg (by simp)]; rfl
  | false =>
    have hd : dif (r (43 + s)) P < 2 ^ 10 := dif_lt (by omega) (by omega)
    rw [if_pos rfl, nI_add, gd_nI (by omega) (by omega), nI_clamp (by omega), hc.1 (43 + s) (by omega) (by omega), n_dif]
    by_cases e2 : dif (r (43 + s)) P = 0
    · rw [e2, if_pos rfl]; rfl
    · rw [if_neg (fun z => e2 ((nI_eq (by omega) (by omega)).mp z)), decide_eq_false e2]; rfl
theorem tb_bd {r : Nat → Nat} (hv : Iv r) (hp : Pr r) {P : Nat} (hP : P ≤ AA r) : (tb r P).1 ≤ 120 ∧ (tb r P).2 ≤ 45 := by
  obtain ⟨h1, h2, -⟩ := tb_ok hv hp (AA r - P) P (by omega)
  have h3 : un r P (r 0) ≤ r 0 := un_le
  have b1 := hv.1.2
  have := tri_10 (un r P (r 0)) (by omega)
  omega
theorem ky_bd {r : Nat → Nat} (hv : Iv r) (hp : Pr r) {P s : Nat} (hP : P ≤ AA r) (hs : s < r 0) : (ky r (tb r) P s).1 ≤ 132 ∧ (ky r (tb r) P s).2 ≤ 55 := by
  have h1 := tb_bd hv hp (or_le (r := r) hP hs)
  have h2 := cnt_le (nset r P s)
  have h3 := (pl_lt hv hs).1
  have h4 : un r P (pl r s) ≤ pl r s := un_le
  have b1 := hv.1.2
  unfold ky
  show cnt (nset r P s) + (tb r (P ||| 2 ^ s)).1 ≤ 132 ∧ un r P (pl r s) + (tb r (P ||| 2 ^ s)).2 ≤ 55
  omega
theorem bst_bd {r : Nat → Nat} (hv : Iv r) (hp : Pr r) {P : Nat} (hP : P ≤ AA r) : ∀ n, n ≤ r 0 → (bst r (tb r) P n).1 ≤ 1000 ∧ (bst r (tb r) P n).2 ≤ 1000
  | 0, _ => ⟨Nat.le_refl _, Nat.le_refl _⟩
  | n + 1, h => by
    rw [bst]
    split
    · have := ky_bd hv hp hP (s := n) (by omega)
      omega
    · exact bst_bd hv hp hP n (by omega)
/-- one section's turn in the reference's table -/
theorem X7_finds_in {r : Nat → Nat} {k : Nat → Int32} (hc : R0 r k) (hv : Iv r) (hp : Pr r) {P fu : Nat} (hP : P < AA r) (hfu : 1100 ≤ fu) (K : (Nat → Int32) → (Nat → Int32) → Int32 → Option ((Nat → Int32) × (Nat → Int32))) {no tu : Nat → Int32} (hno : ∀ Q, P < Q → Q ≤ AA r → no Q = nI (tb r Q).1) (htu : ∀ Q, P < Q → Q ≤ AA r → tu Q = nI (tb r Q).2) (h1 : no P = nI 1000) (h2 : tu P = nI 1000) : ∃ no' tu', (∀ Q, P ≤ Q → Q ≤ AA r → no' Q = nI (tb r Q).1) ∧ (∀ Q, P ≤ Q → Q ≤ AA r → tu' Q = nI (tb r Q).2) ∧ m_X7_finds_53 fu k (nI P) K fu no tu (nI 0) = K no' tu' (nI P + (-1 : Int32)) := by
  have b1 := hv.1.2
  obtain ⟨a1, a2, a3⟩ := AAp hv
  obtain ⟨st', fn', hI, hF⟩ := forE (σ := (Nat → Int32) × (Nat → Int32)) (fun fn st i => m_X7_finds_53 fu k (nI P) K fn st.1 st.2 (nI i)) (fun i st => (∀ Q, P < Q → Q ≤ AA r → st.1 Q = nI (tb r Q).1) ∧ (∀ Q, P < Q → Q ≤ AA r → st.2 Q = nI (tb r Q).2) ∧ st.1 P = nI (bst r (tb r) P i).1 ∧ st.2 P = nI (bst r (tb r) P i).2) (r 0) (fun fn st i hi hI => by
    obtain ⟨i1, i2, i3, i4⟩ := hI
    have hbd := bst_bd hv hp (Nat.le_of_lt hP) i (by omega)
    rw [m_X7_finds_53, gd_nI (by omega) (by omega), nI_clamp (by omega), hc.1 0 (by omega) (by omega), if_neg (nI_ge hi (by omega)), X7_canStand hc hv (by omega) (by omega), Option.bind_some, ib0]
    cases ec : can r P i with
    | false => exact ⟨st, ⟨i1, i2, by rw [i3, bst, ec]; rfl, by rw [i4, bst, ec]; rfl⟩, by rw [if_pos rfl, n_1]⟩
    | true =>
      have hb := (can_iff.mp ec).1
      have hgt := or_gt hb
      have hle := or_le (r := r) (Nat.le_of_lt hP) hi
      have hkb := ky_bd hv hp (Nat.le_of_lt hP) hi
      have hcl := nset_lt r P i
      have hcn := cnt_le (nset r P i)
      have hu : un r P (pl r i) ≤ pl r i := un_le
      have hpl := (pl_lt hv hi).1
      rw [if_neg (by simp), X7_noted hc hv (by omega) (by omega) hfu, Option.bind_some, X7_ones (by omega) hfu, Option.bind_some, n_bit (by omega), n_or, gd_nI (by omega) (by omega), X7_turned hc hv hi (by omega) hfu, Option.bind_some, gd_nI (by omega) (by omega), gd_nI (by omega) (by omega), nI_clamp (by omega), nI_clamp (by omega), i1 _ hgt hle, i2 _ hgt hle, i3, i4, nI_add, nI_add, gd_nI (by omega) (by omega), gd_nI (by omega) (by omega)]
      have e1 : cnt (nset r P i) + (tb r (P ||| 2 ^ i)).1 = (ky r (tb r) P i).1 := rfl
      have e2 : un r P (pl r i) + (tb r (P ||| 2 ^ i)).2 = (ky r (tb r) P i).2 := rfl
      rw [e1, e2]
      unfold m_X7_finds_151 m_X7_finds_174
      rw [gd_nI (by omega) (by omega), gd_nI (by omega) (by omega), nI_clamp (by omega), i3, i4, n_1]
      have keep : lx (ky r (tb r) P i) (bst r (tb r) P i) = false → ∃ st' : (Nat → Int32) × (Nat → Int32), ((∀ Q, P < Q → Q ≤ AA r → st'.1 Q = nI (tb r Q).1) ∧ (∀ Q, P < Q → Q ≤ AA r → st'.2 Q = nI (tb r Q).2) ∧ st'.1 P = nI (bst r (tb r) P (i + 1)).1 ∧ st'.2 P = nI (bst r (tb r) P (i + 1)).2) ∧ m_X7_finds_53 fu k (nI P) K fn (upd st.1 P (nI (bst r (tb r) P i).1)) (upd st.2 P (nI (bst r (tb r) P i).2)) (nI (i + 1)) = m_X7_finds_53 fu k (nI P) K fn st'.1 st'.2 (nI (i + 1)) := by
        intro hl
        refine ⟨(upd st.1 P (nI (bst r (tb r) P i).1), upd st.2 P (nI (bst r (tb r) P i).2)), ⟨fun Q h3 h4 => ?_, fun Q h3 h4 => ?_, ?_, ?_⟩, rfl⟩
        · show upd st.1 P _ Q = _
          rw [pk_un (by omega)]; exact i1 Q h3 h4
        · show upd st.2 P _ Q = _
          rw [pk_un (by omega)]; exact i2 Q h3 h4
        · show upd st.1 P _ P = _
          rw [pk_us, bst, ec, hl]; rfl
        · show upd st.2 P _ P = _
          rw [pk_us, bst, ec, hl]; rfl
      have take : lx (ky r (tb r) P i) (bst r (tb r) P i) = true → ∃ st' : (Nat → Int32) × (Nat → Int32), ((∀ Q, P < Q → Q ≤ AA r → st'.1 Q = nI (tb r Q).1) ∧ (∀ Q, P < Q → Q ≤ AA r → st'.2 Q = nI (tb r Q).2) ∧ st'.1 P = nI (bst r (tb r) P (i + 1)).1 ∧ st'.2 P = nI (bst r (tb r) P (i + 1)).2) ∧ m_X7_finds_53 fu k (nI P) K fn (upd st.1 P (nI (ky r (tb r) P i).1)) (upd st.2 P (nI (ky r (tb r) P i).2)) (nI (i + 1)) = m_X7_finds_53 fu k (nI P) K fn st'.1 st'.2 (nI (i + 1)) := by
        intro hl
        refine ⟨(upd st.1 P (nI (ky r (tb r) P i).1), upd st.2 P (nI (ky r (tb r) P i).2)), ⟨fun Q h3 h4 => ?_, fun Q h3 h4 => ?_, ?_, ?_⟩, rfl⟩
        · show upd st.1 P _ Q = _
          rw [pk_un (by omega)]; exact i1 Q h3 h4
        · show upd st.2 P _ Q = _
          rw [pk_un (by omega)]; exact i2 Q h3 h4
        · show upd st.1 P _ P = _
          rw [pk_us, bst, ec, hl]; rfl
        · show upd st.2 P _ P = _
          rw [pk_us, bst, ec, hl]; rfl
      have hg : ∀ x : Option ((Nat → Int32) × (Nat → Int32)), gd 1024 (nI P) x = x := fun x => gd_nI (by omega) (by omega)
      simp only [hg]
      by_cases c1 : (ky r (tb r) P i).1 < (bst r (tb r) P i).1
      · rw [if_pos (nI_lt c1 (by omega)), if_neg (by decide +kernel), if_neg (by decide +kernel)]
        exact take (decide_eq_true (Or.inl c1))
      · rw [if_neg (nI_nlt (by omega) (by omega))]
        by_cases c2 : (ky r (tb r) P i).1 = (bst r (tb r) P i).1
        · rw [if_pos (by rw [c2])]
          by_cases c3 : (ky r (tb r) P i).2 < (bst r (tb r) P i).2
          · rw [if_neg (nI_ge c3 (by omega)), if_neg (by decide +kernel), if_neg (by decide +kernel)]
            exact take (decide_eq_true (Or.inr ⟨c2, c3⟩))
          · rw [if_pos (nI_le (by omega) (by omega)), if_pos trivial, if_pos trivial]
            exact keep (decide_eq_false (by omega))
        · rw [if_neg (fun z => c2 ((nI_eq (by omega) (by omega)).mp z)), if_pos trivial, if_pos trivial]
          exact keep (decide_eq_false (by omega))) (r 0) fu (no, tu) 0 (by omega) (by omega) ⟨hno, htu, h1, h2⟩
  obtain ⟨i1, i2, i3, i4⟩ := hI
  refine ⟨st'.1, st'.2, fun Q h3 h4 => ?_, fun Q h3 h4 => ?_, ?_⟩
  · by_cases e : Q = P
    · subst e; rw [i3, ← tb_eq hP]
    · exact i1 Q (by omega) h4
  · by_cases e : Q = P
    · subst e; rw [i4, ← tb_eq hP]
    · exact i2 Q (by omega) h4
  · have hF : m_X7_finds_53 fu k (nI P) K fu no tu (nI 0) = m_X7_finds_53 fu k (nI P) K (fn' + 1) st'.1 st'.2 (nI (r 0)) := hF
    rw [hF, m_X7_finds_53, gd_nI (by omega) (by omega), nI_clamp (by omega), hc.1 0 (by omega) (by omega), if_pos (nI_le (Nat.le_refl _) (by omega))]
theorem X7_finds {r : Nat → Nat} {k : Nat → Int32} (hc : R0 r k) (hv : Iv r) (hp : Pr r) {fu : Nat} (hfu : 1100 ≤ fu) (no tu : Nat → Int32) : ∃ no' tu', (∀ Q, Q ≤ AA r → no' Q = nI (tb r Q).1) ∧ (∀ Q, Q ≤ AA r → tu' Q = nI (tb r Q).2) ∧ m_X7_finds fu k no tu = some (no', tu') := by
  have b1 := hv.1.2
  obtain ⟨a1, a2, a3⟩ := AAp hv
  have hq := p31 (k := r 0) (by omega)
  unfold m_X7_finds
  rw [gd_nI (by omega) (by omega), nI_clamp (by omega), hc.1 0 (by omega) (by omega), n_bit (by omega), ← a1, pk_sub (by omega), Nat.add_sub_cancel, gd_nI (by omega) (by omega), gd_nI (by omega) (by omega), nI_clamp (by omega), pk_sub (by omega)]
  rw [show nI (AA r - 1) = nI (AA r - 0) + (-1 : Int32) by rw [Nat.sub_zero, sb_m1 (by omega)]]
  obtain ⟨st', fn', hI, hF⟩ := forE (σ := (Nat → Int32) × (Nat → Int32)) (fun fn st i => m_X7_finds_29 fu k fn st.1 st.2 (nI (AA r - i) + (-1 : Int32))) (fun i st => (∀ Q, AA r - i ≤ Q → Q ≤ AA r → st.1 Q = nI (tb r Q).1) ∧ (∀ Q, AA r - i ≤ Q → Q ≤ AA r → st.2 Q = nI (tb r Q).2)) (AA r) (fun fn st i hi hI => by
    obtain ⟨i1, i2⟩ := hI
    have hP : AA r - i - 1 < AA r := by omega
    obtain ⟨no', tu', g1, g2, g3⟩ := X7_finds_in hc hv hp hP hfu (m_X7_finds_29 fu k fn) (no := upd st.1 (AA r - i - 1) (nI 1000)) (tu := upd st.2 (AA r - i - 1) (nI 1000)) (fun Q h3 h4 => by rw [pk_un (by omega)]; exact i1 Q (by omega) h4) (fun Q h3 h4 => by rw [pk_un (by omega)]; exact i2 Q (by omega) h4) pk_us pk_us
    refine ⟨(no', tu'), ⟨fun Q h3 h4 => g1 Q (by omega) h4, fun Q h3 h4 => g2 Q (by omega) h4⟩, ?_⟩
    rw [sb_m1 (by omega), m_X7_finds_29, if_neg (nI_nlt (Nat.zero_le _) (by omega)), gd_nI (by omega) (by omega), gd_nI (by omega) (by omega), nI_clamp (by omega), g3, show AA r - i - 1 = AA r - (i + 1) by omega]) (AA r) fu (upd no (AA r) (nI 0), upd tu (AA r) (nI 0)) 0 (by omega) (by omega) ⟨fun Q h3 h4 => by rw [show Q = AA r by omega, tb_AA]; exact pk_us, fun Q h3 h4 => by rw [show Q = AA r by omega, tb_AA]; exact pk_us⟩
  refine ⟨st'.1, st'.2, fun Q h => hI.1 Q (by omega) h, fun Q h => hI.2 Q (by omega) h, ?_⟩
  have hF : m_X7_finds_29 fu k fu (upd no (AA r) (nI 0)) (upd tu (AA r) (nI 0)) (nI (AA r - 0) + (-1 : Int32)) = m_X7_finds_29 fu k (fn' + 1) st'.1 st'.2 (nI (AA r - AA r) + (-1 : Int32)) := hF
  rw [hF, Nat.sub_self, m_X7_finds_29, if_pos (by decide +kernel)]
