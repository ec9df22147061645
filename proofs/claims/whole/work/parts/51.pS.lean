/-! PURE S: terms of a token -/
def tc (T : Nat → Nat) (f j : Nat) : Bool := decide (97 ≤ T (f + j) ∧ T (f + j) ≤ 108)
def trD (T : Nat → Nat) (l f : Nat) : Nat := fnd (fun j => !(tc T f j)) (be T l f - f) 0
def trOk (T : Nat → Nat) (l f m : Nat) : Bool := decide (f < l ∧ be T l f - f ≤ m ∧ trD T l f = be T l f - f)
def trg (T : Nat → Nat) (f : Nat) : Nat → Nat := orf (fun j => 2 ^ (T (f + j) - 97))
def trs (T : Nat → Nat) (l f : Nat) : Nat := trg T f (be T l f - f)
theorem trD_le (T : Nat → Nat) (l f : Nat) : trD T l f ≤ be T l f - f := by
  have := fnd_le (fun j => !(tc T f j)) (be T l f - f) 0
  unfold trD
  omega
theorem trD_no {T : Nat → Nat} {l f j : Nat} (h : j < trD T l f) : 97 ≤ T (f + j) ∧ T (f + j) ≤ 108 := by
  have := fnd_no (fun j => !(tc T f j)) (be T l f - f) 0 j (Nat.zero_le j) h
  have : tc T f j = true := by simpa using this
  exact of_decide_eq_true this
theorem trD_yes {T : Nat → Nat} {l f : Nat} (h : trD T l f < be T l f - f) : ¬ (97 ≤ T (f + trD T l f) ∧ T (f + trD T l f) ≤ 108) := by
  have := fnd_yes (fun j => !(tc T f j)) (be T l f - f) 0 (by unfold trD at h; omega)
  have : tc T f (trD T l f) = false := by simpa [trD] using this
  exact of_decide_eq_false this
theorem trs_ok {T : Nat → Nat} {l f m : Nat} (h : trOk T l f m = true) : trs T l f < 4096 ∧ trs T l f ≠ 0 := by
  obtain ⟨h1, h2, h3⟩ := of_decide_eq_true h
  obtain ⟨g1, g2, g3⟩ := be_le (T := T) (l := l) (f := f) (by omega)
  have g3 := g3 h1
  constructor
  · refine orf_lt (k := 12) (fun j hj => ?_)
    have := trD_no (T := T) (l := l) (f := f) (j := j) (by omega)
    exact Nat.pow_lt_pow_right (by omega) (by omega)
  · intro z
    have : (trs T l f).testBit (T f - 97) = true := (orf_bit _ _ _).mpr ⟨0, by omega, by rw [Nat.testBit_two_pow]; simp⟩
    rw [z, Nat.zero_testBit] at this
    cases this
theorem hx_sub {c m : Nat} (h : 97 ≤ c) (hc : c < 256) (hm : m < 1000) : hx m (nI (c - 97)) = decide (c - 97 < m) := by
  unfold hx
  rw [nI_toInt (by omega)]
  exact decide_eq_decide.mpr (by omega)
theorem X5_asTerms {T : Nat → Nat} {l : Nat} {b : Nat → Int32} (hT : TX T l b) {f fu : Nat} (hf : f ≤ l) (hfu : 1100 ≤ fu) : m_X5_asTerms fu (nI f) (nI (be T l f)) (nI (kd T l f)) b = some (nI (if trOk T l f 12 = true then trs T l f else 0)) := by
  obtain ⟨hb, hc, hl⟩ := hT
  obtain ⟨g1, g2, g3⟩ := be_le (T := T) (l := l) (f := f) (by omega)
  have hkd := kd_le T l f
  have hD := trD_le T l f
  unfold m_X5_asTerms
  by_cases c1 : kd T l f = 1
  · have e : f < l := by
      by_cases e : f < l
      · exact e
      · rw [kd_out e] at c1; omega
    have k1 : ck (T f) = 1 := by rw [kd_in e] at c1; exact c1
    rw [if_pos (by rw [c1]), nI_sub g1]
    by_cases c2 : be T l f - f ≤ 12
    · rw [if_pos (nI_le c2 (by omega))]
      refine for0 (fun fn j => m_X5_asTerms_31 (nI (be T l f)) b fn (nI (trg T f j)) (nI (f + j))) (trD T l f) _ fu (by omega) (fun fn j hj => ?_) (fun fn => ?_)
      · have h1 := trD_no hj
        rw [m_X5_asTerms_31, if_neg (nI_ge (by omega) (by omega)), gd_nI (by omega) (by omega), nI_clamp (by omega), hb _ (by omega), nI_sub (by omega), X6_isTerm, Option.bind_some, ib0, hx_sub (by omega) (by omega) (by omega), decide_eq_true (show T (f + j) - 97 < 12 by omega), if_neg (by simp), X6_with (by omega), Option.bind_some, n_1]
        rfl
      · rw [m_X5_asTerms_31]
        by_cases d : trD T l f = be T l f - f
        · rw [if_pos (nI_le (by omega) (by omega)), if_pos (show trOk T l f 12 = true from decide_eq_true ⟨e, c2, d⟩), d]
          rfl
        · have h2 := trD_yes (T := T) (l := l) (f := f) (by omega)
          have h3 := ck_1.mp ((be_in (T := T) (l := l) (f := f) (j := f + trD T l f) (by omega) (by omega)).trans k1)
          rw [if_neg (nI_ge (by omega) (by omega)), gd_nI (by omega) (by omega), nI_clamp (by omega), hb _ (by omega), nI_sub (by omega), X6_isTerm, Option.bind_some, ib0, hx_sub (by omega) (by omega) (by omega), decide_eq_false (show ¬ T (f + trD T l f) - 97 < 12 by omega), if_pos rfl, if_neg (fun z => d (of_decide_eq_true z).2.2)]
    · rw [if_neg (nI_ge (by omega) (by omega)), if_neg (fun z => c2 (of_decide_eq_true z).2.1)]
  · rw [if_neg (fun z => c1 ((nI_eq (by omega) (by omega)).mp z)), if_neg]
    intro z
    obtain ⟨h1, h2, h3⟩ := of_decide_eq_true z
    have g3 := g3 h1
    have := trD_no (T := T) (l := l) (f := f) (j := 0) (by omega)
    rw [kd_in h1, ck_1] at c1
    rw [Nat.add_zero] at this
    omega
theorem X5_asTerm {T : Nat → Nat} {l : Nat} {b : Nat → Int32} (hT : TX T l b) {f : Nat} (hf : f ≤ l) : m_X5_asTerm (nI f) (nI (be T l f)) (nI (kd T l f)) b = some (if trOk T l f 1 = true then nI (T f - 97) else (-1 : Int32)) := by
  obtain ⟨hb, hc, hl⟩ := hT
  obtain ⟨g1, g2, g3⟩ := be_le (T := T) (l := l) (f := f) (by omega)
  have hkd := kd_le T l f
  have hD := trD_le T l f
  unfold m_X5_asTerm
  by_cases c1 : kd T l f = 1
  · have e : f < l := by
      by_cases e : f < l
      · exact e
      · rw [kd_out e] at c1; omega
    have g3 := g3 e
    have k1 : ck (T f) = 1 := by rw [kd_in e] at c1; exact c1
    have k2 := ck_1.mp k1
    rw [if_pos (by rw [c1]), nI_sub g1]
    by_cases c2 : be T l f - f = 1
    · rw [if_pos (by rw [c2]), gd_nI (by omega) (by omega), nI_clamp (by omega), hb _ (by omega), nI_sub (by omega), X6_isTerm, Option.bind_some, ib0, hx_sub (by omega) (by omega) (by omega)]
      by_cases d : trD T l f = be T l f - f
      · have := trD_no (T := T) (l := l) (f := f) (j := 0) (by omega)
        rw [Nat.add_zero] at this
        rw [decide_eq_true (show T f - 97 < 12 by omega), if_neg (by simp), if_pos (show trOk T l f 1 = true from decide_eq_true ⟨e, by omega, d⟩)]
      · have h2 := trD_yes (T := T) (l := l) (f := f) (by omega)
        rw [show trD T l f = 0 by omega, Nat.add_zero] at h2
        rw [decide_eq_false (show ¬ T f - 97 < 12 by omega), if_pos rfl, if_neg (fun z => d (of_decide_eq_true z).2.2)]
    · rw [if_neg (fun z => c2 ((nI_eq (by omega) (by omega)).mp z)), if_neg (fun z => by have := (of_decide_eq_true z).2.1; omega)]
  · rw [if_neg (fun z => c1 ((nI_eq (by omega) (by omega)).mp z)), if_neg]
    intro z
    obtain ⟨h1, h2, h3⟩ := of_decide_eq_true z
    have g3 := g3 h1
    have := trD_no (T := T) (l := l) (f := f) (j := 0) (by omega)
    rw [kd_in h1, ck_1] at c1
    rw [Nat.add_zero] at this
    omega
theorem X7_termsHere {T : Nat → Nat} {l : Nat} {b : Nat → Int32} (hT : TX T l b) {f m fu : Nat} (hf : f ≤ l) (hm : m < 1000) (hfu : 1100 ≤ fu) : m_X7_termsHere fu (nI l) (nI f) (nI (be T l f)) b (nI m) = some (nI (if trOk T l f m = true then trs T l f else 0)) := by
  obtain ⟨hb, hc, hl⟩ := hT
  obtain ⟨g1, g2, g3⟩ := be_le (T := T) (l := l) (f := f) (by omega)
  have hD := trD_le T l f
  have no : ∀ fn x y, m_X7_termsHere_38 (nI (be T l f)) b (fn + 1) x (nI 0) y = some (nI 0) := fun fn x y => by
    rw [m_X7_termsHere_38]
    unfold m_X7_termsHere_98
    rw [if_pos rfl]
    split
    · rfl
    · rw [if_pos rfl]
  unfold m_X7_termsHere
  obtain ⟨g, rfl⟩ : ∃ g, fu = g + 1 := ⟨fu - 1, by omega⟩
  rw [no]
  by_cases e : f < l
  · have g3 := g3 e
    rw [if_neg (nI_ge e (by omega)), nI_sub g1]
    by_cases c2 : m < be T l f - f
    · rw [if_pos ((nI_ltI (by omega) (by omega)).mpr c2), if_neg (fun z => by have := (of_decide_eq_true z).2.1; omega)]
    · rw [if_neg (fun z => c2 ((nI_ltI (by omega) (by omega)).mp z))]
      have step : ∀ fn j, f + j < be T l f → m_X7_termsHere_38 (nI (be T l f)) b (fn + 1) (nI (trg T f j)) (nI 1) (nI (f + j)) = if 97 ≤ T (f + j) ∧ T (f + j) ≤ 108 then m_X7_termsHere_38 (nI (be T l f)) b fn (nI (trg T f (j + 1))) (nI 1) (nI (f + (j + 1))) else m_X7_termsHere_38 (nI (be T l f)) b fn (nI (trg T f j) ||| nI 0) (nI 0) (nI (f + (j + 1))) := fun fn j hj => by
        have h1 := hc (f + j) (by omega)
        have hg : ∀ x : Option Int32, gd 200 (nI (f + j)) x = x := fun x => gd_nI (by omega) (by omega)
        rw [m_X7_termsHere_38, if_neg (nI_ge (by omega) (by omega)), if_neg (show ¬ nI 1 = nI 0 by decide), hg, nI_clamp (by omega), hb _ (by omega), X7_in (by omega) (by omega), Option.bind_some, ib0, iv2_nI (by omega), hg]
        by_cases d : 97 ≤ T (f + j) ∧ T (f + j) ≤ 108
        · rw [decide_eq_true d, if_neg (by simp), if_pos d, nI_sub d.1, n_bit (by omega), n_or, n_1]
          rfl
        · rw [decide_eq_false d, if_pos rfl, if_neg d, n_1]
          rfl
      refine for0 (fun fn j => m_X7_termsHere_38 (nI (be T l f)) b (fn + 1) (nI (trg T f j)) (nI 1) (nI (f + j))) (trD T l f) _ g (by omega) (fun fn j hj => ?_) (fun fn => ?_)
      · have h1 := trD_no hj
        rw [step _ j (by omega), if_pos h1]
      · by_cases d : trD T l f = be T l f - f
        · rw [m_X7_termsHere_38, if_pos (nI_le (by omega) (by omega)), if_pos (show trOk T l f m = true from decide_eq_true ⟨e, by omega, d⟩), d]
          unfold m_X7_termsHere_98
          rw [if_neg (show ¬ nI 1 = nI 0 by decide)]
          rfl
        · have h2 := trD_yes (T := T) (l := l) (f := f) (by omega)
          rw [step _ _ (by omega), if_neg h2, no, if_neg (fun z => d (of_decide_eq_true z).2.2)]
  · rw [if_pos (nI_le (by omega) (by omega)), if_neg (fun z => e (of_decide_eq_true z).1)]
