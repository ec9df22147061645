/-! PURE Q: the text and its tokens -/
def ck (c : Nat) : Nat := if 97 ≤ c ∧ c ≤ 122 then 1 else if 48 ≤ c ∧ c ≤ 57 then 2 else 3
theorem ck_le (c : Nat) : 1 ≤ ck c ∧ ck c ≤ 3 := by unfold ck; repeat' split
                                                    all_goals omega
theorem ck_1 {c : Nat} : ck c = 1 ↔ 97 ≤ c ∧ c ≤ 122 := by unfold ck; repeat' split
                                                           all_goals omega
theorem ck_2 {c : Nat} : ck c = 2 ↔ 48 ≤ c ∧ c ≤ 57 := by unfold ck; repeat' split
                                                          all_goals omega
def TX (T : Nat → Nat) (l : Nat) (b : Nat → Int32) : Prop := (∀ j, j < l → b j = nI (T j)) ∧ (∀ j, j < l → T j < 256) ∧ l ≤ 200
def fs (T : Nat → Nat) (l i : Nat) : Nat := fnd (fun j => T j != 32) (l - i) i
def kd (T : Nat → Nat) (l f : Nat) : Nat := if f < l then ck (T f) else 0
def be (T : Nat → Nat) (l f : Nat) : Nat := if f < l then (if ck (T f) = 3 then f + 1 else fnd (fun j => ck (T j) != ck (T f)) (l - (f + 1)) (f + 1)) else f
theorem fs_le {T : Nat → Nat} {l i : Nat} (h : i ≤ l) : i ≤ fs T l i ∧ fs T l i ≤ l := by
  have := fnd_le (fun j => T j != 32) (l - i) i
  unfold fs
  omega
theorem be_le {T : Nat → Nat} {l f : Nat} (h : f ≤ l) : f ≤ be T l f ∧ be T l f ≤ l ∧ (f < l → f < be T l f) := by
  unfold be
  by_cases e : f < l
  · rw [if_pos e]
    by_cases c : ck (T f) = 3
    · rw [if_pos c]; omega
    · rw [if_neg c]
      have := fnd_le (fun j => ck (T j) != ck (T f)) (l - (f + 1)) (f + 1)
      omega
  · rw [if_neg e]; omega
theorem be_in {T : Nat → Nat} {l f j : Nat} (h1 : f ≤ j) (h2 : j < be T l f) : ck (T j) = ck (T f) := by
  unfold be at h2
  by_cases e : f < l
  · rw [if_pos e] at h2
    by_cases c : ck (T f) = 3
    · rw [if_pos c] at h2
      rw [show j = f by omega]
    · rw [if_neg c] at h2
      by_cases d : j = f
      · rw [d]
      · have := fnd_no (fun j => ck (T j) != ck (T f)) (l - (f + 1)) (f + 1) j (by omega) h2
        simpa using this
  · rw [if_neg e] at h2; omega
theorem be_end {T : Nat → Nat} {l f : Nat} (h1 : f < l) (h3 : ck (T f) ≠ 3) (h2 : be T l f < l) : ck (T (be T l f)) ≠ ck (T f) := by
  unfold be at h2 ⊢
  rw [if_pos h1, if_neg h3] at h2 ⊢
  have := fnd_yes (fun j => ck (T j) != ck (T f)) (l - (f + 1)) (f + 1) (by omega)
  simpa using this
theorem fs_in {T : Nat → Nat} {l i j : Nat} (h1 : i ≤ j) (h2 : j < fs T l i) : T j = 32 := by
  have := fnd_no (fun j => T j != 32) (l - i) i j h1 h2
  simpa using this
theorem fs_end {T : Nat → Nat} {l i : Nat} (hi : i ≤ l) (h2 : fs T l i < l) : T (fs T l i) ≠ 32 := by
  have := fnd_yes (fun j => T j != 32) (l - i) i (by unfold fs at h2; omega)
  unfold fs
  simpa using this
theorem kd_in {T : Nat → Nat} {l f : Nat} (h : f < l) : kd T l f = ck (T f) := if_pos h
theorem kd_out {T : Nat → Nat} {l f : Nat} (h : ¬ f < l) : kd T l f = 0 := if_neg h
theorem kd_le (T : Nat → Nat) (l f : Nat) : kd T l f ≤ 3 := by
  unfold kd
  split
  · exact (ck_le _).2
  · omega
theorem X5_kindOf {c : Nat} (h : c < 256) : m_X5_kindOf (nI c) = some (nI (ck c)) := by
  unfold m_X5_kindOf ck
  have g : m_X5_kindOf_14 (nI c) = some (nI (if 48 ≤ c ∧ c ≤ 57 then 2 else 3)) := by
    unfold m_X5_kindOf_14
    by_cases a : c < 48
    · rw [if_pos ((nI_ltI (by omega) (by omega)).mpr a), if_neg (by omega)]
    · rw [if_neg (fun z => a ((nI_ltI (by omega) (by omega)).mp z))]
      by_cases b : 57 < c
      · rw [if_pos ((nI_ltI (by omega) (by omega)).mpr b), if_neg (by omega)]
      · rw [if_neg (fun z => b ((nI_ltI (by omega) (by omega)).mp z)), if_pos ⟨by omega, by omega⟩]
  rw [g]
  by_cases a : c < 97
  · rw [if_pos ((nI_ltI (by omega) (by omega)).mpr a), if_neg (show ¬ (97 ≤ c ∧ c ≤ 122) by omega)]
  · rw [if_neg (fun z => a ((nI_ltI (by omega) (by omega)).mp z))]
    by_cases b : 122 < c
    · rw [if_pos ((nI_ltI (by omega) (by omega)).mpr b), if_neg (show ¬ (97 ≤ c ∧ c ≤ 122) by omega)]
    · rw [if_neg (fun z => b ((nI_ltI (by omega) (by omega)).mp z)), if_pos (show 97 ≤ c ∧ c ≤ 122 by omega)]
theorem iv2_nI {a b c : Nat} (hc : c < 2 ^ 31) : iv2 a b (nI c) = decide (a ≤ c ∧ c ≤ b) := by
  unfold iv2
  rw [nI_toInt hc]
  exact decide_eq_decide.mpr (by omega)
theorem X7_isSmall {c : Nat} (h : c < 256) : m_X7_isSmall (nI c) = some (nI (decide (ck c = 1)).toNat) := by
  unfold m_X7_isSmall
  rw [X7_in (by omega) (by omega), Option.bind_some, zb_b, iv2_nI (by omega), show decide (97 ≤ c ∧ c ≤ 122) = decide (ck c = 1) from decide_eq_decide.mpr ck_1.symm]
theorem X7_isDigit {c : Nat} (h : c < 256) : m_X7_isDigit (nI c) = some (nI (decide (ck c = 2)).toNat) := by
  unfold m_X7_isDigit
  rw [X7_in (by omega) (by omega), Option.bind_some, zb_b, iv2_nI (by omega), show decide (48 ≤ c ∧ c ≤ 57) = decide (ck c = 2) from decide_eq_decide.mpr ck_2.symm]
theorem X5_take {T : Nat → Nat} {l : Nat} {b : Nat → Int32} (hT : TX T l b) {i fu : Nat} (hi : i ≤ l) (hfu : 1100 ≤ fu) : m_X5_take fu (nI l) (nI i) b = some (nI (fs T l i), nI (be T l (fs T l i)), nI (kd T l (fs T l i))) := by
  obtain ⟨hb, hc, hl⟩ := hT
  have e0 : m_X5_take fu (nI l) (nI i) b = m_X5_take_0 fu (nI l) b (fu + 1) (nI i) := by rw [m_X5_take_0]; rfl
  obtain ⟨s1, s2⟩ := fs_le (T := T) hi
  have tail : m_X5_take_38 fu (nI l) (nI (fs T l i)) b = some (nI (fs T l i), nI (be T l (fs T l i)), nI (kd T l (fs T l i))) := by
    generalize hf : fs T l i = f at s1 s2 ⊢
    unfold m_X5_take_38
    by_cases e : f < l
    · obtain ⟨g1, g2, g3⟩ := be_le (T := T) s2
      have hk := ck_le (T f)
      rw [if_pos ((nI_ltI (by omega) (by omega)).mpr e), gd_nI (by omega) (by omega), nI_clamp (by omega), hb f e, X5_kindOf (hc f e), Option.bind_some, n_1, kd_in e]
      refine forA (fun fn j => m_X5_take_89 (nI l) (nI f) (nI (ck (T f))) b fn (nI j)) (f + 1) (be T l f) _ fu (by have := g3 e; omega) (by omega) (fun fn j h1 h2 => ?_) (fun fn => ?_)
      · have h3 : ck (T f) ≠ 3 := fun z => by
          unfold be at h2
          rw [if_pos e, if_pos z] at h2
          omega
        rw [m_X5_take_89, if_neg (fun z => h3 ((nI_eq (by omega) (by omega)).mp z)), if_neg (nI_ge (by omega) (by omega)), gd_nI (by omega) (by omega), nI_clamp (by omega), hb j (by omega), X5_kindOf (hc j (by omega)), Option.bind_some, be_in (by omega) h2, if_pos rfl, n_1]
      · rw [m_X5_take_89]
        by_cases h3 : ck (T f) = 3
        · rw [if_pos (by rw [h3])]
        · rw [if_neg (fun z => h3 ((nI_eq (by omega) (by omega)).mp z))]
          by_cases h4 : be T l f < l
          · have hk2 := ck_le (T (be T l f))
            have h5 := be_end e h3 h4
            rw [if_neg (nI_ge h4 (by omega)), gd_nI (by omega) (by omega), nI_clamp (by omega), hb _ h4, X5_kindOf (hc _ h4), Option.bind_some, if_neg (fun z => h5 ((nI_eq (by omega) (by omega)).mp z))]
          · rw [if_pos (nI_le (by omega) (by omega))]
    · rw [if_neg (fun z => e ((nI_ltI (by omega) (by omega)).mp z)), kd_out e]
      unfold be
      rw [if_neg e]
  rw [e0]
  refine forA (fun fn j => m_X5_take_0 fu (nI l) b fn (nI j)) i (fs T l i) _ (fu + 1) s1 (by omega) (fun fn j h1 h2 => ?_) (fun fn => ?_)
  · rw [m_X5_take_0, if_neg (nI_ge (by omega) (by omega)), gd_nI (by omega) (by omega), nI_clamp (by omega), hb j (by omega), fs_in h1 h2, if_pos rfl, n_1]
  · rw [m_X5_take_0, tail]
    by_cases e : fs T l i < l
    · have h5 := fs_end hi e
      have h6 := hc _ e
      rw [if_neg (nI_ge e (by omega)), gd_nI (by omega) (by omega), nI_clamp (by omega), hb _ e, if_neg (fun z => h5 ((nI_eq (by omega) (by omega)).mp z))]
    · rw [if_pos (nI_le (by omega) (by omega))]
theorem X7_next {T : Nat → Nat} {l : Nat} {b : Nat → Int32} (hT : TX T l b) {i fu : Nat} (hi : i ≤ l) (hfu : 1100 ≤ fu) : m_X7_next fu (nI l) (nI i) b = some (nI (fs T l i), nI (be T l (fs T l i))) := by
  obtain ⟨hb, hc, hl⟩ := hT
  obtain ⟨s1, s2⟩ := fs_le (T := T) hi
  have tail : m_X7_next_46 fu (nI l) (nI (fs T l i)) b = some (nI (fs T l i), nI (be T l (fs T l i))) := by
    generalize hf : fs T l i = f at s1 s2 ⊢
    unfold m_X7_next_46
    by_cases e : f < l
    · obtain ⟨g1, g2, g3⟩ := be_le (T := T) s2
      rw [if_neg (nI_ge e (by omega)), n_1]
      unfold m_X7_next_71
      rw [if_neg (nI_ge e (by omega)), gd_nI (by omega) (by omega), nI_clamp (by omega), hb f e, X7_isSmall (hc f e), Option.bind_some]
      have e1 : (if nI (decide (ck (T f) = 1)).toNat = nI 0 then m_X7_next_105 fu (nI l) (nI f) (nI (f + 1)) b (nI 0) else m_X7_next_105 fu (nI l) (nI f) (nI (f + 1)) b (nI 1)) = m_X7_next_105 fu (nI l) (nI f) (nI (f + 1)) b (nI (decide (ck (T f) = 1)).toNat) := by
        rw [ib0]; cases decide (ck (T f) = 1) <;> rfl
      rw [e1]
      unfold m_X7_next_105
      rw [if_neg (nI_ge e (by omega)), gd_nI (by omega) (by omega), nI_clamp (by omega), hb f e, X7_isDigit (hc f e), Option.bind_some]
      have e2 : (if nI (decide (ck (T f) = 2)).toNat = nI 0 then m_X7_next_138 (nI l) (nI f) b (nI (decide (ck (T f) = 1)).toNat) (nI 0) fu (nI (f + 1)) else m_X7_next_138 (nI l) (nI f) b (nI (decide (ck (T f) = 1)).toNat) (nI 1) fu (nI (f + 1))) = m_X7_next_138 (nI l) (nI f) b (nI (decide (ck (T f) = 1)).toNat) (nI (decide (ck (T f) = 2)).toNat) fu (nI (f + 1)) := by
        rw [ib0]; cases decide (ck (T f) = 2) <;> rfl
      rw [e2]
      refine forA (fun fn j => m_X7_next_138 (nI l) (nI f) b (nI (decide (ck (T f) = 1)).toNat) (nI (decide (ck (T f) = 2)).toNat) fn (nI j)) (f + 1) (be T l f) _ fu (by have := g3 e; omega) (by omega) (fun fn j h1 h2 => ?_) (fun fn => ?_)
      · have h3 : ck (T f) ≠ 3 := fun z => by
          unfold be at h2
          rw [if_pos e, if_pos z] at h2
          omega
        have hk := ck_le (T f)
        have hj := be_in (T := T) (l := l) (f := f) (j := j) (by omega) h2
        rw [m_X7_next_138, if_neg (nI_ge (by omega) (by omega)), ib0]
        unfold m_X7_next_168 m_X7_next_187
        by_cases c1 : ck (T f) = 1
        · rw [decide_eq_true c1, if_neg (by simp), gd_nI (by omega) (by omega), nI_clamp (by omega), hb j (by omega), X7_isSmall (hc j (by omega)), Option.bind_some, ib0, decide_eq_true (show ck (T j) = 1 by omega), if_neg (by simp), n_1]
        · rw [decide_eq_false c1, if_pos rfl, decide_eq_true (show ck (T f) = 2 by omega), if_neg (show ¬ nI (true : Bool).toNat = nI 0 by decide), gd_nI (by omega) (by omega), nI_clamp (by omega), hb j (by omega), X7_isDigit (hc j (by omega)), Option.bind_some, ib0, decide_eq_true (show ck (T j) = 2 by omega), if_neg (by simp), n_1]
      · rw [m_X7_next_138]
        by_cases h4 : be T l f < l
        · have hk := ck_le (T f)
          rw [if_neg (nI_ge h4 (by omega)), ib0]
          unfold m_X7_next_168 m_X7_next_187
          by_cases c1 : ck (T f) = 1
          · have h5 := be_end e (by omega) h4
            rw [decide_eq_true c1, if_neg (by simp), gd_nI (by omega) (by omega), nI_clamp (by omega), hb _ h4, X7_isSmall (hc _ h4), Option.bind_some, ib0, decide_eq_false (show ¬ ck (T (be T l f)) = 1 by omega), if_pos rfl, decide_eq_false (show ¬ ck (T f) = 2 by omega), if_pos (show nI (false : Bool).toNat = nI 0 from rfl)]
          · rw [decide_eq_false c1, if_pos rfl]
            by_cases c2 : ck (T f) = 2
            · have h5 := be_end e (by omega) h4
              rw [decide_eq_true c2, if_neg (show ¬ nI (true : Bool).toNat = nI 0 by decide), gd_nI (by omega) (by omega), nI_clamp (by omega), hb _ h4, X7_isDigit (hc _ h4), Option.bind_some, ib0, decide_eq_false (show ¬ ck (T (be T l f)) = 2 by omega), if_pos rfl]
            · rw [decide_eq_false c2, if_pos (show nI (false : Bool).toNat = nI 0 from rfl)]
        · rw [if_pos (nI_le (by omega) (by omega))]
    · rw [if_pos (nI_le (by omega) (by omega))]
      unfold m_X7_next_71
      rw [if_pos (nI_le (by omega) (by omega))]
      unfold m_X7_next_105
      rw [if_pos (nI_le (by omega) (by omega))]
      obtain ⟨g, rfl⟩ : ∃ g, fu = g + 1 := ⟨fu - 1, by omega⟩
      rw [m_X7_next_138, if_pos (nI_le (by omega) (by omega))]
      unfold be
      rw [if_neg e]
  unfold m_X7_next
  refine forA (fun fn j => m_X7_next_8 fu (nI l) b fn (nI j)) i (fs T l i) _ fu s1 (by omega) (fun fn j h1 h2 => ?_) (fun fn => ?_)
  · rw [m_X7_next_8, if_neg (nI_ge (by omega) (by omega)), gd_nI (by omega) (by omega), nI_clamp (by omega), hb j (by omega), fs_in h1 h2, if_pos rfl, n_1]
  · rw [m_X7_next_8, tail]
    by_cases e : fs T l i < l
    · have h5 := fs_end hi e
      have h6 := hc _ e
      rw [if_neg (nI_ge e (by omega)), gd_nI (by omega) (by omega), nI_clamp (by omega), hb _ e, if_neg (fun z => h5 ((nI_eq (by omega) (by omega)).mp z))]
    · rw [if_pos (nI_le (by omega) (by omega))]
