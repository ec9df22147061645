/-! PURE R: words, numbers and terms of a token -/
def wc (k j : Nat) : Nat := (wch k j).toNatClampNeg
theorem wc_1 : ∀ k, k < 6 → ∀ j, j < 8 → nmA 48 (8 * k + j) = nI (wc k j) ∧ wch k j = nI (wc k j) ∧ wc k j < 256 ∧ (j < wlen k → 97 ≤ wc k j ∧ wc k j ≤ 122) ∧ (wlen k ≤ j → wc k j = 0) := by decide +kernel
theorem wc_2 : ∀ k, k < 6 → 1 ≤ wlen k ∧ wlen k ≤ 8 := by decide +kernel
def wm (T : Nat → Nat) (l f k : Nat) : Bool := decide (kd T l f = 1 ∧ be T l f - f = wlen k ∧ ∀ j, j < wlen k → T (f + j) = wc k j)
theorem X5_isWord {T : Nat → Nat} {l : Nat} {b : Nat → Int32} (hT : TX T l b) {f k fu : Nat} (hf : f ≤ l) (hk : k < 6) (hfu : 1100 ≤ fu) : m_X5_isWord fu (nI f) (nI (be T l f)) (nI (kd T l f)) b (wlen k) (wch k) = some (nI (wm T l f k).toNat) := by
  obtain ⟨hb, hc, hl⟩ := hT
  obtain ⟨g1, g2, g3⟩ := be_le (T := T) hf
  have hkd := kd_le T l f
  obtain ⟨w1, w2⟩ := wc_2 k hk
  unfold m_X5_isWord
  by_cases c1 : kd T l f = 1
  · rw [if_pos (by rw [c1]), nI_sub g1]
    by_cases c2 : be T l f - f = wlen k
    · rw [if_pos (by rw [c2])]
      have hD := fnd_le (fun j => T (f + j) != wc k j) (wlen k) 0
      refine for0 (fun fn j => m_X5_isWord_28 (nI f) b (wch k) (wlen k) fn (nI j)) (fnd (fun j => T (f + j) != wc k j) (wlen k) 0) _ fu (by omega) (fun fn j hj => ?_) (fun fn => ?_)
      · have h1 := fnd_no (fun j => T (f + j) != wc k j) (wlen k) 0 j (Nat.zero_le j) hj
        have h1 : T (f + j) = wc k j := by simpa using h1
        rw [m_X5_isWord_28, if_neg (nI_ge (by omega) (by omega)), nI_add, gd_nI (by omega) (by omega), gd_nI (by omega) (by omega), nI_clamp (by omega), nI_clamp (by omega), hb _ (by omega), (wc_1 k hk j (by omega)).2.1, if_pos (by rw [h1]), n_1]
      · rw [m_X5_isWord_28]
        by_cases e : fnd (fun j => T (f + j) != wc k j) (wlen k) 0 = wlen k
        · rw [if_pos (by rw [e]; exact nI_le (Nat.le_refl _) (by omega)), show wm T l f k = true from decide_eq_true ⟨c1, c2, fun j hj => by have := fnd_no (fun j => T (f + j) != wc k j) (wlen k) 0 j (Nat.zero_le j) (by omega); simpa using this⟩]; rfl
        · have h2 := fnd_yes (fun j => T (f + j) != wc k j) (wlen k) 0 (by omega)
          have h2 : T (f + fnd (fun j => T (f + j) != wc k j) (wlen k) 0) ≠ wc k (fnd (fun j => T (f + j) != wc k j) (wlen k) 0) := by simpa using h2
          generalize hDD : fnd (fun j => T (f + j) != wc k j) (wlen k) 0 = D at hD e h2 ⊢
          have h3 := hc (f + D) (by omega)
          have h4 := (wc_1 k hk D (by omega)).2.2.1
          rw [if_neg (nI_ge (by omega) (by omega)), nI_add, gd_nI (by omega) (by omega), gd_nI (by omega) (by omega), nI_clamp (by omega), nI_clamp (by omega), hb _ (by omega), (wc_1 k hk D (by omega)).2.1, if_neg (fun z => h2 ((nI_eq (by omega) (by omega)).mp z)), show wm T l f k = false from decide_eq_false (fun z => h2 (z.2.2 D (by omega)))]; rfl
    · rw [if_neg (fun z => c2 ((nI_eq (by omega) (by omega)).mp z)), show wm T l f k = false from decide_eq_false (fun z => c2 z.2.1)]; rfl
  · rw [if_neg (fun z => c1 ((nI_eq (by omega) (by omega)).mp z)), show wm T l f k = false from decide_eq_false (fun z => c1 z.1)]; rfl
/-- the reference's comparison of a name -/
def cz (T : Nat → Nat) (l f k j : Nat) : Bool := decide (wc k j = if f + j < be T l f then T (f + j) else 0)
theorem cz_wm {T : Nat → Nat} {l f k : Nat} (hf : f < l) (hk : k < 6) (hl : be T l f - f ≤ 8) : (∀ j, j < 8 → cz T l f k j = true) ↔ wm T l f k = true := by
  obtain ⟨g1, g2, g3⟩ := be_le (T := T) (l := l) (f := f) (by omega)
  have g3 := g3 hf
  obtain ⟨w1, w2⟩ := wc_2 k hk
  constructor
  · intro h
    have h0 := of_decide_eq_true (h 0 (by omega))
    rw [if_pos (by omega)] at h0
    have l0 := (wc_1 k hk 0 (by omega)).2.2.2.1 (by omega)
    have k1 : ck (T f) = 1 := ck_1.mpr (by rw [Nat.add_zero] at h0; omega)
    have hlen : be T l f - f = wlen k := by
      rcases Nat.lt_trichotomy (be T l f - f) (wlen k) with q | q | q
      · have h1 := of_decide_eq_true (h (be T l f - f) (by omega))
        rw [if_neg (by omega)] at h1
        have := (wc_1 k hk (be T l f - f) (by omega)).2.2.2.1 q
        omega
      · exact q
      · have h1 := of_decide_eq_true (h (wlen k) (by omega))
        rw [if_pos (by omega)] at h1
        have h2 := (wc_1 k hk (wlen k) (by omega)).2.2.2.2 (Nat.le_refl _)
        have h3 := be_in (T := T) (l := l) (f := f) (j := f + wlen k) (by omega) (by omega)
        have := ck_1.mp (h3.trans k1)
        omega
    exact decide_eq_true ⟨(kd_in hf).trans k1, hlen, fun j hj => by
      have h1 := of_decide_eq_true (h j (by omega))
      rw [if_pos (by omega)] at h1
      exact h1.symm⟩
  · intro h j hj
    obtain ⟨a1, a2, a3⟩ := of_decide_eq_true h
    refine decide_eq_true ?_
    by_cases e : f + j < be T l f
    · rw [if_pos e]; exact (a3 j (by omega)).symm
    · rw [if_neg e]; exact (wc_1 k hk j hj).2.2.2.2 (by omega)
theorem wm_len {T : Nat → Nat} {l f k : Nat} (hk : k < 6) (h : wm T l f k = true) : f < l ∧ f < be T l f ∧ be T l f - f ≤ 8 := by
  obtain ⟨a1, a2, a3⟩ := of_decide_eq_true h
  obtain ⟨w1, w2⟩ := wc_2 k hk
  have hf : f < l := by
    by_cases e : f < l
    · exact e
    · rw [kd_out e] at a1; omega
  exact ⟨hf, by omega, by omega⟩
theorem X7_name1 {T : Nat → Nat} {l : Nat} {b : Nat → Int32} (hT : TX T l b) {f k fu : Nat} (hf : f < l) (hk : k < 6) (hl : be T l f - f ≤ 8) (hfu : 1100 ≤ fu) (K : Int32 → Option Int32) : m_X7_nameHere_41 (nI f) (nI (be T l f)) b (nmA 48) (nI k) K fu (nI 1) (nI 0) = if wm T l f k = true then some (nI k) else K (nI (k + 1)) := by
  obtain ⟨hb, hc, hl2⟩ := hT
  obtain ⟨g1, g2, g3⟩ := be_le (T := T) (l := l) (f := f) (by omega)
  have hD := fnd_le (fun j => !(cz T l f k j)) 8 0
  have step : ∀ fn j, j < 8 → m_X7_nameHere_41 (nI f) (nI (be T l f)) b (nmA 48) (nI k) K (fn + 1) (nI 1) (nI j) = m_X7_nameHere_41 (nI f) (nI (be T l f)) b (nmA 48) (nI k) K fn (nI (cz T l f k j).toNat) (nI (j + 1)) := fun fn j hj => by
    have q := wc_1 k hk j hj
    rw [m_X7_nameHere_41, if_neg (nI_ge hj (by omega)), if_neg (show ¬ nI 1 = nI 0 by decide), n_mul, nI_add, nI_add, gd_nI (by omega) (by omega), nI_clamp (by omega), q.1]
    unfold m_X7_nameHere_90 cz
    by_cases e : f + j < be T l f
    · have h3 := hc (f + j) (by omega)
      rw [if_neg (nI_ge e (by omega)), gd_nI (by omega) (by omega), nI_clamp (by omega), hb _ (by omega), n_1, if_pos e]
      by_cases d : wc k j = T (f + j)
      · rw [if_pos (by rw [d]), decide_eq_true d]; rfl
      · rw [if_neg (fun z => d ((nI_eq (by omega) (by omega)).mp z)), decide_eq_false d]; rfl
    · rw [if_pos (nI_le (by omega) (by omega)), n_1, if_neg e]
      by_cases d : wc k j = 0
      · rw [if_pos (by rw [d]), decide_eq_true d]; rfl
      · rw [if_neg (fun z => d ((nI_eq (by omega) (by omega)).mp z)), decide_eq_false d]; rfl
  obtain ⟨g, rfl⟩ : ∃ g, fu = g + 1 := ⟨fu - 1, by omega⟩
  refine for0 (fun fn j => m_X7_nameHere_41 (nI f) (nI (be T l f)) b (nmA 48) (nI k) K (fn + 1) (nI 1) (nI j)) (fnd (fun j => !(cz T l f k j)) 8 0) _ g (by omega) (fun fn j hj => ?_) (fun fn => ?_)
  · have h1 := fnd_no (fun j => !(cz T l f k j)) 8 0 j (Nat.zero_le j) hj
    have h1 : cz T l f k j = true := by simpa using h1
    rw [step (fn + 1) j (by omega), h1]; rfl
  · by_cases e : fnd (fun j => !(cz T l f k j)) 8 0 = 8
    · rw [e, if_pos ((cz_wm hf hk hl).mp (fun j hj => by have h1 := fnd_no (fun j => !(cz T l f k j)) 8 0 j (Nat.zero_le j) (by omega); simpa using h1)), m_X7_nameHere_41, if_pos (nI_le (Nat.le_refl _) (by omega))]
      unfold m_X7_nameHere_105
      rw [if_neg (show ¬ nI 1 = nI 0 by decide)]
    · have h2 := fnd_yes (fun j => !(cz T l f k j)) 8 0 (by omega)
      have h2 : cz T l f k (fnd (fun j => !(cz T l f k j)) 8 0) = false := by simpa using h2
      generalize hDD : fnd (fun j => !(cz T l f k j)) 8 0 = D at hD e h2 ⊢
      have hw : wm T l f k ≠ true := fun z => by rw [(cz_wm hf hk hl).mpr z D (by omega)] at h2; cases h2
      rw [if_neg hw, step (fn + 1) D (by omega), h2, m_X7_nameHere_41]
      have e0 : m_X7_nameHere_105 (nI k) (nI (false : Bool).toNat) K = K (nI (k + 1)) := by
        unfold m_X7_nameHere_105
        rw [if_pos (show nI (false : Bool).toNat = nI 0 from rfl), n_1]
      rw [e0, if_pos (show nI (false : Bool).toNat = nI 0 from rfl)]
      split <;> rfl
/-- the first name that a token is, or 6 -/
def nmi (T : Nat → Nat) (l f : Nat) : Nat := fnd (fun k => wm T l f k) 6 0
theorem X7_nameHere {T : Nat → Nat} {l : Nat} {b : Nat → Int32} (hT : TX T l b) {f fu : Nat} (hf : f ≤ l) (hfu : 1100 ≤ fu) : m_X7_nameHere fu (nI f) (nI (be T l f)) b (nmA 48) = some (if nmi T l f < 6 then nI (nmi T l f) else (-1 : Int32)) := by
  have hT2 := hT
  obtain ⟨hb, hc, hl⟩ := hT
  obtain ⟨g1, g2, g3⟩ := be_le (T := T) (l := l) (f := f) (by omega)
  have hD := fnd_le (fun k => wm T l f k) 6 0
  have step : ∀ fn k, k < 6 → m_X7_nameHere_2 fu (nI f) (nI (be T l f)) b (nmA 48) (fn + 1) (nI k) = if wm T l f k = true then some (nI k) else m_X7_nameHere_2 fu (nI f) (nI (be T l f)) b (nmA 48) fn (nI (k + 1)) := fun fn k hk => by
    have no : ∀ K : Int32 → Option Int32, m_X7_nameHere_41 (nI f) (nI (be T l f)) b (nmA 48) (nI k) K fu (nI 0) (nI 0) = K (nI (k + 1)) := fun K => by
      obtain ⟨g, rfl⟩ : ∃ g, fu = g + 1 := ⟨fu - 1, by omega⟩
      rw [m_X7_nameHere_41, if_neg (nI_ge (by omega) (by omega)), if_pos rfl]
      unfold m_X7_nameHere_105
      rw [if_pos rfl, n_1]
    rw [m_X7_nameHere_2, if_neg (nI_ge hk (by omega)), no]
    by_cases e : f < be T l f
    · rw [if_neg (nI_ge e (by omega)), nI_sub g1]
      by_cases d : 9 ≤ be T l f - f
      · rw [if_pos (nI_le d (by omega)), if_neg]
        intro z
        have := wm_len hk z
        omega
      · rw [if_neg (nI_ge (by omega) (by omega)), X7_name1 hT2 (by omega) hk (by omega) hfu]
    · rw [if_pos (nI_le (by omega) (by omega)), if_neg]
      intro z
      have := wm_len hk z
      omega
  unfold m_X7_nameHere
  refine for0 (fun fn k => m_X7_nameHere_2 fu (nI f) (nI (be T l f)) b (nmA 48) fn (nI k)) (nmi T l f) _ fu (by unfold nmi; omega) (fun fn k hk => ?_) (fun fn => ?_)
  · have h1 := fnd_no (fun k => wm T l f k) 6 0 k (Nat.zero_le k) hk
    unfold nmi at hk
    rw [step fn k (by omega), if_neg (by rw [h1]; simp)]
  · by_cases e : nmi T l f < 6
    · have h2 := fnd_yes (fun k => wm T l f k) 6 0 (by unfold nmi at e; omega)
      rw [step fn _ e, if_pos e]
      exact if_pos h2
    · have e6 : nmi T l f = 6 := by unfold nmi at e ⊢; omega
      rw [e6, m_X7_nameHere_2, if_pos (nI_le (Nat.le_refl _) (by omega)), if_neg (by omega)]
/-- the value of the first digits of a token -/
def dv (T : Nat → Nat) (f : Nat) : Nat → Nat
  | 0 => 0
  | n + 1 => 10 * dv T f n + (T (f + n) - 48)
def nv (T : Nat → Nat) (l f : Nat) : Nat := dv T f (be T l f - f)
def isnum (T : Nat → Nat) (l f : Nat) : Bool := decide (kd T l f = 2 ∧ be T l f - f ≤ 2)
def rdn (T : Nat → Nat) (l f lo hi : Nat) : Bool := decide (isnum T l f = true ∧ lo ≤ nv T l f ∧ nv T l f ≤ hi)
theorem isnum_ok {T : Nat → Nat} {l f : Nat} (h : isnum T l f = true) : f < l ∧ be T l f - f ≤ 2 ∧ ∀ j, f + j < be T l f → 48 ≤ T (f + j) ∧ T (f + j) ≤ 57 := by
  obtain ⟨h1, h2⟩ := of_decide_eq_true h
  have hf : f < l := by
    by_cases e : f < l
    · exact e
    · rw [kd_out e] at h1; omega
  rw [kd_in hf] at h1
  exact ⟨hf, h2, fun j hj => ck_2.mp ((be_in (by omega) hj).trans h1)⟩
theorem dv_le {T : Nat → Nat} {f : Nat} : ∀ n, n ≤ 2 → (∀ j, j < n → T (f + j) ≤ 57) → dv T f n ≤ 99 := by
  intro n hn h
  rcases n with _ | _ | _ | n
  · simp [dv]
  · have := h 0 (by omega); simp only [dv]; omega
  · have := h 0 (by omega); have := h 1 (by omega); simp only [dv]; omega
  · omega
theorem nv_le {T : Nat → Nat} {l f : Nat} (h : isnum T l f = true) : nv T l f ≤ 99 := by
  obtain ⟨h1, h2, h3⟩ := isnum_ok h
  exact dv_le _ h2 (fun j hj => (h3 j (by omega)).2)
theorem dvl {T : Nat → Nat} {l f n : Nat} (h : isnum T l f = true) (hn : f + n < be T l f) : nI (10 * dv T f n) + nI (T (f + n)) - nI 48 = nI (dv T f (n + 1)) := by
  obtain ⟨h1, h2, h3⟩ := isnum_ok h
  have := h3 n hn
  rw [nI_add, nI_sub (by omega), dv, show 10 * dv T f n + T (f + n) - 48 = 10 * dv T f n + (T (f + n) - 48) by omega]
theorem X5_asNumber {T : Nat → Nat} {l : Nat} {b : Nat → Int32} (hT : TX T l b) {f lo hi fu : Nat} (hf : f ≤ l) (hlo : lo < 1000) (hhi : hi < 1000) (hfu : 1100 ≤ fu) : m_X5_asNumber fu (nI f) (nI (be T l f)) (nI (kd T l f)) b (nI lo) (nI hi) = some (if rdn T l f lo hi = true then nI (nv T l f) else (-1 : Int32)) := by
  obtain ⟨hb, hc, hl⟩ := hT
  obtain ⟨g1, g2, g3⟩ := be_le (T := T) (l := l) (f := f) (by omega)
  have hkd := kd_le T l f
  unfold m_X5_asNumber
  by_cases c1 : kd T l f = 2
  · rw [if_pos (by rw [c1]), nI_sub g1]
    by_cases c2 : be T l f - f ≤ 2
    · have hn : isnum T l f = true := decide_eq_true ⟨c1, c2⟩
      have hv := nv_le hn
      rw [if_pos (nI_le c2 (by omega))]
      refine for0 (fun fn j => m_X5_asNumber_31 (nI (be T l f)) b (nI lo) (nI hi) fn (nI (dv T f j)) (nI (f + j))) (be T l f - f) _ fu (by omega) (fun fn j hj => ?_) (fun fn => ?_)
      · rw [m_X5_asNumber_31, if_neg (nI_ge (by omega) (by omega)), gd_nI (by omega) (by omega), nI_clamp (by omega), hb _ (by omega), n_mul, show dv T f j * 10 = 10 * dv T f j by omega, dvl hn (by omega), n_1]
        rfl
      · rw [m_X5_asNumber_31, if_pos (nI_le (by omega) (by omega)), show dv T f (be T l f - f) = nv T l f from rfl]
        by_cases d : nv T l f < lo
        · rw [if_pos ((nI_ltI (by omega) (by omega)).mpr d), if_neg (fun z => by have := of_decide_eq_true z; omega)]
        · rw [if_neg (fun z => d ((nI_ltI (by omega) (by omega)).mp z))]
          by_cases d2 : nv T l f ≤ hi
          · rw [if_pos (nI_le d2 (by omega)), if_pos (show rdn T l f lo hi = true from decide_eq_true ⟨hn, by omega, d2⟩)]
          · rw [if_neg (nI_ge (by omega) (by omega)), if_neg (fun z => by have := of_decide_eq_true z; omega)]
    · rw [if_neg (nI_ge (by omega) (by omega)), if_neg (fun z => by have := of_decide_eq_true (of_decide_eq_true z).1; omega)]
  · rw [if_neg (fun z => c1 ((nI_eq (by omega) (by omega)).mp z)), if_neg (fun z => by have := of_decide_eq_true (of_decide_eq_true z).1; omega)]
theorem X7_valueHere {T : Nat → Nat} {l : Nat} {b : Nat → Int32} (hT : TX T l b) {f fu : Nat} (hn : isnum T l f = true) (hfu : 1100 ≤ fu) : m_X7_valueHere fu (nI f) (nI (be T l f)) b = some (nI (nv T l f)) := by
  obtain ⟨hb, hc, hl⟩ := hT
  obtain ⟨h1, h2, h3⟩ := isnum_ok hn
  obtain ⟨g1, g2, g3⟩ := be_le (T := T) (l := l) (f := f) (by omega)
  unfold m_X7_valueHere
  refine for0 (fun fn j => m_X7_valueHere_7 (nI (be T l f)) b fn (nI (dv T f j)) (nI (f + j))) (be T l f - f) _ fu (by omega) (fun fn j hj => ?_) (fun fn => ?_)
  · rw [m_X7_valueHere_7, if_neg (nI_ge (by omega) (by omega)), gd_nI (by omega) (by omega), nI_clamp (by omega), hb _ (by omega), n_mul, dvl hn (by omega), n_1]
    rfl
  · rw [m_X7_valueHere_7, if_pos (nI_le (by omega) (by omega))]
    rfl
theorem X7_reads {T : Nat → Nat} {l : Nat} {b : Nat → Int32} (hT : TX T l b) {f q lo hi fu : Nat} (hf : f ≤ l) (hq : q < 10) (hlo : lo < 1000) (hhi : hi < 1000) (hfu : 1100 ≤ fu) (nu : Nat → Int32) (xe : Int32) : m_X7_reads fu (nI l) (nI f) (nI (be T l f)) b nu (nI q) (nI lo) (nI hi) xe = if rdn T l f lo hi = true ∧ nI (nv T l f) ≠ xe then some (nI 1, nI (fs T l (be T l f)), nI (be T l (fs T l (be T l f))), upd nu q (nI (nv T l f))) else some (nI 0, nI f, nI (be T l f), nu) := by
  have hT2 := hT
  obtain ⟨hb, hc, hl⟩ := hT
  obtain ⟨g1, g2, g3⟩ := be_le (T := T) (l := l) (f := f) (by omega)
  unfold m_X7_reads
  have hno : ∀ z : rdn T l f lo hi = true ∧ nI (nv T l f) ≠ xe, isnum T l f = true := fun z => (of_decide_eq_true z.1).1
  by_cases e : f < l
  · have g3 := g3 e
    rw [if_neg (fun z => by have := (nI_eq (by omega) (by omega)).mp z; omega), gd_nI (by omega) (by omega), nI_clamp (by omega), hb f e, X7_isDigit (hc f e), Option.bind_some, ib0]
    by_cases c1 : ck (T f) = 2
    · rw [decide_eq_true c1, if_neg (by simp), nI_sub g1]
      by_cases c2 : be T l f - f ≤ 2
      · have hn : isnum T l f = true := decide_eq_true ⟨(kd_in e).trans c1, c2⟩
        have hv := nv_le hn
        rw [if_pos (nI_le c2 (by omega))]
        refine for0 (fun fn j => m_X7_reads_50 fu (nI l) (nI f) (nI (be T l f)) b nu (nI q) (nI lo) (nI hi) xe fn (nI (dv T f j)) (nI (f + j))) (be T l f - f) _ fu (by omega) (fun fn j hj => ?_) (fun fn => ?_)
        · rw [m_X7_reads_50, if_neg (nI_ge (by omega) (by omega)), gd_nI (by omega) (by omega), nI_clamp (by omega), hb _ (by omega), n_mul, dvl hn (by omega), n_1]
          rfl
        · rw [m_X7_reads_50, if_pos (nI_le (by omega) (by omega)), show dv T f (be T l f - f) = nv T l f from rfl, nI_l (n := lo) (by omega), nI_l (n := hi) (by omega), X7_in (by omega) (by omega), Option.bind_some, ib0, iv2_nI (by omega)]
          by_cases d : lo ≤ nv T l f ∧ nv T l f ≤ hi
          · rw [decide_eq_true d, if_neg (by simp)]
            by_cases d2 : nI (nv T l f) = xe
            · rw [if_pos d2, if_neg (fun z => z.2 d2)]
            · rw [if_neg d2, gd_nI (by omega) (by omega), X7_next hT2 (by omega) hfu, Option.bind_some, nI_clamp (by omega), if_pos ⟨decide_eq_true ⟨hn, d⟩, d2⟩]
          · rw [decide_eq_false d, if_pos rfl, if_neg (fun z => d (of_decide_eq_true z.1).2)]
      · rw [if_neg (nI_ge (by omega) (by omega)), if_neg (fun z => by have := of_decide_eq_true (hno z); omega)]
    · rw [decide_eq_false c1, if_pos rfl, if_neg (fun z => by have := of_decide_eq_true (hno z); rw [kd_in e] at this; omega)]
  · rw [if_pos (by rw [show f = l by omega]), if_neg (fun z => e (isnum_ok (hno z)).1)]
