/-! PURE N: orders -/
theorem upd_at (f : Nat → Int32) (k : Nat) (x : Int32) : upd f k x k = x := if_pos rfl
theorem upd_ne (f : Nat → Int32) {k j : Nat} (x : Int32) (h : j ≠ k) : upd f k x j = f j := if_neg h
/-- the manual with another order -/
def setO (r f : Nat → Nat) : Nat → Nat := fun j => if 33 ≤ j ∧ j < 33 + r 0 then f (j - 33) else r j
def PO (r f : Nat → Nat) : Prop := (∀ p, p < r 0 → f p < r 0) ∧ ∀ p q, p < r 0 → q < r 0 → f p = f q → p = q
theorem sO_lo (r f : Nat → Nat) {j : Nat} (h : j < 33) : setO r f j = r j := if_neg (by omega)
theorem sO_hi {r : Nat → Nat} (hv : r 0 ≤ 10) (f : Nat → Nat) {j : Nat} (h : 43 ≤ j) : setO r f j = r j := if_neg (by omega)
theorem sO_in {r : Nat → Nat} (f : Nat → Nat) {p : Nat} (h : p < r 0) : setO r f (33 + p) = f p := by
  unfold setO
  rw [if_pos ⟨by omega, by omega⟩, Nat.add_sub_cancel_left]
theorem sO_out {r : Nat → Nat} (f : Nat → Nat) {p : Nat} (h : r 0 ≤ p) : setO r f (33 + p) = r (33 + p) := if_neg (by omega)
theorem sO_0 (r f : Nat → Nat) : setO r f 0 = r 0 := sO_lo r f (by omega)
theorem Iv_setO {r f : Nat → Nat} (hv : Iv r) (hf : PO r f) : Iv (setO r f) := by
  obtain ⟨h0, h1, h2, h3, h4, h5, h6⟩ := hv
  refine ⟨?_, ?_, ?_, ?_, ?_, ?_, ?_⟩
  · rw [sO_0]; exact h0
  · intro s hs; rw [sO_lo _ _ (by omega)]; exact h1 s hs
  · intro t ht; rw [sO_0, sO_lo _ _ (by omega)]; exact h2 t ht
  · intro s hs; rw [sO_lo _ _ (by omega)]; exact h3 s hs
  · intro p hp; rw [sO_0] at hp ⊢; rw [sO_in f hp]; exact hf.1 p hp
  · intro p q hp hq; rw [sO_0] at hp hq; rw [sO_in f hp, sO_in f hq]; exact hf.2 p q hp hq
  · intro s hs; rw [sO_hi h0.2 f (by omega)]; exact h6 s hs
theorem Nm_setO {r : Nat → Nat} (f : Nat → Nat) (h0 : r 0 ≤ 10) (hn : Nm r) : Nm (setO r f) := by
  refine ⟨fun s hs h => ?_, fun j hj => ?_⟩
  · rw [sO_0] at hs
    rw [sO_lo _ _ (by omega), sO_lo _ _ (by omega), sO_out f hs, sO_hi h0 f (by omega)]
    exact hn.1 s hs h
  · rw [sO_hi h0 f (by omega)]; exact hn.2 j hj
theorem CM_setO {r : Nat → Nat} (f : Nat → Nat) (h0 : r 0 ≤ 10) {n : Int32} {L U H O B w : Nat → Int32} (hc : CM r n L U H O B) (hw : ∀ p, p < r 0 → w p = nI (f p)) : CM (setO r f) n L U H (fil w O (r 0)) B := by
  obtain ⟨g0, g1, g2, g3, g4, g5⟩ := hc
  refine ⟨?_, ?_, ?_, ?_, ?_, ?_⟩
  · rw [sO_0]; exact g0
  · intro s hs; rw [sO_lo _ _ (by omega)]; exact g1 s hs
  · intro s hs; rw [sO_lo _ _ (by omega)]; exact g2 s hs
  · intro s hs; rw [sO_lo _ _ (by omega)]; exact g3 s hs
  · intro p hp
    by_cases e : p < r 0
    · rw [fil_lt e, sO_in f e, hw p e]
    · rw [fil_ge (by omega), sO_out f (by omega)]; exact g4 p hp
  · intro s hs; rw [sO_hi h0 f (by omega)]; exact g5 s hs
theorem X3_takeOrder {N fu : Nat} (hN : N ≤ 10) (O w : Nat → Int32) (hfu : 1100 ≤ fu) : m_X3_takeOrder fu (nI N) O w = some (fil w O N) := by
  unfold m_X3_takeOrder
  have key := for0 (fun fn i => m_X3_takeOrder_2 (nI N) w fn (fil w O i) (nI i)) N (some (fil w O N)) fu (by omega) (fun fn i hi => by
    rw [m_X3_takeOrder_2, if_neg (nI_ge hi (by omega)), gd_nI (by omega) (by omega), gd_nI (by omega) (by omega), nI_clamp (by omega), fil_s, n_1]) (fun fn => by
    rw [m_X3_takeOrder_2, if_pos (nI_le (Nat.le_refl _) (by omega))])
  rw [fil_0] at key
  exact key
/-- the reference's exchange of orders -/
theorem X7_swapOrder {r : Nat → Nat} {k : Nat → Int32} (hc : R0 r k) (h0 : r 0 ≤ 10) (nu : Nat → Int32) {fu : Nat} (hfu : 1100 ≤ fu) : ∃ k' nu', m_X7_swapOrder fu k nu = some (k', nu') ∧ (∀ p, p < r 0 → k' (33 + p) = nu p ∧ nu' p = k (33 + p)) ∧ (∀ j, (j < 33 ∨ 33 + r 0 ≤ j) → k' j = k j) := by
  unfold m_X7_swapOrder
  obtain ⟨⟨k', nu'⟩, f, h1, h2⟩ := forE (σ := (Nat → Int32) × (Nat → Int32)) (fun fn st i => m_X7_swapOrder_2 fn st.1 st.2 (nI i)) (fun i st => (∀ p, p < i → st.1 (33 + p) = nu p ∧ st.2 p = k (33 + p)) ∧ (∀ j, (j < 33 ∨ 33 + i ≤ j) → st.1 j = k j) ∧ ∀ p, i ≤ p → st.2 p = nu p) (r 0) (fun fn st i hi hI => by
    obtain ⟨i1, i2, i3⟩ := hI
    refine ⟨(upd st.1 (33 + i) (st.2 i), upd st.2 i (st.1 (33 + i))), ⟨fun p hp => ?_, fun j hj => ?_, fun p hp => ?_⟩, ?_⟩
    · by_cases e : p = i
      · subst e
        exact ⟨(upd_at _ _ _).trans (i3 _ (Nat.le_refl _)), (upd_at _ _ _).trans (i2 _ (by omega))⟩
      · exact ⟨(upd_ne _ _ (by omega)).trans (i1 p (by omega)).1, (upd_ne _ _ (by omega)).trans (i1 p (by omega)).2⟩
    · show upd st.1 (33 + i) (st.2 i) j = k j
      rw [upd_ne _ _ (by omega)]
      exact i2 j (by omega)
    · show upd st.2 i _ p = nu p
      rw [upd_ne _ _ (by omega)]
      exact i3 p (by omega)
    · rw [m_X7_swapOrder_2, gd_nI (by omega) (by omega), nI_clamp (by omega), i2 0 (by omega), hc.1 0 (by omega) (by omega), if_neg (nI_ge hi (by omega)), nI_add 33 i, gd_nI (by omega) (by omega), gd_nI (by omega) (by omega), gd_nI (by omega) (by omega), gd_nI (by omega) (by omega), nI_clamp (by omega), nI_clamp (by omega), n_1]) (r 0) fu (k, nu) 0 (by omega) (by omega) ⟨fun p hp => absurd hp (by omega), fun j _ => rfl, fun p _ => rfl⟩
  refine ⟨k', nu', ?_, h1.1, h1.2.1⟩
  have h2 : m_X7_swapOrder_2 fu k nu (nI 0) = m_X7_swapOrder_2 (f + 1) k' nu' (nI (r 0)) := h2
  have e0 : k' 0 = k 0 := h1.2.1 0 (by omega)
  rw [h2, m_X7_swapOrder_2, gd_nI (by omega) (by omega), nI_clamp (by omega), e0, hc.1 0 (by omega) (by omega), if_pos (nI_le (Nat.le_refl _) (by omega))]
theorem R0_setO {r : Nat → Nat} (f : Nat → Nat) (h0 : r 0 ≤ 10) {k k' nu : Nat → Int32} (hc : R0 r k) (h1 : ∀ p, p < r 0 → k' (33 + p) = nu p) (h2 : ∀ j, (j < 33 ∨ 33 + r 0 ≤ j) → k' j = k j) (hw : ∀ p, p < r 0 → nu p = nI (f p)) : R0 (setO r f) k' := by
  refine ⟨fun j hj h => ?_, fun t ht => ?_⟩
  · by_cases e : 33 ≤ j ∧ j < 33 + r 0
    · obtain ⟨p, rfl⟩ : ∃ p, j = 33 + p := ⟨j - 33, by omega⟩
      rw [sO_in f (by omega), h1 p (by omega), hw p (by omega)]
    · rw [h2 j (by omega), hc.1 j hj h]
      unfold setO
      rw [if_neg e]
  · rw [h2 _ (by omega), hc.2 t ht, sO_lo _ _ (by omega)]
/-- an order keeps the precedences -/
def kp (r f : Nat → Nat) (p : Nat) : Bool := dif (r (43 + f p)) (orf (fun q => 2 ^ f q) p) == 0
def kpN (r f : Nat → Nat) : Nat := fnd (fun p => !(kp r f p)) (r 0) 0
def kpA (r f : Nat → Nat) : Bool := decide (kpN r f = r 0)
theorem kpN_le (r f : Nat → Nat) : kpN r f ≤ r 0 := by have := (fnd_le (fun p => !(kp r f p)) (r 0) 0).2; unfold kpN; omega
theorem kpN_no {r f : Nat → Nat} {p : Nat} (h : p < kpN r f) : kp r f p = true := by
  have := fnd_no (fun p => !(kp r f p)) (r 0) 0 p (Nat.zero_le p) h
  simpa using this
theorem kpN_yes {r f : Nat → Nat} (h : kpN r f < r 0) : kp r f (kpN r f) = false := by
  have := fnd_yes (fun p => !(kp r f p)) (r 0) 0 (by unfold kpN at h; omega)
  unfold kpN
  simpa using this
theorem orf_pow {f : Nat → Nat} {n s : Nat} : (orf (fun q => 2 ^ f q) n).testBit s = true ↔ ∃ q, q < n ∧ f q = s := by
  rw [orf_bit]
  constructor
  · rintro ⟨j, h1, h2⟩
    rw [Nat.testBit_two_pow, decide_eq_true_eq] at h2
    exact ⟨j, h1, h2⟩
  · rintro ⟨j, h1, h2⟩
    exact ⟨j, h1, by rw [Nat.testBit_two_pow, decide_eq_true_eq]; exact h2⟩
theorem Pr_setO {r f : Nat → Nat} (hv : Iv r) (hf : PO r f) : Pr (setO r f) ↔ kpA r f = true := by
  have h0 := hv.1.2
  have hb : ∀ p, p < r 0 → r (43 + f p) < 2 ^ 32 := fun p hp => by have := hf.1 p hp; have := hv.2.2.2.2.2.2 (f p) (by omega); omega
  constructor
  · intro h
    refine decide_eq_true ?_
    rcases Nat.lt_or_ge (kpN r f) (r 0) with q | q
    · exfalso
      have := kpN_yes q
      unfold kp at this
      rw [beq_eq_false_iff_ne] at this
      refine this ((dif_0 (hb _ q)).mpr (fun i hi => ?_))
      have z := h (kpN r f) (by rw [sO_0]; exact q) i (by rw [sO_in f q, sO_hi h0 f (by omega)]; exact hi)
      obtain ⟨p, g1, g2⟩ := z
      rw [sO_in f (by omega)] at g2
      exact orf_pow.mpr ⟨p, g1, g2⟩
    · have := kpN_le r f; omega
  · intro h p hp a ha
    have h := of_decide_eq_true h
    rw [sO_0] at hp
    rw [sO_in f hp, sO_hi h0 f (by omega)] at ha
    have := kpN_no (r := r) (f := f) (p := p) (by omega)
    unfold kp at this
    have := (dif_0 (hb p hp)).mp (beq_iff_eq.mp this) a ha
    obtain ⟨q, g1, g2⟩ := orf_pow.mp this
    exact ⟨q, g1, by rw [sO_in f (by omega)]; exact g2⟩
theorem X3_respects {r f : Nat → Nat} {n : Int32} {L U H O B w : Nat → Int32} (hc : CM r n L U H O B) (hv : Iv r) (hf : ∀ p, p < r 0 → f p < r 0) (hw : ∀ p, p < r 0 → w p = nI (f p)) {fu : Nat} (hfu : 1100 ≤ fu) : m_X3_respectsPrecedences fu n B w = some (nI (kpA r f).toNat) := by
  obtain ⟨rfl, -, -, -, -, hB⟩ := hc
  have h0 := hv.1.2
  have hN := kpN_le r f
  unfold m_X3_respectsPrecedences
  refine for0 (fun fn i => m_X3_respectsPrecedences_4 (nI (r 0)) B w fn (nI (orf (fun q => 2 ^ f q) i)) (nI i)) (kpN r f) _ fu (by omega) (fun fn i hi => ?_) (fun fn => ?_)
  · have hfi := hf i (by omega)
    have hk := kpN_no hi
    unfold kp at hk
    have hb := hv.2.2.2.2.2.2 (f i) (by omega)
    rw [m_X3_respectsPrecedences_4, if_neg (nI_ge (by omega) (by omega)), gd_nI (by omega) (by omega), nI_clamp (by omega), hw i (by omega), gd_nI (by omega) (by omega), nI_clamp (by omega), hB _ (by omega), n_dif, if_pos (by rw [beq_iff_eq.mp hk]), X6_with (by omega), Option.bind_some, n_1, orf]
  · rw [m_X3_respectsPrecedences_4]
    by_cases e : kpN r f = r 0
    · rw [if_pos (by rw [e]; exact nI_le (Nat.le_refl _) (by omega)), show kpA r f = true from decide_eq_true e]; rfl
    · have hk := kpN_yes (r := r) (f := f) (by omega)
      have hfi := hf (kpN r f) (by omega)
      have hb := hv.2.2.2.2.2.2 (f (kpN r f)) (by omega)
      unfold kp at hk
      rw [if_neg (nI_ge (by omega) (by omega)), gd_nI (by omega) (by omega), nI_clamp (by omega), hw _ (by omega), gd_nI (by omega) (by omega), nI_clamp (by omega), hB _ (by omega), n_dif, if_neg (fun z => (beq_eq_false_iff_ne.mp hk) ((nI_eq (Nat.lt_trans (dif_lt (k := 10) (by omega) (by omega)) (by omega)) (by omega)).mp z)), show kpA r f = false from decide_eq_false e]; rfl
theorem X7_isKeeping {r f : Nat → Nat} {k nu : Nat → Int32} (hc : R0 r k) (hv : Iv r) (hf : ∀ p, p < r 0 → f p < r 0) (hw : ∀ p, p < r 0 → nu p = nI (f p)) {fu : Nat} (hfu : 1100 ≤ fu) : m_X7_isKeeping fu k nu = some (nI (kpA r f).toNat) := by
  have h0 := hv.1.2
  have hN := kpN_le r f
  unfold m_X7_isKeeping
  refine for0 (fun fn i => m_X7_isKeeping_6 k nu fn (nI (orf (fun q => 2 ^ f q) i)) (nI (decide (i ≤ kpN r f)).toNat) (nI i)) (r 0) _ fu (by omega) (fun fn i hi => ?_) (fun fn => ?_)
  · have hfi := hf i hi
    have hb := hv.2.2.2.2.2.2 (f i) (by omega)
    rw [m_X7_isKeeping_6, gd_nI (by omega) (by omega), nI_clamp (by omega), hc.1 0 (by omega) (by omega), if_neg (nI_ge hi (by omega)), ib0]
    have tail : ∀ s0 : Int32, m_X7_isKeeping_46 nu s0 (nI (orf (fun q => 2 ^ f q) i)) (nI i) (m_X7_isKeeping_6 k nu fn) = m_X7_isKeeping_6 k nu fn (nI (orf (fun q => 2 ^ f q) (i + 1))) s0 (nI (i + 1)) := fun s0 => by
      unfold m_X7_isKeeping_46
      rw [gd_nI (by omega) (by omega), nI_clamp (by omega), hw i hi, n_bit (by omega), n_or, n_1, orf]
    by_cases e : i ≤ kpN r f
    · rw [decide_eq_true e, if_neg (by simp), gd_nI (by omega) (by omega), nI_clamp (by omega), hw i hi, nI_add 43, gd_nI (by omega) (by omega), nI_clamp (by omega), hc.1 _ (by omega) (by omega), n_dif, tail, tail]
      by_cases e2 : i < kpN r f
      · have hk := kpN_no e2
        unfold kp at hk
        rw [if_pos (by rw [beq_iff_eq.mp hk]), decide_eq_true (show i + 1 ≤ kpN r f by omega)]; rfl
      · obtain rfl : i = kpN r f := by omega
        have hk := kpN_yes (r := r) (f := f) (by omega)
        unfold kp at hk
        rw [if_neg (fun z => (beq_eq_false_iff_ne.mp hk) ((nI_eq (Nat.lt_trans (dif_lt (k := 10) (by omega) (by omega)) (by omega)) (by omega)).mp z)), decide_eq_false (show ¬ kpN r f + 1 ≤ kpN r f by omega)]; rfl
    · rw [decide_eq_false e, if_pos rfl, tail, decide_eq_false (show ¬ i + 1 ≤ kpN r f by omega)]; rfl
  · rw [m_X7_isKeeping_6, gd_nI (by omega) (by omega), nI_clamp (by omega), hc.1 0 (by omega) (by omega), if_pos (nI_le (Nat.le_refl _) (by omega)), zb_b]
    unfold kpA
    rw [show decide (r 0 ≤ kpN r f) = decide (kpN r f = r 0) from decide_eq_decide.mpr (by omega)]
