/-! PURE O: moves, the best order as an order, precedences -/
def mvI (F p i : Nat) : Nat := if i = p then F else if F ≤ i ∧ i < p then i + 1 else if p < i ∧ i ≤ F then i - 1 else i
def mv (r : Nat → Nat) (s p i : Nat) : Nat := r (33 + mvI (pl r s) p i)
theorem mvI_lt {F p i n : Nat} (hF : F < n) (hp : p < n) (hi : i < n) : mvI F p i < n := by
  unfold mvI
  repeat' split
  all_goals omega
theorem mvI_inj {F p i j : Nat} (h : mvI F p i = mvI F p j) : i = j := by
  unfold mvI at h
  repeat' split at h
  all_goals omega
theorem mv_PO {r : Nat → Nat} (hv : Iv r) {s p : Nat} (hs : s < r 0) (hp : p < r 0) : PO r (mv r s p) := by
  obtain ⟨q1, q2⟩ := pl_lt hv hs
  refine ⟨fun i hi => hv.2.2.2.2.1 _ (mvI_lt q1 hp hi), fun i j hi hj h => ?_⟩
  exact mvI_inj (hv.2.2.2.2.2.1 _ _ (mvI_lt q1 hp hi) (mvI_lt q1 hp hj) h)
theorem X3_orderAfterMove {r : Nat → Nat} {n : Int32} {L U H O B : Nat → Int32} (hc : CM r n L U H O B) (hv : Iv r) (w : Nat → Int32) {s p fu : Nat} (hs : s < r 0) (hp : p < r 0) (hfu : 1100 ≤ fu) : ∃ w', m_X3_orderAfterMove fu n O w (nI s) (nI p) = some w' ∧ ∀ i, i < r 0 → w' i = nI (mv r s p i) := by
  obtain ⟨q1, q2⟩ := pl_lt hv hs
  have h0 := hv.1.2
  unfold m_X3_orderAfterMove
  rw [X3_placeOf hc hv hs hfu, Option.bind_some]
  obtain ⟨rfl, -, -, -, hO, -⟩ := hc
  obtain ⟨w1, f1, i1, e1⟩ := forE (fun fn st i => m_X3_orderAfterMove_10 fu (nI (r 0)) O (nI s) (nI p) (nI (pl r s)) fn st (nI i)) (fun i st => ∀ j, j < i → st j = nI (r (33 + j))) (r 0) (fun fn st i hi hI => by
    refine ⟨upd st i (O i), fun j hj => ?_, ?_⟩
    · by_cases e : j = i
      · subst e; rw [upd_at, hO _ (by omega)]
      · rw [upd_ne _ _ e]; exact hI j (by omega)
    · rw [m_X3_orderAfterMove_10, if_neg (nI_ge hi (by omega)), gd_nI (by omega) (by omega), gd_nI (by omega) (by omega), nI_clamp (by omega), n_1]) (r 0) fu w 0 (by omega) (by omega) (fun j hj => absurd hj (by omega))
  have e1 : m_X3_orderAfterMove_10 fu (nI (r 0)) O (nI s) (nI p) (nI (pl r s)) fu w (nI 0) = m_X3_orderAfterMove_10 fu (nI (r 0)) O (nI s) (nI p) (nI (pl r s)) (f1 + 1) w1 (nI (r 0)) := e1
  rw [e1, m_X3_orderAfterMove_10, if_pos (nI_le (Nat.le_refl _) (by omega))]
  obtain ⟨w2, f2, i2, e2⟩ := forE (fun fn st i => m_X3_orderAfterMove_40 fu O (nI s) (nI p) (nI (pl r s)) fn st (nI (pl r s + i))) (fun i st => ∀ j, j < r 0 → st j = nI (r (33 + if pl r s ≤ j ∧ j < pl r s + i then j + 1 else j))) (p - pl r s) (fun fn st i hi hI => by
    refine ⟨upd st (pl r s + i) (O (pl r s + i + 1)), fun j hj => ?_, ?_⟩
    · by_cases e : j = pl r s + i
      · subst e; rw [upd_at, hO _ (by omega), if_pos ⟨by omega, by omega⟩]
      · rw [upd_ne _ _ e, hI j hj]
        by_cases c : pl r s ≤ j ∧ j < pl r s + i
        · rw [if_pos c, if_pos ⟨c.1, by omega⟩]
        · rw [if_neg c, if_neg (by omega)]
    · rw [m_X3_orderAfterMove_40, if_neg (nI_ge (by omega) (by omega)), n_1, gd_nI (by omega) (by omega), gd_nI (by omega) (by omega), nI_clamp (by omega), nI_clamp (by omega)]
      rfl) (p - pl r s) fu w1 0 (by omega) (by omega) (fun j hj => by rw [i1 j hj, if_neg (by omega)])
  have e2 : m_X3_orderAfterMove_40 fu O (nI s) (nI p) (nI (pl r s)) fu w1 (nI (pl r s)) = m_X3_orderAfterMove_40 fu O (nI s) (nI p) (nI (pl r s)) (f2 + 1) w2 (nI (pl r s + (p - pl r s))) := e2
  rw [e2, m_X3_orderAfterMove_40, if_pos (nI_le (by omega) (by omega))]
  obtain ⟨w3, f3, i3, e3⟩ := forE (fun fn st i => m_X3_orderAfterMove_69 O (nI s) (nI p) fn st (nI (pl r s - i))) (fun i st => ∀ j, j < r 0 → st j = nI (r (33 + if pl r s ≤ j ∧ j < p then j + 1 else if pl r s - i < j ∧ j ≤ pl r s then j - 1 else j))) (pl r s - p) (fun fn st i hi hI => by
    refine ⟨upd st (pl r s - i) (O (pl r s - i - 1)), fun j hj => ?_, ?_⟩
    · by_cases e : j = pl r s - i
      · subst e; rw [upd_at, hO _ (by omega), if_neg (by omega), if_pos ⟨by omega, by omega⟩]
      · rw [upd_ne _ _ e, hI j hj]
        by_cases c : pl r s ≤ j ∧ j < p
        · rw [if_pos c, if_pos c]
        · rw [if_neg c, if_neg c]
          by_cases c : pl r s - i < j ∧ j ≤ pl r s
          · rw [if_pos c, if_pos ⟨by omega, by omega⟩]
          · rw [if_neg c, if_neg (by omega)]
    · rw [m_X3_orderAfterMove_69, if_neg (nI_ge (by omega) (by omega)), nI_sub (by omega), sb_m1 (by omega), gd_nI (by omega) (by omega), gd_nI (by omega) (by omega), nI_clamp (by omega), nI_clamp (by omega)]
      rfl) (pl r s - p) fu w2 0 (by omega) (by omega) (fun j hj => by
        rw [i2 j hj]
        by_cases c : pl r s ≤ j ∧ j < p
        · rw [if_pos ⟨c.1, by omega⟩, if_pos c]
        · rw [if_neg (by omega), if_neg c, if_neg (by omega)])
  have e3 : m_X3_orderAfterMove_69 O (nI s) (nI p) fu w2 (nI (pl r s)) = m_X3_orderAfterMove_69 O (nI s) (nI p) (f3 + 1) w3 (nI (pl r s - (pl r s - p))) := e3
  rw [e3, m_X3_orderAfterMove_69, if_pos (nI_le (by omega) (by omega)), gd_nI (by omega) (by omega), nI_clamp (by omega)]
  refine ⟨_, rfl, fun i hi => ?_⟩
  unfold mv mvI
  by_cases e : i = p
  · subst e; rw [upd_at, if_pos rfl, q2]
  · rw [upd_ne _ _ e, i3 i hi, if_neg e]
    by_cases c : pl r s ≤ i ∧ i < p
    · rw [if_pos c, if_pos c]
    · rw [if_neg c, if_neg c]
      by_cases c : p < i ∧ i ≤ pl r s
      · rw [if_pos c, if_pos ⟨by omega, by omega⟩]
      · rw [if_neg c, if_neg (by omega)]
def tgt (F p q : Nat) : Nat := if p ≤ (if q ≤ F then q else q - 1) then (if q ≤ F then q else q - 1) + 1 else (if q ≤ F then q else q - 1)
theorem tgt_mvI {F p i : Nat} (h : i ≠ p) : mvI F p i ≠ F ∧ tgt F p (mvI F p i) = i := by
  unfold tgt mvI
  rw [if_neg h]
  by_cases c : F ≤ i ∧ i < p
  · rw [if_pos c, if_neg (show ¬ i + 1 ≤ F by omega)]
    exact ⟨by omega, by rw [if_neg (by omega)]; omega⟩
  · rw [if_neg c]
    by_cases c : p < i ∧ i ≤ F
    · rw [if_pos c, if_pos (show i - 1 ≤ F by omega)]
      exact ⟨by omega, by rw [if_pos (by omega)]; omega⟩
    · rw [if_neg c]
      refine ⟨by omega, ?_⟩
      by_cases d : i ≤ F
      · rw [if_pos d, if_neg (by omega)]
      · rw [if_neg d, if_pos (by omega)]; omega
theorem tgt_ok {F p q n : Nat} (hF : F < n) (hp : p < n) (hq : q < n) (h : q ≠ F) : tgt F p q ≠ p ∧ tgt F p q < n := by
  unfold tgt
  by_cases d : q ≤ F
  · rw [if_pos d]
    by_cases c : p ≤ q
    · rw [if_pos c]; omega
    · rw [if_neg c]; omega
  · rw [if_neg d]
    by_cases c : p ≤ q - 1
    · rw [if_pos c]; omega
    · rw [if_neg c]; omega
theorem tgt_inj {F p q q' : Nat} (h1 : q ≠ F) (h2 : q' ≠ F) (h : tgt F p q = tgt F p q') : q = q' := by
  unfold tgt at h
  by_cases d : q ≤ F <;> by_cases d' : q' ≤ F <;> simp only [d, d', if_true, if_false] at h <;> (repeat' split at h) <;> omega
theorem X7_moves {r : Nat → Nat} {k : Nat → Int32} (hc : R0 r k) (hv : Iv r) (nu : Nat → Int32) {s p fu : Nat} (hs : s < r 0) (hp : p < r 0) (hfu : 1100 ≤ fu) : ∃ nu', m_X7_moves fu k nu (nI s) (nI p) = some nu' ∧ ∀ i, i < r 0 → nu' i = nI (mv r s p i) := by
  obtain ⟨q1, q2⟩ := pl_lt hv hs
  have h0 := hv.1.2
  unfold m_X7_moves
  obtain ⟨w1, f1, i1, e1⟩ := forE (fun fn st i => m_X7_moves_2 fu k (nI s) (nI p) fn st (nI i)) (fun i st => ∀ q, q < i → q ≠ pl r s → st (tgt (pl r s) p q) = nI (r (33 + q))) (r 0) (fun fn st i hi hI => by
    have hoi := hv.2.2.2.2.1 i hi
    have pre : ∀ X : Option (Nat → Int32), (gd 583 (nI 0) <| if (k (nI 0).toNatClampNeg) ≤ nI i then gd 10 (nI p) <| some (upd st (nI p).toNatClampNeg (nI s)) else X) = X := fun X => by
      rw [gd_nI (by omega) (by omega), nI_clamp (by omega), hc.1 0 (by omega) (by omega), if_neg (nI_ge hi (by omega))]
    rw [m_X7_moves_2, pre, nI_add 33 i, gd_nI (by omega) (by omega), nI_clamp (by omega), hc.1 (33 + i) (by omega) (by omega), X7_placeOf hc hv hs hfu, Option.bind_some, n_1]
    by_cases e : i = pl r s
    · refine ⟨st, fun q hq hn => hI q (by omega) hn, ?_⟩
      rw [if_pos (by rw [e, q2])]
    · have hne : ¬ nI (r (33 + i)) = nI s := fun z => e (by have := (nI_eq (by omega) (by omega)).mp z; rw [← this, pl_eq hv hi])
      rw [if_neg hne]
      obtain ⟨t1, t2⟩ := tgt_ok (F := pl r s) (p := p) (q := i) q1 hp hi e
      have tail : ∀ a K, a < 10 → m_X7_moves_41 k st (nI p) (nI a) (nI i) K = (if p ≤ a then m_X7_moves_62 k st (nI (a + 1)) (nI i) K else m_X7_moves_62 k st (nI a) (nI i) K) := fun a K ha => by
        unfold m_X7_moves_41
        by_cases c : p ≤ a
        · rw [if_pos (nI_le c (by omega)), if_pos c, n_1]
        · rw [if_neg (nI_ge (by omega) (by omega)), if_neg c]
      have tl2 : ∀ b (K : (Nat → Int32) → Int32 → Option (Nat → Int32)), b < 10 → m_X7_moves_62 k st (nI b) (nI i) K = K (upd st b (nI (r (33 + i)))) (nI (i + 1)) := fun b K hb => by
        unfold m_X7_moves_62
        rw [nI_add 33 i, gd_nI (by omega) (by omega), gd_nI (by omega) (by omega), nI_clamp (by omega), nI_clamp (by omega), hc.1 (33 + i) (by omega) (by omega), n_1]
      refine ⟨upd st (tgt (pl r s) p i) (nI (r (33 + i))), fun q hq hn => ?_, ?_⟩
      · by_cases d : q = i
        · subst d; rw [upd_at]
        · rw [upd_ne _ _ (fun z => d (tgt_inj hn e z))]; exact hI q (by omega) hn
      · unfold tgt at t2 ⊢
        by_cases d : i ≤ pl r s
        · rw [if_pos (nI_le d (by omega)), tail _ _ (by omega)]
          simp only [d, if_true] at t2 ⊢
          by_cases c : p ≤ i
          · rw [if_pos c] at t2 ⊢; rw [if_pos c, tl2 _ _ (by omega)]
          · rw [if_neg c] at t2 ⊢; rw [if_neg c, tl2 _ _ (by omega)]
        · rw [if_neg (nI_ge (by omega) (by omega)), nI_sub (by omega), tail _ _ (by omega)]
          simp only [d, if_false] at t2 ⊢
          by_cases c : p ≤ i - 1
          · rw [if_pos c] at t2 ⊢; rw [if_pos c, tl2 _ _ (by omega)]
          · rw [if_neg c] at t2 ⊢; rw [if_neg c, tl2 _ _ (by omega)]) (r 0) fu nu 0 (by omega) (by omega) (fun j hj => absurd hj (by omega))
  have e1 : m_X7_moves_2 fu k (nI s) (nI p) fu nu (nI 0) = m_X7_moves_2 fu k (nI s) (nI p) (f1 + 1) w1 (nI (r 0)) := e1
  rw [e1, m_X7_moves_2, gd_nI (by omega) (by omega), nI_clamp (by omega), hc.1 0 (by omega) (by omega), if_pos (nI_le (Nat.le_refl _) (by omega)), gd_nI (by omega) (by omega), nI_clamp (by omega)]
  refine ⟨_, rfl, fun i hi => ?_⟩
  by_cases e : i = p
  · subst e; rw [upd_at]; unfold mv mvI; rw [if_pos rfl, q2]
  · obtain ⟨g1, g2⟩ := tgt_mvI (F := pl r s) e
    have := i1 _ (mvI_lt q1 hp hi) g1
    rw [g2] at this
    rw [upd_ne _ _ e, this]
    rfl
theorem bo_PO {r : Nat → Nat} (hv : Iv r) (hp : Pr r) : PO r (bo r) := ⟨fun i hi => (bo_ok hv hp hi).1, bo_inj hv hp⟩
theorem bo_Pr {r : Nat → Nat} (hv : Iv r) (hp : Pr r) : Pr (setO r (bo r)) := by
  have h0 := hv.1.2
  intro p hp' a ha
  rw [sO_0] at hp'
  rw [sO_in _ hp', sO_hi h0 _ (by omega)] at ha
  obtain ⟨g1, g2⟩ := bo_ok hv hp hp'
  have hb := hv.2.2.2.2.2.2 (bo r p) (by omega)
  have := (dif_0 (by omega)).mp (can_iff.mp g2).2 a ha
  obtain ⟨q, w1, w2⟩ := bp_bit.mp this
  exact ⟨q, w1, by rw [sO_in _ (by omega)]; exact w2⟩
/-- a pair may be taken up -/
def cpr (r : Nat → Nat) (a b : Nat) : Bool := decide (pl r a < pl r b) && !((r (43 + b)).testBit a)
theorem X3_canTake {r : Nat → Nat} {n : Int32} {L U H O B : Nat → Int32} (hc : CM r n L U H O B) (hv : Iv r) {a b fu : Nat} (ha : a < r 0) (hb : b < r 0) (hfu : 1100 ≤ fu) : m_X3_canTakePrecedence fu n O B (nI a) (nI b) = some (nI (cpr r a b).toNat) := by
  have h0 := hv.1.2
  have p1 := (pl_lt hv ha).1
  have p2 := (pl_lt hv hb).1
  unfold m_X3_canTakePrecedence cpr
  rw [X3_placeOf hc hv ha hfu, X3_placeOf hc hv hb hfu, Option.bind_some, Option.bind_some]
  by_cases e : pl r a < pl r b
  · rw [if_neg (nI_ge e (by omega)), gd_nI (by omega) (by omega), nI_clamp (by omega), hc.2.2.2.2.2 b (by omega), X6_has (by omega), Option.bind_some, ib0, decide_eq_true e]
    cases (r (43 + b)).testBit a <;> rfl
  · rw [if_pos (nI_le (by omega) (by omega)), decide_eq_false e]; rfl
theorem X7_canPair {r : Nat → Nat} {k : Nat → Int32} (hc : R0 r k) (hv : Iv r) {a b fu : Nat} (ha : a < r 0) (hb : b < r 0) (hfu : 1100 ≤ fu) : m_X7_canPair fu k (nI a) (nI b) = some (nI (cpr r a b).toNat) := by
  have h0 := hv.1.2
  have p1 := (pl_lt hv ha).1
  have p2 := (pl_lt hv hb).1
  have hq := hv.2.2.2.2.2.2 b (by omega)
  unfold m_X7_canPair cpr
  rw [X7_placeOf hc hv ha hfu, X7_placeOf hc hv hb hfu, Option.bind_some, Option.bind_some]
  by_cases e : pl r a < pl r b
  · rw [if_neg (nI_ge e (by omega)), nI_add 43 b, gd_nI (by omega) (by omega), nI_clamp (by omega), hc.1 (43 + b) (by omega) (by omega), X7_has (by omega) (by omega), Option.bind_some, ib0, decide_eq_true e]
    cases (r (43 + b)).testBit a <;> rfl
  · rw [if_pos (nI_le (by omega) (by omega)), decide_eq_false e]; rfl
