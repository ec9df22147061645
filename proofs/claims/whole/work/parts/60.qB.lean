/-! PURE QB: the least, what would be, a move tried -/
theorem swap_back {r f : Nat → Nat} {k : Nat → Int32} (h0 : r 0 ≤ 10) (hk : R0 r k) (nu : Nat → Int32) (hn : ∀ p, p < r 0 → nu p = nI (f p)) {fu : Nat} (hfu : 1100 ≤ fu) : ∃ k1 nu1 nu2, m_X7_swapOrder fu k nu = some (k1, nu1) ∧ R0 (setO r f) k1 ∧ m_X7_swapOrder fu k1 nu1 = some (k, nu2) ∧ ∀ j, 53 ≤ j → k1 j = k j := by
  obtain ⟨k1, nu1, a1, a2, a3⟩ := X7_swapOrder hk h0 nu hfu
  have hR : R0 (setO r f) k1 := R0_setO f h0 hk (fun p hp => (a2 p hp).1) a3 hn
  have e0 := sO_0 r f
  obtain ⟨k2, nu2, b1, b2, b3⟩ := X7_swapOrder hR (by omega) nu1 hfu
  have : k2 = k := by
    funext j
    by_cases e : 33 ≤ j ∧ j < 33 + r 0
    · obtain ⟨p, rfl⟩ : ∃ p, j = 33 + p := ⟨j - 33, by omega⟩
      rw [(b2 p (by omega)).1, (a2 p (by omega)).2]
    · rw [b3 j (by omega), a3 j (by omega)]
  rw [this] at b1
  exact ⟨k1, nu1, nu2, a1, hR, b1, fun j hj => a3 j (by omega)⟩
theorem hx_cases {n : Nat} (hn : n < 1000) {x : Int32} (h : hx n x = false) : x < nI 0 ∨ ∃ j, j < 2 ^ 31 ∧ x = nI j ∧ n ≤ j := by
  by_cases c : x < 0
  · exact Or.inl c
  · obtain ⟨j, hj, rfl⟩ := nI_of c
    refine Or.inr ⟨j, hj, rfl, ?_⟩
    rcases Nat.lt_or_ge j n with q | q
    · rw [hx_nI q (by omega)] at h; cases h
    · exact q
theorem E_least {r : Nat → Nat} {n : Int32} {L U H O B k : Nat → Int32} (ho : Ok r) (hc : CM r n L U H O B) (hk : R0 r k) {fu : Nat} (hfu : 1100 ≤ fu) {nt' iv fd : Int32} {qo df se co ch : Nat → Int32} {vn : Int32} {vL vU vH vO vB : Nat → Int32} (hb : BO nt' iv fd qo vn vL vU vH vO vB) (nu no tu : Nat → Int32) (x1 : Int32) : ∃ a nt1 iv1 fd1 qo1 df1 se1 co1 ch1 vn1 vL1 vU1 vH1 vO1 vB1 nu1 no1 tu1, m_X6_least fu n L U H O B nt' iv fd qo df se co ch vn vL vU vH vO vB x1 = some (a, nt1, iv1, fd1, qo1, df1, se1, co1, ch1, vn1, vL1, vU1, vH1, vO1, vB1) ∧ m_X7_least fu k nu no tu x1 = some (a, k, nu1, no1, tu1) ∧ BO nt1 iv1 fd1 qo1 vn1 vL1 vU1 vH1 vO1 vB1 := by
  have b0 := ho.1.1
  obtain ⟨qo', df', se', co', ch', vn', vL', vU', vH', vO', vB', f1, f2, f3⟩ := X0_find (df := df) (se := se) (co := co) (ch := ch) hb hc ho.1 ho.2.1 ho.2.2 hfu
  obtain ⟨no', tu', g1, g2, g3⟩ := X7_lays hk ho.1 ho.2.1 hfu nu no tu
  have hB : BO (nI (tb r 0).1) (nI (tb r 0).2) (nI 1) qo' vn' vL' vU' vH' vO' vB' := Or.inr ⟨rfl, r, ho.1, ho.2.1, ho.2.2, f2, rfl, rfl, f3⟩
  have hR := Iv_setO ho.1 (bo_PO ho.1 ho.2.1)
  have hC : CM (setO r (bo r)) n L U H (fil qo' O (r 0)) B := CM_setO (bo r) b0.2 hc f3
  have hw : ∀ p, p < setO r (bo r) 0 → qo' p = nI (setO r (bo r) (33 + p)) := fun p hp => by
    rw [sO_0] at hp
    rw [f3 p hp, sO_in _ hp]
  unfold m_X6_least m_X7_least
  rw [X7_in (by omega) (by omega), Option.bind_some, ib0, iv2_hx (n := 4) (by omega)]
  cases e : hx 4 x1 with
  | false =>
    rw [if_pos rfl]
    rcases hx_cases (by omega) e with z | ⟨j, hj, rfl, h4⟩
    · rw [if_pos z]; exact ⟨_, _, _, _, _, _, _, _, _, _, _, _, _, _, _, _, _, _, rfl, rfl, hb⟩
    · rw [if_neg (nI_nlt (Nat.zero_le _) hj), if_neg (nI_ge (by omega) (by omega))]; exact ⟨_, _, _, _, _, _, _, _, _, _, _, _, _, _, _, _, _, _, rfl, rfl, hb⟩
  | true =>
    obtain ⟨j, hj, rfl⟩ := hx_true e
    rw [if_neg (nI_nlt (Nat.zero_le _) (by omega)), if_pos (nI_le (by omega) (by omega)), if_neg nt, f1, g3, Option.bind_some, Option.bind_some]
    dsimp only
    rcases j with _ | _ | _ | _ | j
    · rw [if_pos rfl, if_neg (nI_ge (by omega) (by omega)), if_pos rfl, X3_notedTerms hC hw hR hfu, X7_leastNotes (nu := fil (fun i => nI (bo r i)) nu (r 0)) ho hk (fun p hp => fil_lt hp) hfu]
      exact ⟨_, _, _, _, _, _, _, _, _, _, _, _, _, _, _, _, _, _, rfl, rfl, hB⟩
    · rw [if_neg (show ¬ nI (0 + 1) = nI 0 by decide), if_pos rfl, if_neg (nI_ge (by omega) (by omega)), if_neg (show ¬ nI (0 + 1) = nI 0 by decide), if_pos rfl, gd_nI (by omega) (by omega), nI_clamp (by omega), g1 0 (Nat.zero_le _)]
      exact ⟨_, _, _, _, _, _, _, _, _, _, _, _, _, _, _, _, _, _, rfl, rfl, hB⟩
    · rw [if_neg (show ¬ nI (0 + 1 + 1) = nI 0 by decide), if_neg (show ¬ nI (0 + 1 + 1) = nI 1 by decide), if_pos rfl, if_neg (nI_ge (by omega) (by omega)), if_neg (show ¬ nI (0 + 1 + 1) = nI 0 by decide), if_neg (show ¬ nI (0 + 1 + 1) = nI 1 by decide), gd_nI (by omega) (by omega), nI_clamp (by omega), g2 0 (Nat.zero_le _)]
      exact ⟨_, _, _, _, _, _, _, _, _, _, _, _, _, _, _, _, _, _, rfl, rfl, hB⟩
    · obtain ⟨k1, nu1, nu2, s1, s2, s3, s4⟩ := swap_back b0.2 hk (fil (fun i => nI (bo r i)) nu (r 0)) (f := bo r) (fun p hp => fil_lt hp) hfu
      rw [if_neg (show ¬ nI (0 + 1 + 1 + 1) = nI 0 by decide), if_neg (show ¬ nI (0 + 1 + 1 + 1) = nI 1 by decide), if_neg (show ¬ nI (0 + 1 + 1 + 1) = nI 2 by decide), if_pos (nI_le (by omega) (by omega)), s1, Option.bind_some]
      dsimp only
      rw [X7_lastsAll s2 hR hfu, Option.bind_some, s3, X3_sumNoteLengths hC hw hR hfu]
      exact ⟨_, _, _, _, _, _, _, _, _, _, _, _, _, _, _, _, _, _, rfl, rfl, hB⟩
    · omega
theorem E_would {r : Nat → Nat} {n : Int32} {L U H O B k : Nat → Int32} (ho : Ok r) (hc : CM r n L U H O B) (hk : R0 r k) {fu : Nat} (hfu : 1100 ≤ fu) {nt' iv fd : Int32} {qo df se co ch : Nat → Int32} {vn : Int32} {vL vU vH vO vB : Nat → Int32} (hb : BO nt' iv fd qo vn vL vU vH vO vB) (bn : Int32) (bL bU bH bO bB no tu : Nat → Int32) (x1 x2 : Int32) : ∃ a bn1 bL1 bU1 bH1 bO1 bB1 nt1 iv1 fd1 qo1 df1 se1 co1 ch1 vn1 vL1 vU1 vH1 vO1 vB1 no1 tu1, m_X6_would fu n L U H O B bn bL bU bH bO bB nt' iv fd qo df se co ch vn vL vU vH vO vB x1 x2 = some (a, bn1, bL1, bU1, bH1, bO1, bB1, nt1, iv1, fd1, qo1, df1, se1, co1, ch1, vn1, vL1, vU1, vH1, vO1, vB1) ∧ m_X7_would fu k no tu x1 x2 = some (a, k, no1, tu1) ∧ BO nt1 iv1 fd1 qo1 vn1 vL1 vU1 vH1 vO1 vB1 := by
  have b0 := ho.1.1
  unfold m_X6_would m_X7_would
  have hs : m_X3_hasSection n x1 = some (nI (hx (r 0) x1).toNat) := by rw [hc.1]; exact X3_hasSection (by omega) x1
  rw [hs, X7_isSection hk ho.1, Option.bind_some, Option.bind_some, ib0, ib0]
  cases e : hx (r 0) x1 with
  | false => rw [if_pos rfl, if_pos rfl]; exact ⟨_, _, _, _, _, _, _, _, _, _, _, _, _, _, _, _, _, _, _, _, _, _, _, rfl, rfl, hb⟩
  | true =>
    obtain ⟨s, hs2, rfl⟩ := hx_true e
    rw [if_neg nt, if_neg nt, X6_isTerm, X7_isTerm, Option.bind_some, Option.bind_some, ib0, ib0]
    cases e2 : hx 12 x2 with
    | false => rw [if_pos rfl, if_pos rfl]; exact ⟨_, _, _, _, _, _, _, _, _, _, _, _, _, _, _, _, _, _, _, _, _, _, _, rfl, rfl, hb⟩
    | true =>
      obtain ⟨t, ht, rfl⟩ := hx_true e2
      have hc1 := CM_fil hc bL bU bH bO bB
      have hu := ho.1.2.2.2.1 s (by omega)
      have ho2 : Ok (upr r (23 + s) (r (23 + s) ||| 2 ^ t)) := Ok_U ho hs2 (Nat.or_lt_two_pow (n := 12) hu (Nat.pow_lt_pow_right (by omega) ht))
      have hc2 := CM_U hc1 (s := s) (v := r (23 + s) ||| 2 ^ t) (by omega)
      obtain ⟨qo', df', se', co', ch', vn', vL', vU', vH', vO', vB', f1, f2, f3⟩ := X0_find (df := df) (se := se) (co := co) (ch := ch) hb hc2 ho2.1 ho2.2.1 ho2.2.2 hfu
      have hk2 : R0 (upr r (23 + s) (r (23 + s) ||| 2 ^ t)) (upd k (23 + s) (nI (r (23 + s) ||| 2 ^ t))) := R0_up hk (by omega)
      obtain ⟨no', tu', g1, g2, g3⟩ := X7_finds hk2 ho2.1 ho2.2.1 hfu no tu
      have hback : upd (upd k (23 + s) (nI (r (23 + s) ||| 2 ^ t))) (23 + s) (nI (r (23 + s))) = k := by
        funext j
        by_cases z : j = 23 + s
        · subst z; rw [upd_at, hk.1 _ (by omega) (by omega)]
        · rw [upd_ne _ _ z, upd_ne _ _ z]
      rw [if_neg nt, if_neg nt, X3_become hfu, Option.bind_some]
      dsimp only
      rw [gd_nI (by omega) (by omega), nI_clamp (by omega), hc1.2.2.1 s (by omega), X6_with (by omega), Option.bind_some, gd_nI (by omega) (by omega), f1, Option.bind_some]
      dsimp only
      have hg : ∀ x : Option (Int32 × (Nat → Int32) × (Nat → Int32) × (Nat → Int32)), gd 583 (nI (23 + s)) x = x := fun x => gd_nI (by omega) (by omega)
      rw [nI_add 23, hg, hg, hg, nI_clamp (by omega), hk.1 (23 + s) (by omega) (by omega), n_bit (by omega), n_or, g3, Option.bind_some, hg, gd_nI (by omega) (by omega), nI_clamp (by omega)]
      dsimp only
      rw [g1 0 (Nat.zero_le _), hback]
      exact ⟨_, _, _, _, _, _, _, _, _, _, _, _, _, _, _, _, _, _, _, _, _, _, _, rfl, rfl, Or.inr ⟨rfl, _, ho2.1, ho2.2.1, ho2.2.2, f2, rfl, rfl, f3⟩⟩
theorem X6_tryMove {r : Nat → Nat} {n : Int32} {L U H O B : Nat → Int32} (ho : Ok r) (hc : CM r n L U H O B) {fu : Nat} (hfu : 1100 ≤ fu) (w : Nat → Int32) {s p : Nat} (hs : s < r 0) (hp : p < r 0) : ∃ w', m_X6_tryMove fu n U H O B w (nI s) (nI p) = some (if kpA r (mv r s p) = true then nI (cnt (nts (setO r (mv r s p)))) else (-4 : Int32), w') ∧ ∀ i, i < r 0 → w' i = nI (mv r s p i) := by
  have b0 := ho.1.1
  obtain ⟨w', h1, h2⟩ := X3_orderAfterMove hc ho.1 w hs hp hfu
  have hP := mv_PO ho.1 hs hp
  have g1 : m_X3_hasSection n (nI s) = some (nI 1) := by rw [hc.1, X3_hasSection (by omega), hx_nI hs (by omega)]; rfl
  have g2 : m_X3_hasPlace n (nI p) = some (nI 1) := by rw [hc.1, X3_hasPlace (by omega), hx_nI hp (by omega)]; rfl
  unfold m_X6_tryMove
  rw [g1, g2, Option.bind_some, Option.bind_some, if_neg (show ¬ nI 1 = nI 0 by decide), if_neg (show ¬ nI 1 = nI 0 by decide), h1, Option.bind_some, X3_respects hc ho.1 hP.1 h2 hfu, Option.bind_some, ib0]
  refine ⟨w', ?_, h2⟩
  cases e : kpA r (mv r s p) with
  | false => rw [if_pos rfl, if_neg (by simp)]
  | true =>
    have hC : CM (setO r (mv r s p)) n L U H (fil w' O (r 0)) B := CM_setO _ b0.2 hc h2
    rw [if_neg nt, if_pos rfl, X3_countNotes (w := w') hC (fun q hq => by rw [sO_0] at hq; rw [h2 q hq, sO_in _ hq]) (Iv_setO ho.1 hP) hfu, Option.bind_some]
theorem X6_tryNo {r : Nat → Nat} {n : Int32} {L U H O B : Nat → Int32} (ho : Ok r) (hc : CM r n L U H O B) {fu : Nat} (w : Nat → Int32) {x1 x2 : Int32} (h : ¬ (hx (r 0) x1 = true ∧ hx (r 0) x2 = true)) : m_X6_tryMove fu n U H O B w x1 x2 = some ((-2 : Int32), w) := by
  have b0 := ho.1.1
  unfold m_X6_tryMove
  rw [hc.1, X3_hasSection (by omega), X3_hasPlace (by omega), Option.bind_some, Option.bind_some, ib0, ib0]
  cases e1 : hx (r 0) x1 with
  | false => rw [if_pos rfl]
  | true =>
    cases e2 : hx (r 0) x2 with
    | false => rw [if_neg nt, if_pos rfl]
    | true => exact absurd ⟨e1, e2⟩ h
theorem E_after {r : Nat → Nat} {n : Int32} {L U H O B k : Nat → Int32} (ho : Ok r) (hc : CM r n L U H O B) (hk : R0 r k) {fu : Nat} (hfu : 1100 ≤ fu) (w nu : Nat → Int32) (x1 x2 : Int32) : ∃ a w' nu', m_X6_after fu n U H O B w x1 x2 = some (a, w') ∧ m_X7_after fu k nu x1 x2 = some (a, k, nu') := by
  have b0 := ho.1.1
  unfold m_X6_after m_X7_after
  rw [X7_isSection hk ho.1, X7_isSection hk ho.1, Option.bind_some, Option.bind_some, ib0, ib0]
  cases e1 : hx (r 0) x1 with
  | false =>
    rw [X6_tryNo ho hc w (fun z => by rw [e1] at z; cases z.1), Option.bind_some, if_pos rfl]
    exact ⟨_, _, _, rfl, rfl⟩
  | true =>
    cases e2 : hx (r 0) x2 with
    | false =>
      rw [X6_tryNo ho hc w (fun z => by rw [e2] at z; cases z.2), Option.bind_some, if_neg nt, if_pos rfl]
      exact ⟨_, _, _, rfl, rfl⟩
    | true =>
      obtain ⟨s, hs, rfl⟩ := hx_true e1
      obtain ⟨p, hp, rfl⟩ := hx_true e2
      obtain ⟨w', t1, t2⟩ := X6_tryMove ho hc hfu w hs hp
      obtain ⟨nu1, m1, m2⟩ := X7_moves hk ho.1 nu hs hp hfu
      have hP := mv_PO ho.1 hs hp
      rw [t1, Option.bind_some, if_neg nt, if_neg nt, m1, Option.bind_some, X7_isKeeping hk ho.1 hP.1 m2 hfu, Option.bind_some, ib0]
      cases e : kpA r (mv r s p) with
      | false => rw [if_pos rfl]; exact ⟨_, _, _, rfl, rfl⟩
      | true =>
        obtain ⟨k1, nu2, nu3, s1, s2, s3, s4⟩ := swap_back b0.2 hk nu1 m2 hfu
        rw [if_neg nt, s1, Option.bind_some]
        dsimp only
        rw [X7_notesMany s2 (Iv_setO ho.1 hP) hfu, Option.bind_some, s3]
        exact ⟨_, _, _, rfl, rfl⟩
