/-! PURE QF: uses, one step back, moves -/
theorem E_uses {S N : Nat} {hist : Nat → Nat → Nat} {Y : Nat → MN} {k : Nat → Int32} (h : HR S N hist Y k) {r : Nat → Nat} {n : Int32} {L U H O B : Nat → Int32} (ho : Ok r) (hc : CM r n L U H O B) (hk : R0 r k) {fu : Nat} (hfu : 1100 ≤ fu) (x1 x2 x3 : Int32) : ∃ a U' S' N' ym k' r', m_X6_uses fu n L U H O B (nI S) (nI N) (Y N).1 (Y N).2.1 (Y N).2.2.1 (Y N).2.2.2.1 (Y N).2.2.2.2.1 (Y N).2.2.2.2.2 x1 x2 x3 = some (a, U', nI S', nI N', ym) ∧ m_X7_uses fu (nI S) k x1 x2 x3 = some (a, nI S', k') ∧ CM r' n L U' H O B ∧ Chg N Y k S' N' ym k' r' := by
  have b0 := ho.1.1
  unfold m_X6_uses m_X7_uses nm
  have hs : ∀ x, m_X3_hasSection n x = some (nI (hx (r 0) x).toNat) := fun x => by rw [hc.1]; exact X3_hasSection (by omega) x
  rw [hs, X6_isTerm, X7_isTerm, X7_isSection hk ho.1, Option.bind_some, Option.bind_some, Option.bind_some, Option.bind_some, X7_in (by omega) (by omega), Option.bind_some, ib0, ib0, ib0, ib0, ib0, iv2_hx (n := 2) (by omega)]
  cases e1 : hx (r 0) x1 with
  | false => rw [if_pos rfl, if_pos rfl]; exact ⟨_, _, S, N, Y N, _, r, rfl, rfl, hc, chg_no h ho hk⟩
  | true =>
    cases e2 : hx 12 x2 with
    | false => rw [if_neg nt, if_pos rfl, if_neg nt, if_pos rfl]; exact ⟨_, _, S, N, Y N, _, r, rfl, rfl, hc, chg_no h ho hk⟩
    | true =>
      obtain ⟨s, hs2, rfl⟩ := hx_true e1
      obtain ⟨t, ht, rfl⟩ := hx_true e2
      rw [if_neg nt, if_neg nt, if_neg nt, if_neg nt]
      have hu := ho.1.2.2.2.1 s (by omega)
      have go : ∀ v, v < 4096 → ∀ y, y = nI v → ∃ a U' S' N' ym k' r', (m_X6_uses_83 U (nI (s8 S)) (nI ((N + 1) % 8)) n (fil L (Y N).2.1 10) (fil U (Y N).2.2.1 10) (fil H (Y N).2.2.2.1 12) (fil O (Y N).2.2.2.2.1 10) (fil B (Y N).2.2.2.2.2 10) (nI s) (nI s) (nI v) (nI (r (23 + s)))) = some (a, U', nI S', nI N', ym) ∧ ((m_X7_becomes fu (nI S) k (nI (23 + s)) y).bind fun rv5 => if rv5.1 = y then some (nI 0, rv5.2.1, rv5.2.2) else some (nI 1, rv5.2.1, rv5.2.2)) = some (a, nI S', k') ∧ CM r' n L U' H O B ∧ Chg N Y k S' N' ym k' r' := fun v hv y hy => by
        subst hy
        obtain ⟨k', a1, a2⟩ := chg_up h ho (CMt_fil hc (Y N)) hk hfu (j := 23 + s) (v := v) (by omega) (by omega) (Ok_U ho hs2 hv)
        unfold m_X6_uses_83
        rw [gd_nI (by omega) (by omega), gd_nI (by omega) (by omega), nI_clamp (by omega), upd_at, a1, Option.bind_some]
        dsimp only
        rw [hk.1 (23 + s) (by omega) (by omega)]
        by_cases c : nI v = nI (r (23 + s))
        · rw [if_pos c, if_pos c.symm]; exact ⟨_, _, s8 S, (N + 1) % 8, _, k', _, rfl, rfl, CM_U hc (by omega), a2⟩
        · rw [if_neg c, if_neg (fun z => c z.symm)]; exact ⟨_, _, s8 S, (N + 1) % 8, _, k', _, rfl, rfl, CM_U hc (by omega), a2⟩
      have ev : nI (r (23 + s)) &&& (nI 1 <<< (nI t &&& 31) ^^^ (-1 : Int32)) = nI (dif (r (23 + s)) (2 ^ t)) := by rw [n_bit (by omega), n_dif]
      cases e3 : hx 2 x3 with
      | false =>
        have q0 : ¬ x3 = nI 0 := fun z => by rw [z, hx_nI (by omega) (by omega)] at e3; cases e3
        have q1 : ¬ x3 = nI 1 := fun z => by rw [z, hx_nI (by omega) (by omega)] at e3; cases e3
        rw [if_neg q0, if_neg q1, if_pos rfl]
        exact ⟨_, _, S, N, Y N, _, r, rfl, rfl, hc, chg_no h ho hk⟩
      | true =>
        obtain ⟨j, hj, rfl⟩ := hx_true e3
        unfold m_X6_uses_33 m_X6_without
        rw [if_neg nt, nI_add 23, gd_nI (N := 583) (j := 23 + s) (by omega) (by omega), nI_clamp (n := 23 + s) (by omega), hk.1 (23 + s) (by omega) (by omega), ev]
        have hg : ∀ x : Option (Int32 × (Nat → Int32) × Int32 × Int32 × Int32 × (Nat → Int32) × (Nat → Int32) × (Nat → Int32) × (Nat → Int32) × (Nat → Int32)), gd 10 (nI s) x = x := fun x => gd_nI (by omega) (by omega)
        rcases j with _ | _ | j
        · rw [if_pos rfl, X2_remember h.1 h.2.1 hfu, Option.bind_some, hg, if_neg (show ¬ nI 0 = nI 1 by decide), nI_clamp (by omega), hc.2.2.1 s (by omega), Option.bind_some, ev]
          exact go _ (dif_lt (k := 12) hu (by omega)) _ (by rw [n_shl (by omega) (by omega), n_or, Nat.zero_mul, Nat.or_zero])
        · rw [if_neg (show ¬ nI (0 + 1) = nI 0 by decide), if_pos (show nI (0 + 1) = nI 1 from rfl), X2_remember h.1 h.2.1 hfu, Option.bind_some, hg, if_pos (show nI (0 + 1) = nI 1 from rfl), nI_clamp (by omega), hc.2.2.1 s (by omega), X6_with (by omega), Option.bind_some]
          exact go _ (Nat.or_lt_two_pow (n := 12) hu (Nat.pow_lt_pow_right (by omega) ht)) _ (by rw [show (0 + 1 : Nat) = 1 from rfl, n_bit (by omega), n_or, dif_or hu])
        · omega
theorem R0_at {r : Nat → Nat} {k k' : Nat → Int32} {b : Nat} (h : R0 r (fun x => k (b + x))) (e : ∀ j, j < 53 → k' (0 + j) = k (b + j)) : R0 r k' := R0_congr h (fun j hj => by have := e j hj; rw [Nat.zero_add] at this; exact this)
theorem E_undo {S N : Nat} {hist : Nat → Nat → Nat} {Y : Nat → MN} {k : Nat → Int32} (h : HR S N hist Y k) {r : Nat → Nat} {n : Int32} {L U H O B : Nat → Int32} (ho : Ok r) (hc : CM r n L U H O B) (hk : R0 r k) {fu : Nat} (hfu : 1100 ≤ fu) : ∃ a n' L' U' H' O' B' S' N' hist' k' r', m_X6_undo fu n L U H O B (nI S) (nI N) (Y ((N + 7) % 8)).1 (Y ((N + 7) % 8)).2.1 (Y ((N + 7) % 8)).2.2.1 (Y ((N + 7) % 8)).2.2.2.1 (Y ((N + 7) % 8)).2.2.2.2.1 (Y ((N + 7) % 8)).2.2.2.2.2 = some (a, n', L', U', H', O', B', nI S', nI N') ∧ m_X7_undo fu (nI S) k = some (a, nI S', k') ∧ Ok r' ∧ CM r' n' L' U' H' O' B' ∧ R0 r' k' ∧ HR S' N' hist' Y k' ∧ ∀ j, 477 ≤ j → k' j = k j := by
  obtain ⟨hS, hN, hh⟩ := h
  unfold m_X6_undo m_X7_undo
  by_cases e : S = 0
  · rw [if_pos (by rw [e]), if_pos (by rw [e])]
    exact ⟨_, _, _, _, _, _, _, S, N, hist, k, r, rfl, rfl, ho, hc, hk, ⟨hS, hN, hh⟩, fun _ _ => rfl⟩
  · have hn : ¬ nI S = nI 0 := fun z => e ((nI_eq (by omega) (by omega)).mp z)
    obtain ⟨q1, q2, q3⟩ := hh 0 (by omega)
    obtain ⟨k', a1, a2, a3⟩ := X7_copyRow (a := 53 + 53 * (S - 1)) (b := 0) (fu := fu) (by omega) (by omega) (by omega) hfu k
    rw [if_neg hn, if_neg hn, X2_restore hS e hN hfu, Option.bind_some, nI_sub (by omega), n_mul, nI_add, a1, Option.bind_some]
    refine ⟨_, _, _, _, _, _, _, S - 1, (N + 7) % 8, fun j => hist (j + 1), k', hist 0, rfl, rfl, q1, CM_fil q2 _ _ _ _ _, R0_at q3 a2, ⟨by omega, by omega, fun j hj => ?_⟩, fun j hj => a3 j (by omega)⟩
    obtain ⟨w1, w2, w3⟩ := hh (j + 1) (by omega)
    refine ⟨w1, ?_, R0_congr w3 (fun x hx => ?_)⟩
    · rw [show ((N + 7) % 8 + 7 - j) % 8 = (N + 7 - (j + 1)) % 8 by omega]; exact w2
    · show k' (53 + 53 * (S - 1 - 1 - j) + x) = k (53 + 53 * (S - 1 - (j + 1)) + x)
      rw [a3 _ (by omega), show S - 1 - 1 - j = S - 1 - (j + 1) by omega]
