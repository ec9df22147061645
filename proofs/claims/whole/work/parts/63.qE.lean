/-! PURE QE: uses, precedences, one step back -/
theorem dif_or {a t : Nat} (ha : a < 4096) : dif a (2 ^ t) ||| 2 ^ t = a ||| 2 ^ t := by
  refine Nat.eq_of_testBit_eq (fun i => ?_)
  rw [Nat.testBit_or, Nat.testBit_or, dif_bit (by omega)]
  cases (2 ^ t).testBit i <;> simp
theorem E_ahead {S N : Nat} {hist : Nat → Nat → Nat} {Y : Nat → MN} {k : Nat → Int32} (h : HR S N hist Y k) {r : Nat → Nat} {n : Int32} {L U H O B : Nat → Int32} (ho : Ok r) (hc : CM r n L U H O B) (hk : R0 r k) {fu : Nat} (hfu : 1100 ≤ fu) (x1 x2 : Int32) : ∃ a B' S' N' ym k' r', m_X6_ahead fu n L U H O B (nI S) (nI N) (Y N).1 (Y N).2.1 (Y N).2.2.1 (Y N).2.2.2.1 (Y N).2.2.2.2.1 (Y N).2.2.2.2.2 x1 x2 = some (a, B', nI S', nI N', ym) ∧ m_X7_ahead fu (nI S) k x1 x2 = some (a, nI S', k') ∧ CM r' n L U H O B' ∧ Chg N Y k S' N' ym k' r' := by
  have b0 := ho.1.1
  unfold m_X6_ahead m_X7_ahead m_X7_areTwo
  have hs : ∀ x, m_X3_hasSection n x = some (nI (hx (r 0) x).toNat) := fun x => by rw [hc.1]; exact X3_hasSection (by omega) x
  rw [hs, hs, X7_isSection hk ho.1, X7_isSection hk ho.1, Option.bind_some, Option.bind_some, Option.bind_some, Option.bind_some, ib0, ib0, ib0, ib0]
  cases e1 : hx (r 0) x1 with
  | false => rw [if_pos rfl, if_pos rfl, Option.bind_some, if_pos rfl]; exact ⟨_, _, S, N, Y N, _, r, rfl, rfl, hc, chg_no h ho hk⟩
  | true =>
    cases e2 : hx (r 0) x2 with
    | false => rw [if_neg nt, if_pos rfl, if_neg nt, if_pos rfl, Option.bind_some, if_pos rfl]; exact ⟨_, _, S, N, Y N, _, r, rfl, rfl, hc, chg_no h ho hk⟩
    | true =>
      obtain ⟨a, ha, rfl⟩ := hx_true e1
      obtain ⟨b, hb, rfl⟩ := hx_true e2
      rw [if_neg nt, if_neg nt, if_neg nt, if_neg nt]
      by_cases c : nI a = nI b
      · rw [if_pos c, if_pos c, Option.bind_some, if_pos rfl]; exact ⟨_, _, S, N, Y N, _, r, rfl, rfl, hc, chg_no h ho hk⟩
      · rw [if_neg c, if_neg c, Option.bind_some, if_neg (show ¬ nI 1 = nI 0 by decide), X3_canTake hc ho.1 ha hb hfu, X7_canPair hk ho.1 ha hb hfu, Option.bind_some, Option.bind_some, ib0, ib0]
        cases q : cpr r a b with
        | false => rw [if_pos rfl, if_pos rfl]; exact ⟨_, _, S, N, Y N, _, r, rfl, rfl, hc, chg_no h ho hk⟩
        | true =>
          have q2 := q
          unfold cpr at q2
          rw [Bool.and_eq_true, decide_eq_true_eq] at q2
          have ho2 : Ok (upr r (43 + b) (r (43 + b) ||| 2 ^ a)) := Ok_B ho hb (Nat.or_lt_two_pow (n := 10) (ho.1.2.2.2.2.2.2 _ (by omega)) (Nat.pow_lt_pow_right (by omega) (by omega))) (fun x hx => by
            rw [Nat.testBit_or, Bool.or_eq_true, Nat.testBit_two_pow, decide_eq_true_eq] at hx
            rcases hx with z | z
            · exact Or.inl z
            · subst z; exact Or.inr ⟨ha, q2.1⟩)
          obtain ⟨k', a1, a2⟩ := chg_up h ho (CMt_fil hc (Y N)) hk hfu (j := 43 + b) (v := r (43 + b) ||| 2 ^ a) (by omega) (by omega) ho2
          have hC := CM_B hc (s := b) (v := r (43 + b) ||| 2 ^ a) (by omega)
          have a3 := a2
          obtain ⟨_, -, hR, -⟩ := a3
          rw [if_neg nt, if_neg nt, X2_remember h.1 h.2.1 hfu, Option.bind_some]
          dsimp only
          rw [gd_nI (by omega) (by omega), nI_clamp (by omega), hc.2.2.2.2.2 b (by omega), X6_with (by omega), Option.bind_some, gd_nI (by omega) (by omega), X3_countPrecedences hC ho2.1 hfu, Option.bind_some, nI_add 43, gd_nI (by omega) (by omega), nI_clamp (by omega), hk.1 (43 + b) (by omega) (by omega), n_bit (by omega), n_or, a1, Option.bind_some]
          dsimp only
          rw [X7_pairs hR ho2.1 hfu, Option.bind_some]
          exact ⟨_, _, s8 S, (N + 1) % 8, _, k', _, rfl, rfl, hC, a2⟩
theorem E_loosen {S N : Nat} {hist : Nat → Nat → Nat} {Y : Nat → MN} {k : Nat → Int32} (h : HR S N hist Y k) {r : Nat → Nat} {n : Int32} {L U H O B : Nat → Int32} (ho : Ok r) (hc : CM r n L U H O B) (hk : R0 r k) {fu : Nat} (hfu : 1100 ≤ fu) (x1 x2 : Int32) : ∃ a B' S' N' ym k' r', m_X6_loosen fu n L U H O B (nI S) (nI N) (Y N).1 (Y N).2.1 (Y N).2.2.1 (Y N).2.2.2.1 (Y N).2.2.2.2.1 (Y N).2.2.2.2.2 x1 x2 = some (a, B', nI S', nI N', ym) ∧ m_X7_loosen fu (nI S) k x1 x2 = some (a, nI S', k') ∧ CM r' n L U H O B' ∧ Chg N Y k S' N' ym k' r' := by
  have b0 := ho.1.1
  unfold m_X6_loosen m_X7_loosen m_X6_without
  have hs : ∀ x, m_X3_hasSection n x = some (nI (hx (r 0) x).toNat) := fun x => by rw [hc.1]; exact X3_hasSection (by omega) x
  rw [hs, hs, X7_isSection hk ho.1, X7_isSection hk ho.1, Option.bind_some, Option.bind_some, Option.bind_some, Option.bind_some, ib0, ib0, ib0, ib0]
  cases e1 : hx (r 0) x1 with
  | false => rw [if_pos rfl, if_pos rfl]; exact ⟨_, _, S, N, Y N, _, r, rfl, rfl, hc, chg_no h ho hk⟩
  | true =>
    cases e2 : hx (r 0) x2 with
    | false => rw [if_neg nt, if_pos rfl, if_neg nt, if_pos rfl]; exact ⟨_, _, S, N, Y N, _, r, rfl, rfl, hc, chg_no h ho hk⟩
    | true =>
      obtain ⟨a, ha, rfl⟩ := hx_true e1
      obtain ⟨b, hb, rfl⟩ := hx_true e2
      have hq := ho.1.2.2.2.2.2.2 b (by omega)
      rw [if_neg nt, if_neg nt, if_neg nt, if_neg nt, gd_nI (by omega) (by omega), nI_clamp (by omega), hc.2.2.2.2.2 b (by omega), X6_has (by omega), Option.bind_some, nI_add 43, gd_nI (by omega) (by omega), nI_clamp (by omega), hk.1 (43 + b) (by omega) (by omega), X7_has (by omega) (by omega), Option.bind_some, ib0, ib0]
      cases q : (r (43 + b)).testBit a with
      | false => rw [if_pos rfl, if_pos rfl]; exact ⟨_, _, S, N, Y N, _, r, rfl, rfl, hc, chg_no h ho hk⟩
      | true =>
        have ho2 : Ok (upr r (43 + b) (dif (r (43 + b)) (2 ^ a))) := Ok_B ho hb (dif_lt (k := 10) hq (by omega)) (fun x hx => by
          rw [dif_bit (by omega), Bool.and_eq_true] at hx
          exact Or.inl hx.1)
        obtain ⟨k', a1, a2⟩ := chg_up h ho (CMt_fil hc (Y N)) hk hfu (j := 43 + b) (v := dif (r (43 + b)) (2 ^ a)) (by omega) (by omega) ho2
        have hC := CM_B hc (s := b) (v := dif (r (43 + b)) (2 ^ a)) (by omega)
        have a3 := a2
        obtain ⟨_, -, hR, -⟩ := a3
        rw [if_neg nt, if_neg nt, X2_remember h.1 h.2.1 hfu, Option.bind_some]
        dsimp only
        rw [gd_nI (N := 10) (j := b) (by omega) (by omega), n_bit (by omega), n_dif, Option.bind_some, gd_nI (by omega) (by omega), X3_countPrecedences hC ho2.1 hfu, Option.bind_some, gd_nI (by omega) (by omega), a1, Option.bind_some]
        dsimp only
        rw [X7_pairs hR ho2.1 hfu, Option.bind_some]
        exact ⟨_, _, s8 S, (N + 1) % 8, _, k', _, rfl, rfl, hC, a2⟩
