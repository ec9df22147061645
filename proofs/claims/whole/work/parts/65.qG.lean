/-! PURE QG: moves and the settled order -/
theorem chg_O {S N : Nat} {hist : Nat → Nat → Nat} {Y : Nat → MN} {k : Nat → Int32} (h : HR S N hist Y k) {r f : Nat → Nat} {m : MN} (ho : Ok r) (hm : CMt r m) (hk : R0 r k) {fu : Nat} (hfu : 1100 ≤ fu) (nu : Nat → Int32) (hn : ∀ p, p < r 0 → nu p = nI (f p)) (ho2 : Ok (setO r f)) : ∃ k1 k' nu', m_X7_records fu (nI S) k = some (nI (s8 S), k1) ∧ m_X7_swapOrder fu k1 nu = some (k', nu') ∧ Chg N Y k (s8 S) ((N + 1) % 8) m k' (setO r f) := by
  have b0 := ho.1.1
  obtain ⟨k1, a1, a2, a3, a4⟩ := HR_rec h ho hm hk hfu
  obtain ⟨k', nu', c1, c2, c3⟩ := X7_swapOrder a2 b0.2 nu hfu
  exact ⟨k1, k', nu', a1, c1, _, ho2, R0_setO f b0.2 a2 (fun p hp => (c2 p hp).1) c3 hn, HR_keep a4 (fun j h1 h2 => c3 j (by omega)), fun j hj => by rw [c3 j (by omega), a3 j (by omega)]⟩
theorem E_move {S N : Nat} {hist : Nat → Nat → Nat} {Y : Nat → MN} {k : Nat → Int32} (h : HR S N hist Y k) {r : Nat → Nat} {n : Int32} {L U H O B : Nat → Int32} (ho : Ok r) (hc : CM r n L U H O B) (hk : R0 r k) {fu : Nat} (hfu : 1100 ≤ fu) (w nu : Nat → Int32) (x1 x2 : Int32) : ∃ a O' S' N' y1 y2 y3 y4 y5 y6 w' k' nu' r', m_X6_move fu n L U H O B (nI S) (nI N) (Y N).1 (Y N).2.1 (Y N).2.2.1 (Y N).2.2.2.1 (Y N).2.2.2.2.1 (Y N).2.2.2.2.2 w x1 x2 = some (a, O', nI S', nI N', y1, y2, y3, y4, y5, y6, w') ∧ m_X7_move fu (nI S) k nu x1 x2 = some (a, nI S', k', nu') ∧ CM r' n L U H O' B ∧ Chg N Y k S' N' (y1, y2, y3, y4, y5, y6) k' r' := by
  have b0 := ho.1.1
  unfold m_X6_move m_X7_move
  rw [X7_isSection hk ho.1, X7_isSection hk ho.1, Option.bind_some, Option.bind_some, ib0, ib0]
  cases e1 : hx (r 0) x1 with
  | false =>
    rw [X6_tryNo ho hc w (fun z => by rw [e1] at z; cases z.1), Option.bind_some, if_pos rfl, if_neg (show ¬ nI 0 ≤ (-2 : Int32) by decide)]
    exact ⟨_, _, S, N, (Y N).1, (Y N).2.1, (Y N).2.2.1, (Y N).2.2.2.1, (Y N).2.2.2.2.1, (Y N).2.2.2.2.2, _, _, _, r, rfl, rfl, hc, chg_no h ho hk⟩
  | true =>
    cases e2 : hx (r 0) x2 with
    | false =>
      rw [X6_tryNo ho hc w (fun z => by rw [e2] at z; cases z.2), Option.bind_some, if_neg nt, if_pos rfl, if_neg (show ¬ nI 0 ≤ (-2 : Int32) by decide)]
      exact ⟨_, _, S, N, (Y N).1, (Y N).2.1, (Y N).2.2.1, (Y N).2.2.2.1, (Y N).2.2.2.2.1, (Y N).2.2.2.2.2, _, _, _, r, rfl, rfl, hc, chg_no h ho hk⟩
    | true =>
      obtain ⟨s, hs, rfl⟩ := hx_true e1
      obtain ⟨p, hp, rfl⟩ := hx_true e2
      obtain ⟨w', t1, t2⟩ := X6_tryMove ho hc hfu w hs hp
      obtain ⟨nu1, m1, m2⟩ := X7_moves hk ho.1 nu hs hp hfu
      have hP := mv_PO ho.1 hs hp
      rw [t1, Option.bind_some, if_neg nt, if_neg nt, m1, Option.bind_some, X7_isKeeping hk ho.1 hP.1 m2 hfu, Option.bind_some, ib0]
      dsimp only
      cases e : kpA r (mv r s p) with
      | false =>
        rw [if_neg (show ¬ (false : Bool) = true by simp), if_pos rfl, if_neg (show ¬ nI 0 ≤ (-4 : Int32) by decide)]
        exact ⟨_, _, S, N, (Y N).1, (Y N).2.1, (Y N).2.2.1, (Y N).2.2.2.1, (Y N).2.2.2.2.1, (Y N).2.2.2.2.2, _, _, _, r, rfl, rfl, hc, chg_no h ho hk⟩
      | true =>
        have hcn := cnt_le (nts (setO r (mv r s p)))
        obtain ⟨k1, k', nu', c1, c2, c3⟩ := chg_O h ho (CMt_fil hc (Y N)) hk hfu nu1 m2 (Ok_setO ho hP e)
        have c4 := c3
        obtain ⟨_, -, hR, -⟩ := c4
        have hto : m_X3_takeOrder fu n O w' = some (fil w' O (r 0)) := by rw [hc.1]; exact X3_takeOrder b0.2 O w' hfu
        rw [if_pos (rfl : (true : Bool) = true), if_neg nt, if_pos (nI_le (Nat.zero_le _) (by omega)), X2_remember h.1 h.2.1 hfu, Option.bind_some, hto, Option.bind_some, c1, Option.bind_some]
        dsimp only
        rw [c2, Option.bind_some]
        dsimp only
        rw [X7_notesMany hR (Iv_setO ho.1 hP) hfu, Option.bind_some]
        exact ⟨_, _, s8 S, (N + 1) % 8, _, _, _, _, _, _, _, k', _, _, rfl, rfl, CM_setO _ b0.2 hc t2, c3⟩
