/-! PURE QD: changes that are recorded -/
theorem updY_id (Y : Nat → MN) (N : Nat) : updY Y N (Y N) = Y := by
  funext j
  unfold updY
  split
  · rename_i h; rw [h]
  · rfl
def Chg (N : Nat) (Y : Nat → MN) (k : Nat → Int32) (S' N' : Nat) (ym : MN) (k' : Nat → Int32) (r' : Nat → Nat) : Prop := ∃ hist', Ok r' ∧ R0 r' k' ∧ HR S' N' hist' (updY Y N ym) k' ∧ ∀ j, 477 ≤ j → k' j = k j
theorem chg_no {S N : Nat} {hist : Nat → Nat → Nat} {Y : Nat → MN} {k : Nat → Int32} (h : HR S N hist Y k) {r : Nat → Nat} (ho : Ok r) (hk : R0 r k) : Chg N Y k S N (Y N) k r := ⟨hist, ho, hk, by rw [updY_id]; exact h, fun _ _ => rfl⟩
theorem chg_up {S N : Nat} {hist : Nat → Nat → Nat} {Y : Nat → MN} {k : Nat → Int32} (h : HR S N hist Y k) {r : Nat → Nat} {m : MN} (ho : Ok r) (hm : CMt r m) (hk : R0 r k) {fu : Nat} (hfu : 1100 ≤ fu) {j v : Nat} (hj : j < 53) (hd : j < 11 ∨ 23 ≤ j) (ho2 : Ok (upr r j v)) : ∃ k', m_X7_becomes fu (nI S) k (nI j) (nI v) = some (k j, nI (s8 S), k') ∧ Chg N Y k (s8 S) ((N + 1) % 8) m k' (upr r j v) := by
  obtain ⟨k', a1, a2, a3, a4⟩ := X7_becomes h ho hm hk hfu hj (nI v)
  exact ⟨_, a1, _, ho2, R0_up a2 hd, a4, fun q hq => by rw [upd_ne _ _ (by omega)]; exact a3 q (by omega)⟩
theorem chg_H {S N : Nat} {hist : Nat → Nat → Nat} {Y : Nat → MN} {k : Nat → Int32} (h : HR S N hist Y k) {r : Nat → Nat} {m : MN} (ho : Ok r) (hm : CMt r m) (hk : R0 r k) {fu : Nat} (hfu : 1100 ≤ fu) {t v : Nat} (ht : t < 12) (ho2 : Ok (upr r (11 + t) v)) : ∃ k', m_X7_becomes fu (nI S) k (nI (11 + t)) (hI v) = some (k (11 + t), nI (s8 S), k') ∧ Chg N Y k (s8 S) ((N + 1) % 8) m k' (upr r (11 + t) v) := by
  obtain ⟨k', a1, a2, a3, a4⟩ := X7_becomes h ho hm hk hfu (j := 11 + t) (by omega) (hI v)
  exact ⟨_, a1, _, ho2, R0_H a2 ht, a4, fun q hq => by rw [upd_ne _ _ (by omega)]; exact a3 q (by omega)⟩
theorem E_pages {S N : Nat} {hist : Nat → Nat → Nat} {Y : Nat → MN} {k : Nat → Int32} (h : HR S N hist Y k) {r : Nat → Nat} {n : Int32} {L U H O B : Nat → Int32} (ho : Ok r) (hc : CM r n L U H O B) (hk : R0 r k) {fu : Nat} (hfu : 1100 ≤ fu) (x1 x2 : Int32) : ∃ a L' S' N' ym k' r', m_X6_pages fu n L U H O B (nI S) (nI N) (Y N).1 (Y N).2.1 (Y N).2.2.1 (Y N).2.2.2.1 (Y N).2.2.2.2.1 (Y N).2.2.2.2.2 x1 x2 = some (a, L', nI S', nI N', ym) ∧ m_X7_pages fu (nI S) k x1 x2 = some (a, nI S', k') ∧ CM r' n L' U H O B ∧ Chg N Y k S' N' ym k' r' := by
  have b0 := ho.1.1
  unfold m_X6_pages m_X7_pages
  have hs : m_X3_hasSection n x1 = some (nI (hx (r 0) x1).toNat) := by rw [hc.1]; exact X3_hasSection (by omega) x1
  rw [hs, X7_isSection hk ho.1, Option.bind_some, Option.bind_some, ib0, ib0]
  cases e : hx (r 0) x1 with
  | false => rw [if_pos rfl, if_pos rfl]; exact ⟨_, _, S, N, Y N, _, r, rfl, rfl, hc, chg_no h ho hk⟩
  | true =>
    obtain ⟨s, hs2, rfl⟩ := hx_true e
    rw [if_neg nt, if_neg nt, X7_in (by omega) (by omega), Option.bind_some, ib0]
    by_cases c : iv2 1 9 x2 = true
    · have c2 := of_decide_eq_true c
      obtain ⟨v, hv, rfl⟩ := nI_of (x := x2) (fun z => by
        have := Int32.lt_iff_toInt_lt.mp z
        have q4 : ((0 : Int32)).toInt = 0 := by decide
        omega)
      rw [nI_toInt hv] at c2
      obtain ⟨k', a1, a2⟩ := chg_up h ho (CMt_fil hc (Y N)) hk hfu (j := 1 + s) (v := v) (by omega) (by omega) (Ok_L ho hs2 (by omega) (by omega))
      rw [c, if_neg nt, if_neg (nI_nlt (by omega) (by omega)), if_pos (nI_le (by omega) (by omega)), X2_remember h.1 h.2.1 hfu, Option.bind_some, nI_add 1, a1, Option.bind_some, gd_nI (by omega) (by omega), gd_nI (by omega) (by omega), nI_clamp (by omega), hc.2.1 s (by omega), hk.1 (1 + s) (by omega) (by omega)]
      exact ⟨_, _, s8 S, (N + 1) % 8, _, k', _, rfl, rfl, CM_L hc (by omega), a2⟩
    · have c' : iv2 1 9 x2 = false := by simpa using c
      have c2 := of_decide_eq_false c'
      rw [c', if_pos rfl]
      by_cases d : x2 < nI 1
      · rw [if_pos d]; exact ⟨_, _, S, N, Y N, _, r, rfl, rfl, hc, chg_no h ho hk⟩
      · have d2 : ¬ x2 ≤ nI 9 := fun z => by
          have q1 := Int32.le_iff_toInt_le.mp z
          have q2 : ¬ x2.toInt < (nI 1).toInt := fun y => d (Int32.lt_iff_toInt_lt.mpr y)
          rw [nI_toInt (by omega)] at q1 q2
          omega
        rw [if_neg d, if_neg d2]; exact ⟨_, _, S, N, Y N, _, r, rfl, rfl, hc, chg_no h ho hk⟩
theorem E_home {S N : Nat} {hist : Nat → Nat → Nat} {Y : Nat → MN} {k : Nat → Int32} (h : HR S N hist Y k) {r : Nat → Nat} {n : Int32} {L U H O B : Nat → Int32} (ho : Ok r) (hc : CM r n L U H O B) (hk : R0 r k) {fu : Nat} (hfu : 1100 ≤ fu) (x1 x2 : Int32) : ∃ a H' S' N' ym k' r', m_X6_home fu n L U H O B (nI S) (nI N) (Y N).1 (Y N).2.1 (Y N).2.2.1 (Y N).2.2.2.1 (Y N).2.2.2.2.1 (Y N).2.2.2.2.2 x1 x2 = some (a, H', nI S', nI N', ym) ∧ m_X7_home fu (nI S) k x1 x2 = some (a, nI S', k') ∧ CM r' n L U H' O B ∧ Chg N Y k S' N' ym k' r' := by
  have b0 := ho.1.1
  have go : ∀ t v, t < 12 → v ≤ r 0 → ∃ a H' S' N' ym k' r', m_X6_home_26 fu n L U H O B (nI S) (nI N) (Y N).2.1 (Y N).2.2.1 (Y N).2.2.2.1 (Y N).2.2.2.2.1 (Y N).2.2.2.2.2 (nI t) (hI v) = some (a, H', nI S', nI N', ym) ∧ m_X7_home_25 fu (nI S) k (nI t) (hI v) = some (a, nI S', k') ∧ CM r' n L U H' O B ∧ Chg N Y k S' N' ym k' r' := fun t v ht hv => by
    obtain ⟨k', a1, a2⟩ := chg_H h ho (CMt_fil hc (Y N)) hk hfu (t := t) (v := v) ht (Ok_H ho ht hv)
    unfold m_X6_home_26 m_X7_home_25
    rw [X2_remember h.1 h.2.1 hfu, Option.bind_some, nI_add 11, a1, Option.bind_some, gd_nI (by omega) (by omega), gd_nI (by omega) (by omega), nI_clamp (by omega), hc.2.2.2.1 t ht, hk.2 t ht]
    exact ⟨_, _, s8 S, (N + 1) % 8, _, k', _, rfl, rfl, CM_H hc ht, a2⟩
  unfold m_X6_home m_X7_home
  have hs : m_X3_hasSection n x2 = some (nI (hx (r 0) x2).toNat) := by rw [hc.1]; exact X3_hasSection (by omega) x2
  rw [X6_isTerm, X7_isTerm, hs, X7_isSection hk ho.1, Option.bind_some, Option.bind_some, Option.bind_some, Option.bind_some, ib0, ib0, ib0, ib0]
  cases e : hx 12 x1 with
  | false => rw [if_pos rfl, if_pos rfl]; exact ⟨_, _, S, N, Y N, _, r, rfl, rfl, hc, chg_no h ho hk⟩
  | true =>
    obtain ⟨t, ht, rfl⟩ := hx_true e
    rw [if_neg nt, if_neg nt]
    by_cases c : x2 = (-1 : Int32)
    · subst c
      rw [if_pos rfl, if_pos rfl]
      exact go t 0 ht (by omega)
    · rw [if_neg c, if_neg c]
      cases e2 : hx (r 0) x2 with
      | false => rw [if_pos rfl, if_pos rfl]; exact ⟨_, _, S, N, Y N, _, r, rfl, rfl, hc, chg_no h ho hk⟩
      | true =>
        obtain ⟨s, hs2, rfl⟩ := hx_true e2
        rw [if_neg nt, if_neg nt]
        exact go t (s + 1) ht (by omega)
