/-! PURE QJ: going back to a kept manual; the text: fault, tell, erase -/
theorem E_back {S N : Nat} {hist : Nat → Nat → Nat} {Y Z : Nat → MN} {is ke k : Nat → Int32} (h : HR S N hist Y k) (hs : SR is ke Z k) {r : Nat → Nat} {n : Int32} {L U H O B : Nat → Int32} (ho : Ok r) (hc : CM r n L U H O B) (hk : R0 r k) {fu : Nat} (hfu : 1100 ≤ fu) (x1 : Int32) (i : Nat) (hi : hx 2 x1 = true → x1 = nI i ∧ i < 2) : ∃ a n' L' U' H' O' B' S' k' r', m_X6_back fu n L U H O B is (Z i).1 (Z i).2.1 (Z i).2.2.1 (Z i).2.2.2.1 (Z i).2.2.2.2.1 (Z i).2.2.2.2.2 (nI S) x1 = some (a, n', L', U', H', O', B', nI S') ∧ m_X7_back fu (nI S) k ke x1 = some (a, nI S', k') ∧ Ok r' ∧ CM r' n' L' U' H' O' B' ∧ R0 r' k' ∧ HR S' N hist Y k' ∧ ∀ j, 477 ≤ j → k' j = k j := by
  unfold m_X6_back m_X7_back
  rw [X6_in2, X7_in (by omega) (by omega), Option.bind_some, ib0, iv2_hx (n := 2) (by omega)]
  cases e : hx 2 x1 with
  | false =>
    rw [if_neg (show ¬ (false : Bool) = true by simp), if_pos rfl]
    exact ⟨_, n, L, U, H, O, B, S, k, r, rfl, rfl, ho, hc, hk, h, fun _ _ => rfl⟩
  | true =>
    obtain ⟨rfl, h2⟩ := hi e
    rw [if_pos rfl, if_neg nt, gd_nI h2 (by omega), gd_nI h2 (by omega), gd_nI h2 (by omega), nI_clamp (by omega)]
    rcases hs i h2 with ⟨s1, s2⟩ | ⟨s1, s2, rs, s3, s4, s5⟩
    · rw [s1, s2, if_pos rfl, if_pos rfl]
      exact ⟨_, n, L, U, H, O, B, S, k, r, rfl, rfl, ho, hc, hk, h, fun _ _ => rfl⟩
    · have z : ¬ nI 1 = nI 0 := by decide
      have b0 := s3.1.1
      obtain ⟨k', a1, a2, a3⟩ := X7_copyRow (a := 477 + 53 * i) (b := 0) (fu := fu) (by omega) (by omega) (by omega) hfu k
      have hR : R0 rs k' := R0_at s5 a2
      have hc2 : CM rs (Z i).1 (fil (Z i).2.1 L 10) (fil (Z i).2.2.1 U 10) (fil (Z i).2.2.2.1 H 12) (fil (Z i).2.2.2.2.1 O 10) (fil (Z i).2.2.2.2.2 B 10) := CM_fil s4 L U H O B
      have hO : ∀ p, p < rs 0 → fil (Z i).2.2.2.2.1 O 10 p = nI (rs (33 + p)) := fun p hp => hc2.2.2.2.2.1 p (by omega)
      rw [s1, s2, if_neg z, if_neg z, X3_become hfu, Option.bind_some, show m_X2_forget = some (nI 0) from rfl, Option.bind_some]
      dsimp only
      rw [X3_countNotes hc2 hO s3.1 hfu, Option.bind_some, n_mul, nI_add, a1, Option.bind_some, X7_notesMany hR s3.1 hfu, Option.bind_some]
      exact ⟨_, _, _, _, _, _, _, 0, k', rs, rfl, rfl, s3, hc2, hR, ⟨Nat.zero_le _, h.2.1, fun j hj => absurd hj (by omega)⟩, fun j hj => a3 j (by omega)⟩
theorem TX_0 {T : Nat → Nat} (b : Nat → Int32) : TX T 0 b := ⟨fun j hj => absurd hj (by omega), fun j hj => absurd hj (by omega), by omega⟩
theorem E_erase (x : Int32) : m_X6_erase x = some (x, nI 0) ∧ m_X7_erase x = some (x, nI 0) := ⟨rfl, rfl⟩
theorem E_fault {T : Nat → Nat} {l : Nat} {tb te : Nat → Int32} (hT : TX T l tb) (hT2 : TX T l te) {r : Nat → Nat} {n : Int32} {L U H O B : Nat → Int32} {k : Nat → Int32} (ho : Ok r) (hc : CM r n L U H O B) (hk : R0 r k) {fu : Nat} (hfu : 1100 ≤ fu) (bL bU bH bO bB : Nat → Int32) (rcl : Int32) (rno : Nat → Int32) (tst tkd : Int32) (nu : Nat → Int32) : ∃ a bn' bL' bU' bH' bO' bB' cl' no' st nx kd' fi be' to' c2 d nu', m_X6_fault fu n L U H O B bL bU bH bO bB rcl rno (nI l) tst tkd tb = some (a, bn', bL', bU', bH', bO', bB', cl', no', st, nx, kd') ∧ m_X7_fault fu (nI l) k te nu (nmA 48) = some (a, fi, be', to', c2, d, k, nu') := by
  obtain ⟨ans, cl', no', st, nx, kd', n', L', U', H', O', B', c1, c2, c3⟩ := X1_carry hT hfu 23 1 fu 0 r n (fil L bL 10) (fil U bU 10) (fil H bH 12) (fil O bO 10) (fil B bB 10) rcl rno tst tkd ho (CM_fil hc _ _ _ _ _) (Nat.zero_le l) (by omega) (by omega)
  obtain ⟨fi, be', to', cl2, k', nu', q1, g1, g2, g3, g4⟩ := X7_readsAll (d := 0) hT2 ho hk hfu (Or.inl rfl) nu
  have hk' := g3 rfl
  subst hk'
  unfold m_X6_fault m_X7_fault m_X1_carryOut
  rw [X3_become hfu, Option.bind_some, show m_X5_rewind = some (nI 0) from rfl, Option.bind_some]
  dsimp only
  rw [c1, Option.bind_some, q1, Option.bind_some]
  dsimp only
  rw [ib0]
  cases e : (FN T l r).1 with
  | false =>
    have z : ans = fi := (c3 e).trans (g1 e).symm
    subst z
    rw [if_pos rfl]
    exact ⟨_, _, _, _, _, _, _, _, _, _, _, _, _, _, _, _, _, _, rfl, rfl⟩
  | true =>
    have z : ans = (-1 : Int32) := (c2 e).1
    subst z
    rw [if_neg nt]
    exact ⟨_, _, _, _, _, _, _, _, _, _, _, _, _, _, _, _, _, _, rfl, rfl⟩
theorem E_tell {S N : Nat} {hist : Nat → Nat → Nat} {Y : Nat → MN} {k : Nat → Int32} (h : HR S N hist Y k) {T : Nat → Nat} {l : Nat} {tb te : Nat → Int32} (hT : TX T l tb) (hT2 : TX T l te) {r : Nat → Nat} {n : Int32} {L U H O B : Nat → Int32} (ho : Ok r) (hc : CM r n L U H O B) (hk : R0 r k) {fu : Nat} (hfu : 1100 ≤ fu) (bL bU bH bO bB : Nat → Int32) (rcl : Int32) (rno : Nat → Int32) (tst tkd : Int32) (nu : Nat → Int32) : ∃ a n' L' U' H' O' B' bn' bL' bU' bH' bO' bB' cl' no' l' st nx kd' S' fi be' to' c2 d k' nu' r', m_X6_tell fu n L U H O B bL bU bH bO bB rcl rno (nI l) tst tkd tb (nI S) = some (a, n', L', U', H', O', B', bn', bL', bU', bH', bO', bB', cl', no', nI l', st, nx, kd', nI S') ∧ m_X7_tell fu (nI S) (nI l) k te nu (nmA 48) = some (a, nI S', nI l', fi, be', to', c2, d, k', nu') ∧ Ok r' ∧ CM r' n' L' U' H' O' B' ∧ R0 r' k' ∧ HR S' N hist Y k' ∧ (∀ j, 477 ≤ j → k' j = k j) ∧ TX T l' tb ∧ TX T l' te := by
  obtain ⟨ans, cl', no', st, nx, kd', n', L', U', H', O', B', c1, c2, c3⟩ := X1_carry hT hfu 23 1 fu 0 r n (fil L bL 10) (fil U bU 10) (fil H bH 12) (fil O bO 10) (fil B bB 10) rcl rno tst tkd ho (CM_fil hc _ _ _ _ _) (Nat.zero_le l) (by omega) (by omega)
  obtain ⟨fi, be', to', cl2, k', nu', q1, g1, g2, g3, g4⟩ := X7_readsAll (d := 0) hT2 ho hk hfu (Or.inl rfl) nu
  have hk' := g3 rfl
  subst hk'
  obtain ⟨f1, f2, f3⟩ := fin_ok (T := T) (l := l) 23 1 (cl T l 0 r) (cl_ok ho (Nat.zero_le l)) (by omega) (by omega)
  have hl := hT.2.2
  unfold m_X6_tell m_X7_tell m_X1_carryOut
  rw [X3_become hfu, Option.bind_some, show m_X5_rewind = some (nI 0) from rfl, Option.bind_some]
  dsimp only
  rw [c1, Option.bind_some, q1, Option.bind_some]
  dsimp only
  rw [ib0]
  cases e : (FN T l r).1 with
  | false =>
    have z : ans = nI (FN T l r).2.1 := c3 e
    have hp : (FN T l r).2.1 ≤ l := f1
    subst z
    rw [if_pos rfl, if_neg (nI_m1 (by omega))]
    exact ⟨_, n, L, U, H, O, B, _, _, _, _, _, _, _, _, l, _, _, _, S, _, _, _, _, _, k', _, r, rfl, rfl, ho, hc, hk, h, fun _ _ => rfl, hT, hT2⟩
  | true =>
    obtain ⟨z, z2, z3⟩ := c2 e
    subst z
    obtain ⟨fi2, be2, to2, cl3, k2, nu2, p1, w1, w2, w3, w4⟩ := X7_readsAll (d := 1) hT2 ho hk hfu (Or.inr rfl) nu'
    obtain ⟨w5, w6⟩ := w4 rfl
    rw [if_neg nt, if_pos rfl, X3_become hfu, Option.bind_some, show m_X5_clear = some (nI 0) from rfl, Option.bind_some, show m_X2_forget = some (nI 0) from rfl, Option.bind_some, p1, Option.bind_some]
    dsimp only
    have z4 : cl' = cl3 := z2.trans w2.symm
    subst z4
    exact ⟨_, _, _, _, _, _, _, _, _, _, _, _, _, _, _, 0, _, _, _, 0, _, _, _, _, _, k2, _, (FN T l r).2.2.2, rfl, rfl, f3 e, CM_fil z3 _ _ _ _ _, w5 e, ⟨Nat.zero_le _, h.2.1, fun j hj => absurd hj (by omega)⟩, fun j hj => w6 j (by omega), TX_0 _, TX_0 _⟩
