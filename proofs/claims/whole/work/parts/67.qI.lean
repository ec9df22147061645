/-! PURE QI: keeping a manual -/
theorem X6_in2 {α : Type} (x : Int32) (a b : α) : (if x < nI 0 then a else if x < nI 2 then b else a) = if hx 2 x = true then b else a := by
  cases e : hx 2 x with
  | false =>
    rw [if_neg (show ¬ (false : Bool) = true by simp)]
    rcases hx_cases (by omega) e with z | ⟨j, hj, rfl, h4⟩
    · rw [if_pos z]
    · rw [if_neg (nI_nlt (Nat.zero_le _) hj), if_neg (nI_nlt h4 hj)]
  | true =>
    obtain ⟨j, hj, rfl⟩ := hx_true e
    rw [if_neg (nI_nlt (Nat.zero_le _) (by omega)), if_pos ((nI_ltI (by omega) (by omega)).mpr hj), if_pos rfl]
theorem E_keep {S N : Nat} {hist : Nat → Nat → Nat} {Y Z : Nat → MN} {is ke k : Nat → Int32} (h : HR S N hist Y k) (hs : SR is ke Z k) {r : Nat → Nat} {n : Int32} {L U H O B : Nat → Int32} (ho : Ok r) (hc : CM r n L U H O B) (hk : R0 r k) {fu : Nat} (hfu : 1100 ≤ fu) (x1 : Int32) (i : Nat) (hi : hx 2 x1 = true → x1 = nI i ∧ i < 2) : ∃ a is' z1 z2 z3 z4 z5 z6 k' ke', m_X6_keep fu n L U H O B is (Z i).1 (Z i).2.1 (Z i).2.2.1 (Z i).2.2.2.1 (Z i).2.2.2.2.1 (Z i).2.2.2.2.2 x1 = some (a, is', z1, z2, z3, z4, z5, z6) ∧ m_X7_keep fu k ke x1 = some (a, k', ke') ∧ R0 r k' ∧ HR S N hist Y k' ∧ SR is' ke' (updY Z i (z1, z2, z3, z4, z5, z6)) k' := by
  have b0 := ho.1.1
  have hO : ∀ p, p < r 0 → O p = nI (r (33 + p)) := fun p hp => hc.2.2.2.2.1 p (by omega)
  unfold m_X6_keep m_X7_keep
  rw [X6_in2, X7_in (by omega) (by omega), Option.bind_some, ib0, iv2_hx (n := 2) (by omega)]
  cases e : hx 2 x1 with
  | false =>
    rw [if_neg (show ¬ (false : Bool) = true by simp), if_pos rfl]
    exact ⟨_, is, (Z i).1, (Z i).2.1, (Z i).2.2.1, (Z i).2.2.2.1, (Z i).2.2.2.2.1, (Z i).2.2.2.2.2, _, _, rfl, rfl, hk, h, by rw [show updY Z i ((Z i).1, (Z i).2.1, (Z i).2.2.1, (Z i).2.2.2.1, (Z i).2.2.2.2.1, (Z i).2.2.2.2.2) = Z from updY_id Z i]; exact hs⟩
  | true =>
    obtain ⟨rfl, h2⟩ := hi e
    obtain ⟨k', a1, a2, a3⟩ := X7_copyRow (a := 0) (b := 477 + 53 * i) (fu := fu) (by omega) (by omega) (by omega) hfu k
    have hR : R0 r k' := R0_congr hk (fun j hj => a3 j (by omega))
    rw [if_pos rfl, if_neg nt, gd_nI h2 (by omega), X3_become hfu, Option.bind_some, gd_nI h2 (by omega), X3_countNotes hc hO ho.1 hfu, Option.bind_some, n_mul, nI_add, a1, Option.bind_some, gd_nI h2 (by omega), X7_notesMany hR ho.1 hfu, Option.bind_some, nI_clamp (by omega)]
    refine ⟨_, _, _, _, _, _, _, _, k', _, rfl, rfl, hR, HR_keep h (fun j h3 h4 => a3 j (by omega)), fun q hq => ?_⟩
    by_cases z : q = i
    · subst z
      refine Or.inr ⟨upd_at _ _ _, upd_at _ _ _, r, ho, ?_, R0_congr hk (fun x hx => by have := a2 x hx; rw [Nat.zero_add] at this; exact this)⟩
      unfold updY
      rw [if_pos rfl]
      exact CMt_fil hc (Z q)
    · have hz : updY Z i (n, fil L (Z i).2.1 10, fil U (Z i).2.2.1 10, fil H (Z i).2.2.2.1 12, fil O (Z i).2.2.2.2.1 10, fil B (Z i).2.2.2.2.2 10) q = Z q := if_neg z
      rw [upd_ne _ _ z, upd_ne _ _ z]
      dsimp only
      rw [hz]
      rcases hs q hq with y | ⟨y1, y2, rs, y3, y4, y5⟩
      · exact Or.inl y
      · exact Or.inr ⟨y1, y2, rs, y3, y4, R0_congr y5 (fun x hx => a3 _ (by omega))⟩
