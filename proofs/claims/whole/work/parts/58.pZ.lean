/-! PURE Z: the questions of both sides answer alike -/
theorem nt : ¬ (true : Bool) = false := by simp
theorem E_at {r : Nat → Nat} {n : Int32} {L U H O B k : Nat → Int32} (ho : Ok r) (hc : CM r n L U H O B) (hk : R0 r k) (x1 : Int32) : ∃ a, m_X6_at n O x1 = some a ∧ m_X7_at k x1 = some a := by
  have b0 := ho.1.1
  unfold m_X6_at m_X7_at
  rw [hc.1, X3_hasPlace (by omega), X7_isSection hk ho.1, Option.bind_some, Option.bind_some, ib0, ib0]
  cases e : hx (r 0) x1 with
  | false => rw [if_pos rfl, if_pos rfl]; exact ⟨_, rfl, rfl⟩
  | true =>
    obtain ⟨j, hj, rfl⟩ := hx_true e
    rw [if_neg nt, if_neg nt, gd_nI (by omega) (by omega), nI_add 33, gd_nI (by omega) (by omega), nI_clamp (by omega), nI_clamp (by omega), hc.2.2.2.2.1 j (by omega), hk.1 (33 + j) (by omega) (by omega)]
    exact ⟨_, rfl, rfl⟩
theorem E_section {r : Nat → Nat} {n : Int32} {L U H O B k : Nat → Int32} (ho : Ok r) (hc : CM r n L U H O B) (hk : R0 r k) {fu : Nat} (hfu : 1100 ≤ fu) (gn : Int32) (ne re : Nat → Int32) (x1 x2 : Int32) : ∃ a gn' ne' re', m_X6_section fu n L U H O B gn ne re x1 x2 = some (a, gn', ne', re') ∧ m_X7_section fu k x1 x2 = some a := by
  have b0 := ho.1.1
  unfold m_X6_section m_X7_section
  have hs : m_X3_hasSection n x1 = some (nI (hx (r 0) x1).toNat) := by rw [hc.1]; exact X3_hasSection (by omega) x1
  rw [hs, X7_isSection hk ho.1, Option.bind_some, Option.bind_some, ib0, ib0]
  cases e : hx (r 0) x1 with
  | false => rw [if_pos rfl, if_pos rfl]; exact ⟨_, _, _, _, rfl, rfl⟩
  | true =>
    obtain ⟨j, hj, rfl⟩ := hx_true e
    rw [if_neg nt, if_neg nt]
    by_cases c0 : x2 = nI 0
    · rw [if_pos c0, if_pos c0, X3_placeOf hc ho.1 hj hfu, X7_placeOf hk ho.1 hj hfu]; exact ⟨_, _, _, _, rfl, rfl⟩
    rw [if_neg c0, if_neg c0]
    by_cases c1 : x2 = nI 1
    · rw [if_pos c1, if_pos c1, gd_nI (by omega) (by omega), nI_add 1, gd_nI (by omega) (by omega), nI_clamp (by omega), nI_clamp (by omega), hc.2.1 j (by omega), hk.1 (1 + j) (by omega) (by omega)]; exact ⟨_, _, _, _, rfl, rfl⟩
    rw [if_neg c1, if_neg c1]
    by_cases c2 : x2 = nI 2
    · rw [if_pos c2, if_pos c2, gd_nI (by omega) (by omega), nI_add 23, gd_nI (by omega) (by omega), nI_clamp (by omega), nI_clamp (by omega), hc.2.2.1 j (by omega), hk.1 (23 + j) (by omega) (by omega)]; exact ⟨_, _, _, _, rfl, rfl⟩
    rw [if_neg c2, if_neg c2]
    by_cases c3 : x2 = nI 3
    · rw [if_pos c3, if_pos c3, X3_termsAtHome hc ho.1 (by omega) hfu, X7_homesIn hk ho.1 (by omega) hfu]; exact ⟨_, _, _, _, rfl, rfl⟩
    rw [if_neg c3, if_neg c3]
    by_cases c4 : x2 = nI 4
    · rw [if_pos c4, if_pos c4, X3_earlyTerms hc ho.1 hj hfu, X7_earlyIn hk ho.1 hj hfu]; exact ⟨_, _, _, _, rfl, rfl⟩
    rw [if_neg c4, if_neg c4]
    by_cases c5 : x2 = nI 5
    · rw [if_pos c5, if_pos c5, X3_notesIn hc ho.1 hj hfu, X7_notesIn hk ho.1 hj hfu]; exact ⟨_, _, _, _, rfl, rfl⟩
    rw [if_neg c5, if_neg c5]
    by_cases c6 : x2 = nI 6
    · rw [if_pos c6, if_pos c6, X3_neededBy hc ho.1 (by omega) hfu, X7_needs hk ho.1 (by omega) hfu]; exact ⟨_, _, _, _, rfl, rfl⟩
    rw [if_neg c6, if_neg c6]
    by_cases c7 : x2 = nI 7
    · rw [if_pos c7, if_pos c7, X4_draw hc ho.1 hfu, Option.bind_some]
      dsimp only
      rw [X4_component (re := fil (fun s => nI (wr r (r 0) s)) re (r 0)) ho.1 (fun s hs => fil_lt hs) hj hfu, X7_knotOf hk ho.1 hj hfu]; exact ⟨_, _, _, _, rfl, rfl⟩
    rw [if_neg c7, if_neg c7]
    by_cases c8 : x2 = nI 8
    · rw [if_pos c8, if_pos c8, gd_nI (by omega) (by omega), nI_add 43, gd_nI (by omega) (by omega), nI_clamp (by omega), nI_clamp (by omega), hc.2.2.2.2.2 j (by omega), hk.1 (43 + j) (by omega) (by omega)]; exact ⟨_, _, _, _, rfl, rfl⟩
    rw [if_neg c8, if_neg c8]
    exact ⟨_, _, _, _, rfl, rfl⟩
theorem E_term {r : Nat → Nat} {n : Int32} {L U H O B k : Nat → Int32} (ho : Ok r) (hc : CM r n L U H O B) (hk : R0 r k) {fu : Nat} (hfu : 1100 ≤ fu) (x1 x2 : Int32) : ∃ a, m_X6_term fu n L U H O x1 x2 = some a ∧ m_X7_term fu k x1 x2 = some a := by
  have b0 := ho.1.1
  unfold m_X6_term m_X7_term
  rw [X6_isTerm, X7_isTerm, Option.bind_some, Option.bind_some, ib0, ib0]
  cases e : hx 12 x1 with
  | false => rw [if_pos rfl, if_pos rfl]; exact ⟨_, rfl, rfl⟩
  | true =>
    obtain ⟨j, hj, rfl⟩ := hx_true e
    have hO : ∀ p, p < r 0 → O p = nI (r (33 + p)) := fun p hp => hc.2.2.2.2.1 p (by omega)
    rw [if_neg nt, if_neg nt]
    by_cases c0 : x2 = nI 0
    · rw [if_pos c0, if_pos c0, gd_nI (by omega) (by omega), nI_add 11, gd_nI (by omega) (by omega), nI_clamp (by omega), nI_clamp (by omega), hc.2.2.2.1 j hj, hk.2 j hj]; exact ⟨_, rfl, rfl⟩
    rw [if_neg c0, if_neg c0]
    by_cases c1 : x2 = nI 1
    · rw [if_pos c1, if_pos c1, X3_usersOf hc ho.1 hj hfu, X7_usedBy hk ho.1 hj hfu]; exact ⟨_, rfl, rfl⟩
    rw [if_neg c1, if_neg c1]
    by_cases c2 : x2 = nI 2
    · rw [if_pos c2, if_pos c2, X3_noteSection hc ho.1 hj hfu, X7_noteOf hk ho.1 hj hfu]; exact ⟨_, rfl, rfl⟩
    rw [if_neg c2, if_neg c2]
    by_cases c3 : x2 = nI 3
    · rw [if_pos c3, if_pos c3, X3_noteLength hc hO ho.1 hj hfu, X7_lasts hk ho.1 hj hfu]; exact ⟨_, rfl, rfl⟩
    rw [if_neg c3, if_neg c3]
    by_cases c4 : x2 = nI 4
    · have hh := ho.1.2.2.1 j hj
      have hu := usr_lt ho.1 j
      rw [if_pos c4, if_pos c4, X3_isLoose hc ho.1 hj hfu, Option.bind_some, ib0, nI_add 11, gd_nI (by omega) (by omega), nI_clamp (by omega), hk.2 j hj, X7_usedBy hk ho.1 hj hfu, Option.bind_some]
      by_cases d : r (11 + j) = 0
      · rw [if_pos ((hI_m1 (by omega)).mpr d), show (r (11 + j) == 0) = true from beq_iff_eq.mpr d, Bool.true_and]
        by_cases d2 : usr r j = 0
        · rw [show (usr r j != 0) = false by rw [d2]; rfl, if_pos rfl, if_pos (by rw [d2])]; exact ⟨_, rfl, rfl⟩
        · rw [show (usr r j != 0) = true from bne_iff_ne.mpr d2, if_neg (by simp), if_neg (fun z => d2 ((nI_eq (by omega) (by omega)).mp z))]; exact ⟨_, rfl, rfl⟩
      · rw [if_neg (fun z => d ((hI_m1 (by omega)).mp z)), show (r (11 + j) == 0) = false from beq_false_of_ne d, Bool.false_and, if_pos rfl]; exact ⟨_, rfl, rfl⟩
    rw [if_neg c4, if_neg c4]
    exact ⟨_, rfl, rfl⟩
theorem E_count {r : Nat → Nat} {n : Int32} {L U H O B k : Nat → Int32} (ho : Ok r) (hc : CM r n L U H O B) (hk : R0 r k) {fu : Nat} (hfu : 1100 ≤ fu) (gn : Int32) (ne re : Nat → Int32) (hsz tl x1 : Int32) : ∃ a gn' ne' re', m_X6_count fu n L U H O B gn ne re hsz tl x1 = some (a, gn', ne', re') ∧ m_X7_count fu hsz tl k x1 = some a := by
  have b0 := ho.1.1
  have hO : ∀ p, p < r 0 → O p = nI (r (33 + p)) := fun p hp => hc.2.2.2.2.1 p (by omega)
  unfold m_X6_count m_X7_count
  by_cases c0 : x1 = nI 0
  · rw [if_pos c0, if_pos c0, gd_nI (by omega) (by omega), nI_clamp (by omega), hk.1 0 (by omega) (by omega), hc.1]; exact ⟨_, _, _, _, rfl, rfl⟩
  rw [if_neg c0, if_neg c0]
  by_cases c1 : x1 = nI 1
  · rw [if_pos c1, if_pos c1, X3_countNotes hc hO ho.1 hfu, X7_notesMany hk ho.1 hfu]; exact ⟨_, _, _, _, rfl, rfl⟩
  rw [if_neg c1, if_neg c1]
  by_cases c2 : x1 = nI 2
  · rw [if_pos c2, if_pos c2, X3_countLoose hc ho.1 hfu, X7_loose hk ho.1 hfu]; exact ⟨_, _, _, _, rfl, rfl⟩
  rw [if_neg c2, if_neg c2]
  by_cases c3 : x1 = nI 3
  · rw [if_pos c3, if_pos c3, X3_countHomes hc ho.1 hfu, X7_homesMany hk ho.1 hfu]; exact ⟨_, _, _, _, rfl, rfl⟩
  rw [if_neg c3, if_neg c3]
  by_cases c4 : x1 = nI 4
  · rw [if_pos c4, if_pos c4, c4, X3_countUses hc ho.1 hfu, X7_sum hk ho.1 4 (by omega) hfu]; exact ⟨_, _, _, _, rfl, rfl⟩
  rw [if_neg c4, if_neg c4]
  by_cases c5 : x1 = nI 5
  · rw [if_pos c5, if_pos c5, c5, X3_countEarly hc ho.1 hfu, X7_sum hk ho.1 5 (by omega) hfu]; exact ⟨_, _, _, _, rfl, rfl⟩
  rw [if_neg c5, if_neg c5]
  by_cases c6 : x1 = nI 6
  · rw [if_pos c6, if_pos c6, X3_countPrecedences hc ho.1 hfu, X7_pairs hk ho.1 hfu]; exact ⟨_, _, _, _, rfl, rfl⟩
  rw [if_neg c6, if_neg c6]
  by_cases c7 : x1 = nI 7
  · rw [if_pos c7, if_pos c7, X3_sumNoteLengths hc hO ho.1 hfu, X7_lastsAll hk ho.1 hfu]; exact ⟨_, _, _, _, rfl, rfl⟩
  rw [if_neg c7, if_neg c7]
  by_cases c8 : x1 = nI 8
  · rw [if_pos c8, if_pos c8, X4_draw hc ho.1 hfu, Option.bind_some]
    dsimp only
    rw [X4_countLarge (re := fil (fun s => nI (wr r (r 0) s)) re (r 0)) ho.1 (fun s hs => fil_lt hs) hfu, X7_knots hk ho.1 hfu]; exact ⟨_, _, _, _, rfl, rfl⟩
  rw [if_neg c8, if_neg c8]
  by_cases c9 : x1 = nI 9
  · rw [if_pos c9, if_pos c9]; exact ⟨_, _, _, _, rfl, rfl⟩
  rw [if_neg c9, if_neg c9]
  by_cases c10 : x1 = nI 10
  · rw [if_pos c10, if_pos c10]; exact ⟨_, _, _, _, rfl, rfl⟩
  rw [if_neg c10, if_neg c10]
  by_cases c11 : x1 = nI 11
  · rw [if_pos c11, if_pos c11, c11, X3_sumPages hc ho.1 hfu, X7_sum hk ho.1 11 (by omega) hfu]; exact ⟨_, _, _, _, rfl, rfl⟩
  rw [if_neg c11, if_neg c11]
  exact ⟨_, _, _, _, rfl, rfl⟩
theorem E_ring {r : Nat → Nat} {n : Int32} {L U H O B k : Nat → Int32} (ho : Ok r) (hc : CM r n L U H O B) (hk : R0 r k) {fu : Nat} (hfu : 1100 ≤ fu) (grl gn : Int32) (gri ne re ts : Nat → Int32) (x1 : Int32) : ∃ a grl' gn' gri' ne' re' ts', m_X6_ring fu n U H grl gn gri ne re ts x1 = some (a, grl', gn', gri', ne', re', ts') ∧ m_X7_ring fu k x1 = some a := by
  have b0 := ho.1.1
  by_cases c0 : (-1 : Int32) ≤ x1
  · have hb := rmc_ok r (r 0)
    have hle : (rmc r (r 0)).1 ≤ 10 := by
      by_cases z : (rmc r (r 0)).1 = 0
      · omega
      · have := (hb.2 z).2.2.1; omega
    obtain ⟨ri', ts', h1, h2⟩ := X4_findRing (ts := ts) (ri := gri) (ne := fil (fun s => nI (nd r s)) ne (r 0)) ho.1 (fun s hs => fil_lt hs) hfu
    have h0 : m_X6_ring fu n U H grl gn gri ne re ts x1 = (if x1 = (-1 : Int32) then some (nI (rmc r (r 0)).1, nI (rmc r (r 0)).1, nI (r 0), ri', fil (fun s => nI (nd r s)) ne (r 0), fil (fun s => nI (wr r (r 0) s)) re (r 0), ts') else if nI (rmc r (r 0)).1 ≤ x1 then some ((-1 : Int32), nI (rmc r (r 0)).1, nI (r 0), ri', fil (fun s => nI (nd r s)) ne (r 0), fil (fun s => nI (wr r (r 0) s)) re (r 0), ts') else gd 10 x1 <| some (ri' x1.toNatClampNeg, nI (rmc r (r 0)).1, nI (r 0), ri', fil (fun s => nI (nd r s)) ne (r 0), fil (fun s => nI (wr r (r 0) s)) re (r 0), ts')) := by
      unfold m_X6_ring
      rw [if_pos c0, X4_draw hc ho.1 hfu, Option.bind_some]
      dsimp only
      rw [h1, Option.bind_some]
    rw [h0]
    by_cases c1 : x1 = (-1 : Int32)
    · rw [if_pos c1]
      unfold m_X7_ring
      rw [if_pos c0, X7_ringMany hk ho.1 hfu, Option.bind_some, if_pos c1]
      exact ⟨_, _, _, _, _, _, _, rfl, rfl⟩
    · rw [if_neg c1]
      have hx0 : ¬ x1 < 0 := fun z => by
        have q1 := Int32.lt_iff_toInt_lt.mp z
        have q2 := Int32.le_iff_toInt_le.mp c0
        have q3 : ((-1 : Int32)).toInt = -1 := by decide
        have q4 : ((0 : Int32)).toInt = 0 := by decide
        exact c1 (Int32.toInt_inj.mp (by omega))
      obtain ⟨j, hj, rfl⟩ := nI_of hx0
      by_cases c2 : j < (rmc r (r 0)).1
      · rw [if_neg (nI_ge c2 (by omega)), gd_nI (by omega) (by omega), nI_clamp (by omega), h2 j c2, X7_ring hk ho.1 c2 hfu]
        exact ⟨_, _, _, _, _, _, _, rfl, rfl⟩
      · rw [if_pos (nI_le (by omega) (by omega))]
        unfold m_X7_ring
        rw [if_pos c0, X7_ringMany hk ho.1 hfu, Option.bind_some, if_neg c1, if_neg (fun z => c2 ((nI_ltI (by omega) (by omega)).mp z))]
        exact ⟨_, _, _, _, _, _, _, rfl, rfl⟩
  · unfold m_X6_ring m_X7_ring
    rw [if_neg c0, if_neg c0]
    exact ⟨_, _, _, _, _, _, _, rfl, rfl⟩
