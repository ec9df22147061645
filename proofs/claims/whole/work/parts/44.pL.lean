/-! PURE L: copies, comparison, the search with its memory -/
theorem X3_become {fu : Nat} (hfu : 1100 ≤ fu) (aL aU aH aO aB : Nat → Int32) (bn : Int32) (bL bU bH bO bB : Nat → Int32) : m_X3_become fu aL aU aH aO aB bn bL bU bH bO bB = some (bn, fil bL aL 10, fil bU aU 10, fil bH aH 12, fil bO aO 10, fil bB aB 10) := by
  unfold m_X3_become
  have key := for0 (fun fn i => m_X3_become_10 fu bn aH bL bU bH bO bB fn (fil bL aL i) (fil bU aU i) (fil bO aO i) (fil bB aB i) (nI i)) 10 (some (bn, fil bL aL 10, fil bU aU 10, fil bH aH 12, fil bO aO 10, fil bB aB 10)) fu (by omega) (fun fn i hi => by
    rw [m_X3_become_10, if_neg (nI_ge hi (by omega))]
    have hg : ∀ x : Option (Int32 × (Nat → Int32) × (Nat → Int32) × (Nat → Int32) × (Nat → Int32) × (Nat → Int32)), gd 10 (nI i) x = x := fun x => gd_nI hi (by omega)
    simp only [hg]
    rw [nI_clamp (by omega), n_1, fil_s, fil_s, fil_s, fil_s]) (fun fn => by
    rw [m_X3_become_10, if_pos (nI_le (Nat.le_refl _) (by omega))]
    have key2 := for0 (fun fm t => m_X3_become_72 bn (fil bL aL 10) (fil bU aU 10) (fil bO aO 10) (fil bB aB 10) bH fm (fil bH aH t) (nI t)) 12 (some (bn, fil bL aL 10, fil bU aU 10, fil bH aH 12, fil bO aO 10, fil bB aB 10)) fu (by omega) (fun fm t ht => by
      rw [m_X3_become_72, if_neg (nI_ge ht (by omega)), gd_nI ht (by omega), gd_nI ht (by omega), nI_clamp (by omega), n_1, fil_s]) (fun fm => by
      rw [m_X3_become_72, if_pos (nI_le (Nat.le_refl _) (by omega))])
    rw [fil_0] at key2
    exact key2)
  rw [fil_0, fil_0, fil_0, fil_0] at key
  exact key
theorem CM_fil {r : Nat → Nat} {n : Int32} {L U H O B : Nat → Int32} (hc : CM r n L U H O B) (aL aU aH aO aB : Nat → Int32) : CM r n (fil L aL 10) (fil U aU 10) (fil H aH 12) (fil O aO 10) (fil B aB 10) := by
  obtain ⟨h0, h1, h2, h3, h4, h5⟩ := hc
  exact ⟨h0, fun s hs => by rw [fil_lt hs]; exact h1 s hs, fun s hs => by rw [fil_lt hs]; exact h2 s hs, fun s hs => by rw [fil_lt hs]; exact h3 s hs, fun s hs => by rw [fil_lt hs]; exact h4 s hs, fun s hs => by rw [fil_lt hs]; exact h5 s hs⟩
/-- what lies behind the manual's own entries -/
def Nm (r : Nat → Nat) : Prop := (∀ s, r 0 ≤ s → s < 10 → r (1 + s) = 1 ∧ r (23 + s) = 0 ∧ r (33 + s) = s ∧ r (43 + s) = 0) ∧ ∀ j, 53 ≤ j → r j = 0
theorem hI_inj {a b : Nat} (ha : a < 1000) (hb : b < 1000) (h : hI a = hI b) : a = b := by
  by_cases e : b = 0
  · rw [e] at h ⊢
    exact (hI_m1 ha).mp h
  · rw [hI_pos e] at h
    have := (hI_eq ha (by omega)).mp h
    omega
theorem X3_isSame {ra rb : Nat → Nat} {n : Int32} {L U H O B : Nat → Int32} {n' : Int32} {L' U' H' O' B' : Nat → Int32} (ha : CM ra n L U H O B) (hb : CM rb n' L' U' H' O' B') (va : Iv ra) (vb : Iv rb) (na : Nm ra) (nb : Nm rb) {fu : Nat} (hfu : 1100 ≤ fu) : ∃ b : Bool, m_X3_isSame fu n L U H O B n' L' U' H' O' B' = some (nI b.toNat) ∧ (b = true → ra = rb) := by
  obtain ⟨rfl, hL, hU, hH, hO, hB⟩ := ha
  obtain ⟨rfl, hL', hU', hH', hO', hB'⟩ := hb
  have b1 := va.1.2
  have b2 := vb.1.2
  unfold m_X3_isSame
  by_cases e0 : ra 0 = rb 0
  · rw [if_pos (by rw [e0])]
    let bad : Nat → Bool := fun s => !(decide (L s = L' s) && (decide (U s = U' s) && (decide (O s = O' s) && decide (B s = B' s))))
    have hm := fnd_le bad (ra 0) 0
    have step : ∀ fn i, i < ra 0 → m_X3_isSame_15 fu (nI (ra 0)) L U H O B L' U' H' O' B' (fn + 1) (nI i) = if bad i = true then some (nI 0) else m_X3_isSame_15 fu (nI (ra 0)) L U H O B L' U' H' O' B' fn (nI (i + 1)) := by
      intro fn i hi
      have hg : ∀ x : Option Int32, gd 10 (nI i) x = x := fun x => gd_nI (by omega) (by omega)
      rw [m_X3_isSame_15, if_neg (nI_ge hi (by omega))]
      simp only [hg]
      rw [nI_clamp (by omega), n_1]
      show _ = if (!(decide (L i = L' i) && (decide (U i = U' i) && (decide (O i = O' i) && decide (B i = B' i))))) = true then _ else _
      by_cases c1 : L i = L' i
      · by_cases c2 : U i = U' i
        · by_cases c3 : O i = O' i
          · by_cases c4 : B i = B' i
            · simp [c1, c2, c3, c4]
            · simp [c1, c2, c3, c4]
          · simp [c1, c2, c3]
        · simp [c1, c2]
      · simp [c1]
    let bad2 : Nat → Bool := fun t => !(decide (H t = H' t))
    have hm2 := fnd_le bad2 12 0
    have step2 : ∀ fn i, i < 12 → m_X3_isSame_93 H H' (fn + 1) (nI i) = if bad2 i = true then some (nI 0) else m_X3_isSame_93 H H' fn (nI (i + 1)) := by
      intro fn i hi
      rw [m_X3_isSame_93, if_neg (nI_ge hi (by omega)), gd_nI hi (by omega), gd_nI hi (by omega), nI_clamp (by omega), n_1]
      show _ = if (!(decide (H i = H' i))) = true then _ else _
      by_cases c1 : H i = H' i <;> simp [c1]
    by_cases hlt : fnd bad (ra 0) 0 < ra 0
    · refine ⟨false, ?_, fun h => by cases h⟩
      refine for0 (fun fn i => m_X3_isSame_15 fu (nI (ra 0)) L U H O B L' U' H' O' B' fn (nI i)) (fnd bad (ra 0) 0) _ fu (by omega) (fun fn i hi => ?_) (fun fn => ?_)
      · rw [step fn i (by omega), if_neg (by rw [fnd_no bad (ra 0) 0 i (Nat.zero_le _) hi]; simp)]
      · rw [step fn _ hlt, if_pos (fnd_yes bad (ra 0) 0 (by omega))]; rfl
    · have hall : ∀ s, s < ra 0 → L s = L' s ∧ U s = U' s ∧ O s = O' s ∧ B s = B' s := by
        intro s hs
        have h9 : (!(decide (L s = L' s) && (decide (U s = U' s) && (decide (O s = O' s) && decide (B s = B' s))))) = false := fnd_no bad (ra 0) 0 s (Nat.zero_le _) (by omega)
        simpa using h9
      by_cases hlt2 : fnd bad2 12 0 < 12
      · refine ⟨false, ?_, fun h => by cases h⟩
        refine for0 (fun fn i => m_X3_isSame_15 fu (nI (ra 0)) L U H O B L' U' H' O' B' fn (nI i)) (ra 0) _ fu (by omega) (fun fn i hi => ?_) (fun fn => ?_)
        · rw [step fn i hi, if_neg (by rw [fnd_no bad (ra 0) 0 i (Nat.zero_le _) (by omega)]; simp)]
        · rw [m_X3_isSame_15, if_pos (nI_le (Nat.le_refl _) (by omega))]
          refine for0 (fun fm t => m_X3_isSame_93 H H' fm (nI t)) (fnd bad2 12 0) _ fu (by omega) (fun fm t ht => ?_) (fun fm => ?_)
          · rw [step2 fm t (by omega), if_neg (by rw [fnd_no bad2 12 0 t (Nat.zero_le _) ht]; simp)]
          · rw [step2 fm _ hlt2, if_pos (fnd_yes bad2 12 0 (by omega))]; rfl
      · have hall2 : ∀ t, t < 12 → H t = H' t := by
          intro t ht
          have h9 : (!(decide (H t = H' t))) = false := fnd_no bad2 12 0 t (Nat.zero_le _) (by omega)
          simpa using h9
        refine ⟨true, ?_, fun _ => ?_⟩
        · refine for0 (fun fn i => m_X3_isSame_15 fu (nI (ra 0)) L U H O B L' U' H' O' B' fn (nI i)) (ra 0) _ fu (by omega) (fun fn i hi => ?_) (fun fn => ?_)
          · rw [step fn i hi, if_neg (by rw [fnd_no bad (ra 0) 0 i (Nat.zero_le _) (by omega)]; simp)]
          · rw [m_X3_isSame_15, if_pos (nI_le (Nat.le_refl _) (by omega))]
            refine for0 (fun fm t => m_X3_isSame_93 H H' fm (nI t)) 12 _ fu (by omega) (fun fm t ht => ?_) (fun fm => ?_)
            · rw [step2 fm t ht, if_neg (by rw [fnd_no bad2 12 0 t (Nat.zero_le _) (by omega)]; simp)]
            · rw [m_X3_isSame_93, if_pos (nI_le (Nat.le_refl _) (by omega))]; rfl
        · have q1 : ∀ s, s < 10 → ra (1 + s) = rb (1 + s) ∧ ra (23 + s) = rb (23 + s) ∧ ra (33 + s) = rb (33 + s) ∧ ra (43 + s) = rb (43 + s) := by
            intro s hs
            by_cases h : s < ra 0
            · obtain ⟨h1, h2, h3, h4⟩ := hall s h
              rw [hL s hs, hL' s hs] at h1
              rw [hU s hs, hU' s hs] at h2
              rw [hO s hs, hO' s hs] at h3
              rw [hB s hs, hB' s hs] at h4
              have x1 := va.2.1 s hs
              have x2 := vb.2.1 s hs
              have x3 := va.2.2.2.1 s hs
              have x4 := vb.2.2.2.1 s hs
              have x5 := va.2.2.2.2.1 s h
              have x6 := vb.2.2.2.2.1 s (by omega)
              have x7 := va.2.2.2.2.2.2 s hs
              have x8 := vb.2.2.2.2.2.2 s hs
              exact ⟨(nI_eq (by omega) (by omega)).mp h1, (nI_eq (by omega) (by omega)).mp h2, (nI_eq (by omega) (by omega)).mp h3, (nI_eq (by omega) (by omega)).mp h4⟩
            · obtain ⟨h1, h2, h3, h4⟩ := na.1 s (by omega) hs
              obtain ⟨h5, h6, h7, h8⟩ := nb.1 s (by omega) hs
              omega
          funext j
          by_cases h53 : 53 ≤ j
          · rw [na.2 j h53, nb.2 j h53]
          · by_cases c1 : j = 0
            · rw [c1]; exact e0
            · by_cases c2 : j < 11
              · obtain ⟨s, rfl⟩ : ∃ s, j = 1 + s := ⟨j - 1, by omega⟩
                exact (q1 s (by omega)).1
              · by_cases c3 : j < 23
                · obtain ⟨t, rfl⟩ : ∃ t, j = 11 + t := ⟨j - 11, by omega⟩
                  have h1 := hall2 t (by omega)
                  rw [hH t (by omega), hH' t (by omega)] at h1
                  have x1 := va.2.2.1 t (by omega)
                  have x2 := vb.2.2.1 t (by omega)
                  exact hI_inj (by omega) (by omega) h1
                · by_cases c4 : j < 33
                  · obtain ⟨s, rfl⟩ : ∃ s, j = 23 + s := ⟨j - 23, by omega⟩
                    exact (q1 s (by omega)).2.1
                  · by_cases c5 : j < 43
                    · obtain ⟨s, rfl⟩ : ∃ s, j = 33 + s := ⟨j - 33, by omega⟩
                      exact (q1 s (by omega)).2.2.1
                    · obtain ⟨s, rfl⟩ : ∃ s, j = 43 + s := ⟨j - 43, by omega⟩
                      exact (q1 s (by omega)).2.2.2
  · exact ⟨false, by rw [if_neg (fun z => e0 ((nI_eq (by omega) (by omega)).mp z))]; rfl, fun h => by cases h⟩
theorem X0_writeOrder {r : Nat → Nat} {ch : Nat → Int32} (hv : Iv r) (hp : Pr r) (hch : ∀ P, P < AA r → ch P = nI (nx r P)) {fu : Nat} (hfu : 1100 ≤ fu) (q_or : Nat → Int32) : m_X0_writeOrder fu q_or ch (nI (r 0)) = some (fil (fun i => nI (bo r i)) q_or (r 0)) := by
  have b1 := hv.1.2
  obtain ⟨a1, a2, a3⟩ := AAp hv
  unfold m_X0_writeOrder
  have key := for0 (fun fn i => m_X0_writeOrder_4 ch (nI (r 0)) fn (fil (fun i => nI (bo r i)) q_or i) (nI (bp r i)) (nI i)) (r 0) (some (fil (fun i => nI (bo r i)) q_or (r 0))) fu (by omega) (fun fn i hi => by
    have hP := (bp_ok hv hp i (by omega)).2.2 hi
    have hb := (bo_ok hv hp hi).1
    rw [m_X0_writeOrder_4, if_neg (nI_ge hi (by omega)), gd_nI (by omega) (by omega), gd_nI (by omega) (by omega), gd_nI (by omega) (by omega), nI_clamp (by omega), nI_clamp (by omega), hch _ hP, pk_us]
    rw [show nI (nx r (bp r i)) = (fun i => nI (bo r i)) i from rfl, fil_s]
    show ((m_X6_with (nI (bp r i)) (nI (bo r i))).bind _) = _
    rw [X6_with (by omega), Option.bind_some, n_1]
    rfl) (fun fn => by
    rw [m_X0_writeOrder_4, if_pos (nI_le (Nat.le_refl _) (by omega))])
  rw [fil_0] at key
  exact key
/-- what the search remembers -/
def BO (nt iv fd : Int32) (q_or : Nat → Int32) (n : Int32) (L U H O B : Nat → Int32) : Prop := fd = nI 0 ∨ (fd = nI 1 ∧ ∃ rb, Iv rb ∧ Pr rb ∧ Nm rb ∧ CM rb n L U H O B ∧ nt = nI (tb rb 0).1 ∧ iv = nI (tb rb 0).2 ∧ ∀ p, p < rb 0 → q_or p = nI (bo rb p))
theorem crs_0 (r : Nat → Nat) : ∀ n, crs r 0 n = 0
  | 0 => rfl
  | n + 1 => by
    have ih := crs_0 r n
    unfold crs at ih ⊢
    rw [sm, ih]
    unfold ip
    rw [Nat.zero_testBit]
    rfl
theorem X0_find {r : Nat → Nat} {nt iv fd : Int32} {q_or df se co ch : Nat → Int32} {vn : Int32} {vL vU vH vO vB : Nat → Int32} {n : Int32} {L U H O B : Nat → Int32} (hbo : BO nt iv fd q_or vn vL vU vH vO vB) (hc : CM r n L U H O B) (hv : Iv r) (hp : Pr r) (hn : Nm r) {fu : Nat} (hfu : 1100 ≤ fu) : ∃ (q_or' df' se' co' ch' : Nat → Int32) (vn' : Int32) (vL' vU' vH' vO' vB' : Nat → Int32), m_X0_find fu nt iv fd q_or df se co ch vn vL vU vH vO vB n L U H O B = some (nI (tb r 0).1, nI (tb r 0).2, nI 1, q_or', df', se', co', ch', vn', vL', vU', vH', vO', vB') ∧ CM r vn' vL' vU' vH' vO' vB' ∧ ∀ p, p < r 0 → q_or' p = nI (bo r p) := by
  have b1 := hv.1.2
  obtain ⟨a1, a2, a3⟩ := AAp hv
  have hq := p31 (k := r 0) (by omega)
  have anew : ∃ (q_or' df' se' co' ch' : Nat → Int32) (vn' : Int32) (vL' vU' vH' vO' vB' : Nat → Int32), m_X0_find_19 fu q_or df se co ch vL vU vH vO vB n L U H O B = some (nI (tb r 0).1, nI (tb r 0).2, nI 1, q_or', df', se', co', ch', vn', vL', vU', vH', vO', vB') ∧ CM r vn' vL' vU' vH' vO' vB' ∧ ∀ p, p < r 0 → q_or' p = nI (bo r p) := by
    unfold m_X0_find_19
    rw [X3_become hfu, Option.bind_some]
    have hc2 := CM_fil hc vL vU vH vO vB
    generalize fil L vL 10 = L2 at hc2 ⊢
    generalize fil U vU 10 = U2 at hc2 ⊢
    generalize fil H vH 12 = H2 at hc2 ⊢
    generalize fil O vO 10 = O2 at hc2 ⊢
    generalize fil B vB 10 = B2 at hc2 ⊢
    obtain ⟨df', se', g1, g2, g3⟩ := X0_gather hc2 hv hfu df se
    rw [g3, Option.bind_some]
    have hn0 : n = nI (r 0) := hc.1
    simp only []
    rw [hn0, n_bit (by omega), ← a1, pk_sub (by omega), Nat.add_sub_cancel, gd_nI (by omega) (by omega), nI_clamp (by omega), pk_sub (by omega)]
    rw [show nI (AA r - 1) = nI (AA r - 0) + (-1 : Int32) by rw [Nat.sub_zero, sb_m1 (by omega)]]
    rw [hn0] at hc2
    obtain ⟨st', fn', hI, hF⟩ := forE (σ := (Nat → Int32) × (Nat → Int32)) (fun fn st i => m_X0_find_59 fu (nI 1) q_or df' se' (nI (r 0)) L2 U2 H2 O2 B2 fn st.1 st.2 (nI (AA r - i) + (-1 : Int32))) (fun i st => (∀ Q, AA r - i ≤ Q → Q ≤ AA r → st.1 Q = nI (CC r Q)) ∧ (∀ Q, AA r - i ≤ Q → Q < AA r → st.2 Q = nI (nx r Q))) (AA r) (fun fn st i hi hI => by
      obtain ⟨i1, i2⟩ := hI
      have hP : AA r - i - 1 < AA r := by omega
      refine ⟨(upd st.1 (AA r - i - 1) (nI (CC r (AA r - i - 1))), upd st.2 (AA r - i - 1) (nI (nx r (AA r - i - 1)))), ⟨fun Q h3 h4 => ?_, fun Q h3 h4 => ?_⟩, ?_⟩
      · show upd st.1 _ _ Q = _
        by_cases e : Q = AA r - i - 1
        · rw [e, pk_us]
        · rw [pk_un e]; exact i1 Q (by omega) h4
      · show upd st.2 _ _ Q = _
        by_cases e : Q = AA r - i - 1
        · rw [e, pk_us]
        · rw [pk_un e]; exact i2 Q (by omega) h4
      · rw [sb_m1 (by omega), m_X0_find_59, if_neg (nI_nlt (Nat.zero_le _) (by omega)), X0_choose hc2 hv hp g1 g2 hP hfu (fun Q h3 h4 => i1 Q (by omega) h4), Option.bind_some, show AA r - i - 1 = AA r - (i + 1) by omega]) (AA r) fu (upd co (AA r) (nI 0), ch) 0 (by omega) (by omega) ⟨fun Q h3 h4 => by
        have e : Q = AA r := by omega
        have e2 : crs r (AA r) (r 0) = 0 := by
          have : ∀ m, m ≤ r 0 → un r (AA r) m = 0 := by
            intro m
            induction m with
            | zero => intro _; rfl
            | succ m ih =>
              intro hm
              have := ih (by omega)
              unfold un at this ⊢
              rw [sm, this]
              unfold ip AA
              rw [Nat.testBit_two_pow_sub_one, decide_eq_true (hv.2.2.2.2.1 m (by omega))]
              rfl
          have key : ∀ m, m ≤ r 0 → crs r (AA r) m = 0 := by
            intro m
            induction m with
            | zero => intro _; rfl
            | succ m ih =>
              intro hm
              have h5 := ih (by omega)
              unfold crs at h5 ⊢
              rw [sm, h5, this m (by omega)]
              split <;> rfl
          exact key _ (Nat.le_refl _)
        rw [e]
        show upd co (AA r) (nI 0) (AA r) = _
        rw [pk_us]
        unfold CC
        rw [tb_AA, e2]
        rfl, fun Q h3 h4 => by omega⟩
    have hF : m_X0_find_59 fu (nI 1) q_or df' se' (nI (r 0)) L2 U2 H2 O2 B2 fu (upd co (AA r) (nI 0)) ch (nI (AA r - 0) + (-1 : Int32)) = m_X0_find_59 fu (nI 1) q_or df' se' (nI (r 0)) L2 U2 H2 O2 B2 (fn' + 1) st'.1 st'.2 (nI (AA r - AA r) + (-1 : Int32)) := hF
    have ht := tb_bd hv hp (P := 0) (by omega)
    have hcc : CC r 0 = 64 * (tb r 0).1 + (tb r 0).2 := by unfold CC; rw [crs_0]; rfl
    refine ⟨fil (fun i => nI (bo r i)) q_or (r 0), df', se', st'.1, st'.2, nI (r 0), L2, U2, H2, O2, B2, ?_, hc2, fun p hpp => fil_lt hpp⟩
    rw [hF, Nat.sub_self, m_X0_find_59, if_pos (by decide +kernel), gd_nI (by omega) (by omega), gd_nI (by omega) (by omega), X0_writeOrder hv hp (fun P hP => hI.2 P (by omega) hP) hfu, Option.bind_some, nI_clamp (by omega), hI.1 0 (by omega) (by omega), pk_div (by omega) (by omega) (by omega), pk_mul, pk_sub (by omega)]
    rw [show CC r 0 / 64 = (tb r 0).1 by omega, show CC r 0 - (tb r 0).1 * 64 = (tb r 0).2 by omega]
  unfold m_X0_find
  rcases hbo with h | ⟨h, rb, v1, v2, v3, v4, v5, v6, v7⟩
  · rw [if_pos h]
    exact anew
  · rw [if_neg (by rw [h]; decide +kernel)]
    obtain ⟨b, e1, e2⟩ := X3_isSame v4 hc v1 hv v3 hn hfu
    rw [e1, Option.bind_some, ib0]
    cases b with
    | false => rw [if_pos rfl]; exact anew
    | true =>
      have e3 := e2 rfl
      subst e3
      rw [if_neg (by simp)]
      exact ⟨q_or, df, se, co, ch, vn, vL, vU, vH, vO, vB, by rw [v5, v6, h], v4, v7⟩
