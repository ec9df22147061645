/-! PURE X: a clause with its name -/
def cl (T : Nat → Nat) (l p : Nat) (r : Nat → Nat) : RA := if nmi T l (fs T l p) < 6 then ra T l (be T l (fs T l p)) r (nmi T l (fs T l p)) else (false, fs T l p, r)
def GR (l : Nat) (R : RA) : Prop := R.2.1 ≤ l ∧ (R.1 = true → Ok R.2.2)
theorem f2_le {T : Nat → Nat} {l i : Nat} (hi : i ≤ l) : f2 T l i ≤ l := (fs_le (be_le (fs_le hi).2).2.1).2
theorem ra_ok {T : Nat → Nat} {l i : Nat} {r : Nat → Nat} (ho : Ok r) (hi : i ≤ l) {x : Nat} (hx : x < 6) : GR l (ra T l i r x) := by
  have b0 := ho.1.1
  have a1 := (fs_le (T := T) hi).2
  have a2 := f2_le (T := T) hi
  have a3 := (be_le (T := T) a1).2.1
  have a4 := (be_le (T := T) a2).2.1
  rcases x with _ | _ | _ | _ | _ | _ | x
  · show GR l (ra0 T l i r)
    unfold ra0
    split
    · rename_i e
      exact ⟨a3, fun _ => rb_ok (rdn_ok e).2⟩
    · exact ⟨a1, fun z => Bool.noConfusion z⟩
  · show GR l (ra1 T l i r)
    unfold ra1
    split
    · rename_i e
      have := (rdn_ok e).2
      split
      · rename_i c
        have := (rdn_ok c).2
        exact ⟨a4, fun _ => Ok_L ho (by omega) (by omega) (by omega)⟩
      · exact ⟨a2, fun z => Bool.noConfusion z⟩
    · exact ⟨a1, fun z => Bool.noConfusion z⟩
  · show GR l (ra2 T l i r)
    unfold ra2
    split
    · rename_i e
      have := (trs_1 e).2
      split
      · rename_i c
        have := (rdn_ok c).2
        exact ⟨a4, fun _ => Ok_H ho (by omega) (by omega)⟩
      · exact ⟨a2, fun z => Bool.noConfusion z⟩
    · exact ⟨a1, fun z => Bool.noConfusion z⟩
  · show GR l (ra3 T l i r)
    unfold ra3
    split
    · rename_i e
      have := (rdn_ok e).2
      split
      · rename_i c
        have h4 := trs_ok c
        exact ⟨a4, fun _ => Ok_U ho (by omega) (Nat.or_lt_two_pow (n := 12) (ho.1.2.2.2.1 _ (by omega)) h4.1)⟩
      · exact ⟨a2, fun z => Bool.noConfusion z⟩
    · exact ⟨a1, fun z => Bool.noConfusion z⟩
  · show GR l (ra4 T l i r)
    unfold ra4
    split
    · rename_i e
      have h3 := (rdn_ok e).2
      split
      · rename_i c
        have h4 := (rdn_ok c.1).2
        refine ⟨a4, fun _ => ?_⟩
        show Ok (if cpr r (nv T l (fs T l i)) (nv T l (f2 T l i)) = true then upr r (43 + nv T l (f2 T l i)) (r (43 + nv T l (f2 T l i)) ||| 2 ^ nv T l (fs T l i)) else r)
        split
        · rename_i q
          unfold cpr at q
          rw [Bool.and_eq_true, decide_eq_true_eq] at q
          refine Ok_B ho (by omega) (Nat.or_lt_two_pow (n := 10) (ho.1.2.2.2.2.2.2 _ (by omega)) (Nat.pow_lt_pow_right (by omega) (by omega))) (fun a ha => ?_)
          rw [Nat.testBit_or, Bool.or_eq_true, Nat.testBit_two_pow, decide_eq_true_eq] at ha
          rcases ha with z | z
          · exact Or.inl z
          · subst z; exact Or.inr ⟨by omega, q.1⟩
        · exact ho
      · exact ⟨a2, fun z => Bool.noConfusion z⟩
    · exact ⟨a1, fun z => Bool.noConfusion z⟩
  · show GR l (ra5 T l i r)
    unfold ra5
    split
    · rename_i e
      refine ⟨tkp_le hi _, fun _ => ?_⟩
      show Ok (if kpA r (tkv T l i) = true then setO r (tkv T l i) else r)
      split
      · rename_i q
        exact Ok_setO ho (ocD_PO b0.1 e) q
      · exact ho
    · exact ⟨(fs_le (tkp_le hi _)).2, fun z => Bool.noConfusion z⟩
  · omega
theorem cl_ok {T : Nat → Nat} {l p : Nat} {r : Nat → Nat} (ho : Ok r) (hp : p ≤ l) : GR l (cl T l p r) := by
  unfold cl
  split
  · rename_i e
    exact ra_ok ho (be_le (fs_le hp).2).2.1 e
  · exact ⟨(fs_le hp).2, fun z => Bool.noConfusion z⟩
theorem X7_readsClause {T : Nat → Nat} {l : Nat} {b : Nat → Int32} {r : Nat → Nat} {d p fu : Nat} {k : Nat → Int32} (hT : TX T l b) (ho : Ok r) (hp : p ≤ l) (hfu : 1100 ≤ fu) (hd : d = 0 ∨ d = 1) (hk : d = 1 → R0 r k) (nu : Nat → Int32) : ∃ fi be' to' k' nu', m_X7_readsClause fu (nI l) (nI (fs T l p)) (nI (be T l (fs T l p))) (nI (r 0)) (nI d) k b nu (nmA 48) = some (nI (cl T l p r).1.toNat, fi, be', to', k', nu') ∧ RF T l (cl T l p r) d k k' fi be' to' := by
  have a1 := (fs_le (T := T) hp).2
  have a3 := (be_le (T := T) a1).2.1
  unfold m_X7_readsClause
  rw [X7_nameHere hT a1 hfu, Option.bind_some]
  by_cases e : nmi T l (fs T l p) < 6
  · have er : cl T l p r = ra T l (be T l (fs T l p)) r (nmi T l (fs T l p)) := if_pos e
    obtain ⟨fi, be', to', k', nu', h1, h2⟩ := X7_readsAfter hT ho a3 hfu hd hk nu e
    rw [if_pos e, if_neg (nI_m1 (by omega)), X7_next hT a3 hfu, Option.bind_some]
    dsimp only
    rw [h1, Option.bind_some, zb_b, er]
    exact ⟨_, _, _, _, _, rfl, h2⟩
  · have er : cl T l p r = (false, fs T l p, r) := if_neg e
    rw [if_neg e, if_pos rfl, er]
    exact ⟨_, _, _, _, _, rfl, RF_no⟩
theorem nmi_eq {T : Nat → Nat} {l f k : Nat} (hk : k < 6) (h : wm T l f k = true) (hn : ∀ j, j < k → wm T l f j = false) : nmi T l f = k := fnd_eq (Nat.zero_le k) (by omega) h (fun j _ hj => hn j hj)
theorem X1_readClause {T : Nat → Nat} {l : Nat} {b : Nat → Int32} (hT : TX T l b) {r : Nat → Nat} (ho : Ok r) {n : Int32} {L U H O B : Nat → Int32} (hc : CM r n L U H O B) {p fu : Nat} (hp : p ≤ l) (hfu : 1100 ≤ fu) (r_no : Nat → Int32) : ∃ no' st nx kd' n' L' U' H' O' B', m_X1_readClause fu r_no (nI l) (nI (fs T l p)) (nI (be T l (fs T l p))) (nI (kd T l (fs T l p))) b n L U H O B = some (nI (cl T l p r).1.toNat, no', st, nx, kd', n', L', U', H', O', B') ∧ ((cl T l p r).1 = true → nx = nI (cl T l p r).2.1 ∧ CM (cl T l p r).2.2 n' L' U' H' O' B') ∧ ((cl T l p r).1 = false → st = nI (cl T l p r).2.1) := by
  have a1 := (fs_le (T := T) hp).2
  have a3 := (be_le (T := T) a1).2.1
  unfold m_X1_readClause
  rw [X5_isWord hT a1 (k := 0) (by omega) hfu, Option.bind_some, X5_isWord hT a1 (k := 1) (by omega) hfu, Option.bind_some, X5_isWord hT a1 (k := 2) (by omega) hfu, Option.bind_some, X5_isWord hT a1 (k := 3) (by omega) hfu, Option.bind_some, X5_isWord hT a1 (k := 4) (by omega) hfu, Option.bind_some, X5_isWord hT a1 (k := 5) (by omega) hfu, Option.bind_some, ib0, ib0, ib0, ib0, ib0, ib0]
  have go : ∀ k, k < 6 → wm T l (fs T l p) k = true → (∀ j, j < k → wm T l (fs T l p) j = false) → cl T l p r = ra T l (be T l (fs T l p)) r k := fun k hk h hn => by
    have e := nmi_eq hk h hn
    unfold cl
    rw [e, if_pos hk]
  cases w0 : wm T l (fs T l p) 0 with
  | true =>
    rw [if_neg (by simp), go 0 (by omega) w0 (fun j hj => absurd hj (by omega))]
    obtain ⟨st, nx, kd', n', L', U', H', O', B', h1, h2⟩ := X1_readSections hT ho hc a3 hfu
    rw [h1, Option.bind_some, zb_b]
    exact ⟨_, _, _, _, _, _, _, _, _, _, rfl, h2⟩
  | false =>
    rw [if_pos rfl]
    cases w1 : wm T l (fs T l p) 1 with
    | true =>
      rw [if_neg (by simp), go 1 (by omega) w1 (fun j hj => by obtain rfl : j = 0 := by omega
                                                               exact w0)]
      obtain ⟨st, nx, kd', L', h1, h2⟩ := X1_readPages hT ho hc a3 hfu
      rw [h1, Option.bind_some, zb_b]
      exact ⟨_, _, _, _, _, _, _, _, _, _, rfl, h2⟩
    | false =>
      rw [if_pos rfl]
      cases w2 : wm T l (fs T l p) 2 with
      | true =>
        rw [if_neg (by simp), go 2 (by omega) w2 (fun j hj => by
          rcases j with _ | _ | j
          · exact w0
          · exact w1
          · omega)]
        obtain ⟨st, nx, kd', L', h1, h2⟩ := X1_readHome hT ho hc a3 hfu
        rw [h1, Option.bind_some, zb_b]
        exact ⟨_, _, _, _, _, _, _, _, _, _, rfl, h2⟩
      | false =>
        rw [if_pos rfl]
        cases w3 : wm T l (fs T l p) 3 with
        | true =>
          rw [if_neg (by simp), go 3 (by omega) w3 (fun j hj => by
            rcases j with _ | _ | _ | j
            · exact w0
            · exact w1
            · exact w2
            · omega)]
          obtain ⟨st, nx, kd', L', h1, h2⟩ := X1_readUses hT ho hc a3 hfu
          rw [h1, Option.bind_some, zb_b]
          exact ⟨_, _, _, _, _, _, _, _, _, _, rfl, h2⟩
        | false =>
          rw [if_pos rfl]
          cases w4 : wm T l (fs T l p) 4 with
          | true =>
            rw [if_neg (by simp), go 4 (by omega) w4 (fun j hj => by
              rcases j with _ | _ | _ | _ | j
              · exact w0
              · exact w1
              · exact w2
              · exact w3
              · omega)]
            obtain ⟨st, nx, kd', L', h1, h2⟩ := X1_readAhead hT ho hc a3 hfu
            rw [h1, Option.bind_some, zb_b]
            exact ⟨_, _, _, _, _, _, _, _, _, _, rfl, h2⟩
          | false =>
            rw [if_pos rfl]
            cases w5 : wm T l (fs T l p) 5 with
            | true =>
              rw [if_neg (by simp), go 5 (by omega) w5 (fun j hj => by
                rcases j with _ | _ | _ | _ | _ | j
                · exact w0
                · exact w1
                · exact w2
                · exact w3
                · exact w4
                · omega)]
              obtain ⟨no', st, nx, kd', L', h1, h2⟩ := X1_readOrder hT ho hc a3 hfu r_no (nI (fs T l p)) (nI (kd T l (fs T l p)))
              rw [h1, Option.bind_some, zb_b]
              exact ⟨_, _, _, _, _, _, _, _, _, _, rfl, h2⟩
            | false =>
              rw [if_pos rfl]
              have e6 : nmi T l (fs T l p) = 6 := by
                unfold nmi
                rw [fnd_none]
                intro j _ hj
                rcases j with _ | _ | _ | _ | _ | _ | j
                · exact w0
                · exact w1
                · exact w2
                · exact w3
                · exact w4
                · exact w5
                · omega
              have er : cl T l p r = (false, fs T l p, r) := by unfold cl; rw [e6, if_neg (by omega)]
              rw [er]
              exact ⟨_, _, _, _, _, _, _, _, _, _, rfl, fun z => Bool.noConfusion z, fun _ => rfl⟩
