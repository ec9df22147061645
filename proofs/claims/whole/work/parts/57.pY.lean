/-! PURE Y: all clauses of a text -/
def fin (T : Nat → Nat) (l : Nat) : Nat → Nat → RA → Bool × Nat × Nat × (Nat → Nat)
  | 0, c, R => if R.1 = true then (if fs T l R.2.1 < l then (false, fs T l R.2.1, c, R.2.2) else (true, fs T l R.2.1, c, R.2.2)) else (false, R.2.1, c, R.2.2)
  | m + 1, c, R => if R.1 = true then (if fs T l R.2.1 < l then (if T (fs T l R.2.1) = 59 then fin T l m (c + 1) (cl T l (be T l (fs T l R.2.1)) R.2.2) else (false, fs T l R.2.1, c, R.2.2)) else (true, fs T l R.2.1, c, R.2.2)) else (false, R.2.1, c, R.2.2)
theorem fin_ok {T : Nat → Nat} {l : Nat} : ∀ m c (R : RA), GR l R → m + c = 24 → 1 ≤ c → (fin T l m c R).2.1 ≤ l ∧ (1 ≤ (fin T l m c R).2.2.1 ∧ (fin T l m c R).2.2.1 ≤ 24) ∧ ((fin T l m c R).1 = true → Ok (fin T l m c R).2.2.2)
  | 0, c, R, hR, hc, h1 => by
    have a := (fs_le (T := T) hR.1).2
    have h24 : c ≤ 24 := by omega
    rw [fin]
    by_cases e : R.1 = true
    · rw [if_pos e]
      by_cases h : fs T l R.2.1 < l
      · rw [if_pos h]; exact ⟨a, ⟨h1, h24⟩, fun z => Bool.noConfusion z⟩
      · rw [if_neg h]; exact ⟨a, ⟨h1, h24⟩, fun _ => hR.2 e⟩
    · rw [if_neg e]; exact ⟨hR.1, ⟨h1, h24⟩, fun z => Bool.noConfusion z⟩
  | m + 1, c, R, hR, hc, h1 => by
    have a := (fs_le (T := T) hR.1).2
    have h24 : c ≤ 24 := by omega
    rw [fin]
    by_cases e : R.1 = true
    · rw [if_pos e]
      by_cases h : fs T l R.2.1 < l
      · rw [if_pos h]
        by_cases s : T (fs T l R.2.1) = 59
        · rw [if_pos s]
          exact fin_ok m (c + 1) _ (cl_ok (hR.2 e) (be_le a).2.1) (by omega) (by omega)
        · rw [if_neg s]; exact ⟨a, ⟨h1, h24⟩, fun z => Bool.noConfusion z⟩
      · rw [if_neg h]; exact ⟨a, ⟨h1, h24⟩, fun _ => hR.2 e⟩
    · rw [if_neg e]; exact ⟨hR.1, ⟨h1, h24⟩, fun z => Bool.noConfusion z⟩
theorem ck59 : ck 59 = 3 := by decide
theorem X1_carry {T : Nat → Nat} {l : Nat} {b : Nat → Int32} (hT : TX T l b) {fu : Nat} (hfu : 1100 ≤ fu) : ∀ (m c fn p : Nat) (r : Nat → Nat) (n : Int32) (L U H O B : Nat → Int32) (r_cl : Int32) (r_no : Nat → Int32) (t_st t_kd : Int32), Ok r → CM r n L U H O B → p ≤ l → m + c = 24 → m + 2 ≤ fn → ∃ ans cl' no' st nx kd' n' L' U' H' O' B', m_X1_carryOut_9 fu (nI l) b fn r_cl r_no t_st (nI p) t_kd n L U H O B (nI c) = some (ans, cl', no', st, nx, kd', n', L', U', H', O', B') ∧ ((fin T l m c (cl T l p r)).1 = true → ans = (-1 : Int32) ∧ cl' = nI (fin T l m c (cl T l p r)).2.2.1 ∧ CM (fin T l m c (cl T l p r)).2.2.2 n' L' U' H' O' B') ∧ ((fin T l m c (cl T l p r)).1 = false → ans = nI (fin T l m c (cl T l p r)).2.1) := by
  intro m
  induction m with
  | zero =>
    intro c fn p r n L U H O B r_cl r_no t_st t_kd ho hc hp hm hfn
    obtain ⟨f, rfl⟩ : ∃ f, fn = f + 2 := ⟨fn - 2, by omega⟩
    have hT2 := hT
    obtain ⟨hb, hch, hl⟩ := hT2
    have hG := cl_ok (T := T) ho hp
    obtain ⟨no', st, nx, kd', n', L', U', H', O', B', h1, h2, h3⟩ := X1_readClause hT ho hc hp hfu r_no
    rw [m_X1_carryOut_9, if_neg (fun z => by have := (nI_ltI (by omega) (by omega)).mp z; omega), X5_take hT hp hfu, Option.bind_some]
    dsimp only
    rw [h1, Option.bind_some, fin]
    dsimp only
    rw [ib0]
    cases e : (cl T l p r).1 with
    | false =>
      rw [if_pos rfl, if_neg (by simp)]
      exact ⟨_, _, _, _, _, _, _, _, _, _, _, _, rfl, fun z => Bool.noConfusion z, fun _ => h3 e⟩
    | true =>
      obtain ⟨g1, g2⟩ := h2 e
      have a := (fs_le (T := T) hG.1).2
      rw [if_neg (by simp), if_pos rfl, g1, X5_take hT hG.1 hfu, Option.bind_some]
      dsimp only
      unfold m_X5_isEnd m_X5_isSemicolon
      by_cases h : fs T l (cl T l p r).2.1 < l
      · have hk := ck_le (T (fs T l (cl T l p r).2.1))
        have hcc := hch _ h
        rw [kd_in h, if_neg (fun z => by have := (nI_eq (by omega) (by omega)).mp z; omega), Option.bind_some, if_pos rfl, if_pos h]
        by_cases s : T (fs T l (cl T l p r).2.1) = 59
        · rw [s, ck59, if_pos rfl, gd_nI (by omega) (by omega), nI_clamp (by omega), hb _ h, s, if_pos rfl, Option.bind_some, if_neg (show ¬ nI 1 = nI 0 by decide), n_1, m_X1_carryOut_9, if_pos ((nI_ltI (by omega) (by omega)).mpr (by omega))]
          exact ⟨_, _, _, _, _, _, _, _, _, _, _, _, rfl, fun z => Bool.noConfusion z, fun _ => rfl⟩
        · have e3 : (if nI (ck (T (fs T l (cl T l p r).2.1))) = nI 3 then gd 200 (nI (fs T l (cl T l p r).2.1)) (if b (nI (fs T l (cl T l p r).2.1)).toNatClampNeg = nI 59 then some (nI 1) else some (nI 0)) else some (nI 0)) = some (nI 0) := by
            split
            · rw [gd_nI (by omega) (by omega), nI_clamp (by omega), hb _ h, if_neg (fun z => s ((nI_eq (by omega) (by omega)).mp z))]
            · rfl
          rw [e3, Option.bind_some, if_pos rfl]
          exact ⟨_, _, _, _, _, _, _, _, _, _, _, _, rfl, fun z => Bool.noConfusion z, fun _ => rfl⟩
      · rw [kd_out h, if_pos rfl, Option.bind_some, if_neg (show ¬ nI 1 = nI 0 by decide), if_neg h]
        exact ⟨_, _, _, _, _, _, _, _, _, _, _, _, rfl, fun _ => ⟨rfl, rfl, g2⟩, fun z => Bool.noConfusion z⟩
  | succ m ih =>
    intro c fn p r n L U H O B r_cl r_no t_st t_kd ho hc hp hm hfn
    obtain ⟨f, rfl⟩ : ∃ f, fn = f + 1 := ⟨fn - 1, by omega⟩
    have hT2 := hT
    obtain ⟨hb, hch, hl⟩ := hT2
    have hG := cl_ok (T := T) ho hp
    obtain ⟨no', st, nx, kd', n', L', U', H', O', B', h1, h2, h3⟩ := X1_readClause hT ho hc hp hfu r_no
    rw [m_X1_carryOut_9, if_neg (fun z => by have := (nI_ltI (by omega) (by omega)).mp z; omega), X5_take hT hp hfu, Option.bind_some]
    dsimp only
    rw [h1, Option.bind_some, fin]
    dsimp only
    rw [ib0]
    cases e : (cl T l p r).1 with
    | false =>
      rw [if_pos rfl, if_neg (by simp)]
      exact ⟨_, _, _, _, _, _, _, _, _, _, _, _, rfl, fun z => Bool.noConfusion z, fun _ => h3 e⟩
    | true =>
      obtain ⟨g1, g2⟩ := h2 e
      have a := (fs_le (T := T) hG.1).2
      rw [if_neg (by simp), if_pos rfl, g1, X5_take hT hG.1 hfu, Option.bind_some]
      dsimp only
      unfold m_X5_isEnd m_X5_isSemicolon
      by_cases h : fs T l (cl T l p r).2.1 < l
      · have hk := ck_le (T (fs T l (cl T l p r).2.1))
        have hcc := hch _ h
        rw [kd_in h, if_neg (fun z => by have := (nI_eq (by omega) (by omega)).mp z; omega), Option.bind_some, if_pos rfl, if_pos h]
        by_cases s : T (fs T l (cl T l p r).2.1) = 59
        · rw [if_pos s, s, ck59, if_pos rfl, gd_nI (by omega) (by omega), nI_clamp (by omega), hb _ h, s, if_pos rfl, Option.bind_some, if_neg (show ¬ nI 1 = nI 0 by decide), n_1]
          exact ih (c + 1) f _ _ _ _ _ _ _ _ _ _ _ _ (hG.2 e) g2 (be_le a).2.1 (by omega) (by omega)
        · have e3 : (if nI (ck (T (fs T l (cl T l p r).2.1))) = nI 3 then gd 200 (nI (fs T l (cl T l p r).2.1)) (if b (nI (fs T l (cl T l p r).2.1)).toNatClampNeg = nI 59 then some (nI 1) else some (nI 0)) else some (nI 0)) = some (nI 0) := by
            split
            · rw [gd_nI (by omega) (by omega), nI_clamp (by omega), hb _ h, if_neg (fun z => s ((nI_eq (by omega) (by omega)).mp z))]
            · rfl
          rw [e3, Option.bind_some, if_pos rfl, if_neg s]
          exact ⟨_, _, _, _, _, _, _, _, _, _, _, _, rfl, fun z => Bool.noConfusion z, fun _ => rfl⟩
      · rw [kd_out h, if_pos rfl, Option.bind_some, if_neg (show ¬ nI 1 = nI 0 by decide), if_neg h]
        exact ⟨_, _, _, _, _, _, _, _, _, _, _, _, rfl, fun _ => ⟨rfl, rfl, g2⟩, fun z => Bool.noConfusion z⟩
/-- what the reference answers for the whole text -/
def RG (Q : Bool × Nat × Nat × (Nat → Nat)) (d : Nat) (k k' : Nat → Int32) (fi cl' : Int32) : Prop := (Q.1 = false → fi = nI Q.2.1) ∧ cl' = nI Q.2.2.1 ∧ (d = 0 → k' = k) ∧ (d = 1 → (Q.1 = true → R0 Q.2.2.2 k') ∧ ∀ j, 53 ≤ j → k' j = k j)
theorem X7_all34 {T : Nat → Nat} {l : Nat} {b : Nat → Int32} (hT : TX T l b) {d fu : Nat} (hfu : 1100 ≤ fu) (hd : d = 0 ∨ d = 1) (k0 : Nat → Int32) : ∀ (m c fn : Nat) (R : RA) (fi be' to' : Int32) (k nu : Nat → Int32), GR l R → RF T l R d k0 k fi be' to' → m + c = 24 → m + 2 ≤ fn → ∃ fi' be'' to'' cl' k' nu', m_X7_readsAll_34 fu (nI l) (nI d) b (nmA 48) fn fi be' to' (nI c) k nu (nI R.1.toNat) = some (nI (fin T l m c R).1.toNat, fi', be'', to'', cl', nI d, k', nu') ∧ RG (fin T l m c R) d k0 k' fi' cl' := by
  intro m
  induction m with
  | zero =>
    intro c fn R fi be' to' k nu hG hR hm hfn
    obtain ⟨f, rfl⟩ : ∃ f, fn = f + 2 := ⟨fn - 2, by omega⟩
    have hT2 := hT
    obtain ⟨hb, hch, hl⟩ := hT2
    obtain ⟨R1, R2, R3, R4⟩ := hR
    rw [m_X7_readsAll_34, ib0, zb_b, fin]
    cases e : R.1 with
    | false =>
      rw [if_pos rfl, if_neg (by simp)]
      exact ⟨_, _, _, _, _, _, rfl, fun _ => R2 e, rfl, R3, fun z => ⟨fun y => Bool.noConfusion y, (R4 z).2⟩⟩
    | true =>
      obtain ⟨g1, g2, g3⟩ := R1 e
      have a := (fs_le (T := T) hG.1).2
      rw [if_neg (by simp), if_pos rfl, g1]
      by_cases h : fs T l R.2.1 < l
      · rw [if_neg (nI_ge h (by omega)), if_pos (nI_le (by omega) (by omega)), if_pos h]
        unfold m_X7_readsAll_77
        rw [if_pos rfl, m_X7_readsAll_34, if_pos rfl]
        exact ⟨_, _, _, _, _, _, rfl, fun _ => rfl, rfl, R3, fun z => ⟨fun y => Bool.noConfusion y, (R4 z).2⟩⟩
      · rw [if_pos (nI_le (by omega) (by omega)), if_neg h]
        exact ⟨_, _, _, _, _, _, rfl, fun z => Bool.noConfusion z, rfl, R3, fun z => ⟨fun y => (R4 z).1 e, (R4 z).2⟩⟩
  | succ m ih =>
    intro c fn R fi be' to' k nu hG hR hm hfn
    obtain ⟨f, rfl⟩ : ∃ f, fn = f + 2 := ⟨fn - 2, by omega⟩
    have hT2 := hT
    obtain ⟨hb, hch, hl⟩ := hT2
    obtain ⟨R1, R2, R3, R4⟩ := hR
    rw [m_X7_readsAll_34, ib0, zb_b, fin]
    cases e : R.1 with
    | false =>
      rw [if_pos rfl, if_neg (by simp)]
      exact ⟨_, _, _, _, _, _, rfl, fun _ => R2 e, rfl, R3, fun z => ⟨fun y => Bool.noConfusion y, (R4 z).2⟩⟩
    | true =>
      obtain ⟨g1, g2, g3⟩ := R1 e
      have a := (fs_le (T := T) hG.1).2
      rw [if_neg (by simp), if_pos rfl, g1]
      by_cases h : fs T l R.2.1 < l
      · have hcc := hch _ h
        rw [if_neg (nI_ge h (by omega)), if_neg (nI_ge (by omega) (by omega)), gd_nI (by omega) (by omega), nI_clamp (by omega), hb _ h, if_pos h]
        unfold m_X7_readsAll_77
        by_cases s : T (fs T l R.2.1) = 59
        · have pb := (be_le (T := T) a).2.1
          obtain ⟨fi2, be2, to2, k2, nu2, q1, q2⟩ := X7_readsClause (d := d) (k := k) (fu := fu) hT (hG.2 e) pb hfu hd (fun z => (R4 z).1 e) nu
          rw [if_pos (by rw [s]), if_pos s, if_neg (show ¬ nI 1 = nI 0 by decide), g2, X7_next hT pb hfu, Option.bind_some]
          dsimp only
          rw [g3, q1, Option.bind_some, n_1]
          dsimp only
          obtain ⟨S1, S2, S3, S4⟩ := q2
          exact ih (c + 1) (f + 1) _ _ _ _ _ _ (cl_ok (hG.2 e) pb) ⟨S1, S2, fun z => (S3 z).trans (R3 z), fun z => ⟨(S4 z).1, fun j hj => ((S4 z).2 j hj).trans ((R4 z).2 j hj)⟩⟩ (by omega) (by omega)
        · rw [if_neg (fun z => s ((nI_eq (by omega) (by omega)).mp z)), if_neg s, if_pos rfl, m_X7_readsAll_34, if_pos rfl]
          exact ⟨_, _, _, _, _, _, rfl, fun _ => rfl, rfl, R3, fun z => ⟨fun y => Bool.noConfusion y, (R4 z).2⟩⟩
      · rw [if_pos (nI_le (by omega) (by omega)), if_neg h]
        exact ⟨_, _, _, _, _, _, rfl, fun z => Bool.noConfusion z, rfl, R3, fun z => ⟨fun y => (R4 z).1 e, (R4 z).2⟩⟩
/-- the whole text on a manual -/
def FN (T : Nat → Nat) (l : Nat) (r : Nat → Nat) : Bool × Nat × Nat × (Nat → Nat) := fin T l 23 1 (cl T l 0 r)
theorem X7_readsAll {T : Nat → Nat} {l : Nat} {b : Nat → Int32} (hT : TX T l b) {r : Nat → Nat} (ho : Ok r) {k : Nat → Int32} (hk : R0 r k) {d fu : Nat} (hfu : 1100 ≤ fu) (hd : d = 0 ∨ d = 1) (nu : Nat → Int32) : ∃ fi be' to' cl' k' nu', m_X7_readsAll fu (nI l) k b nu (nmA 48) (nI d) = some (nI (FN T l r).1.toNat, fi, be', to', cl', nI d, k', nu') ∧ RG (FN T l r) d k k' fi cl' := by
  obtain ⟨fi2, be2, to2, k2, nu2, q1, q2⟩ := X7_readsClause (d := d) (k := k) (fu := fu) hT ho (Nat.zero_le l) hfu hd (fun _ => hk) nu
  unfold m_X7_readsAll
  have hz : zb (nI d) (gd 583 (nI 0) <| (m_X7_next fu (nI l) (nI 0) b).bind fun rv1 => (m_X7_readsClause fu (nI l) rv1.1 rv1.2 (k (nI 0).toNatClampNeg) (nI d) k b nu (nmA 48)).bind fun rv2 => m_X7_readsAll_34 fu (nI l) (nI d) b (nmA 48) fu rv2.2.1 rv2.2.2.1 rv2.2.2.2.1 (nI 1) rv2.2.2.2.2.1 rv2.2.2.2.2.2 rv2.1) = (gd 583 (nI 0) <| (m_X7_next fu (nI l) (nI 0) b).bind fun rv1 => (m_X7_readsClause fu (nI l) rv1.1 rv1.2 (k (nI 0).toNatClampNeg) (nI d) k b nu (nmA 48)).bind fun rv2 => m_X7_readsAll_34 fu (nI l) (nI d) b (nmA 48) fu rv2.2.1 rv2.2.2.1 rv2.2.2.2.1 (nI 1) rv2.2.2.2.2.1 rv2.2.2.2.2.2 rv2.1) := by
    rcases hd with rfl | rfl <;> rfl
  rw [hz, gd_nI (by omega) (by omega), X7_next hT (Nat.zero_le l) hfu, Option.bind_some]
  dsimp only
  rw [nI_clamp (by omega), hk.1 0 (by omega) (by omega), q1, Option.bind_some]
  dsimp only
  exact X7_all34 hT hfu hd k 23 1 fu (cl T l 0 r) _ _ _ _ _ (cl_ok ho (Nat.zero_le l)) q2 (by omega) (by omega)
