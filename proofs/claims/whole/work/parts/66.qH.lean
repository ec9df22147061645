/-! PURE QH: the settled order -/
theorem E_settle {S N : Nat} {hist : Nat → Nat → Nat} {Y : Nat → MN} {k : Nat → Int32} (h : HR S N hist Y k) {r : Nat → Nat} {n : Int32} {L U H O B : Nat → Int32} (ho : Ok r) (hc : CM r n L U H O B) (hk : R0 r k) {fu : Nat} (hfu : 1100 ≤ fu) {nt' iv fd : Int32} {qo df se co ch : Nat → Int32} {vn : Int32} {vL vU vH vO vB : Nat → Int32} (hb : BO nt' iv fd qo vn vL vU vH vO vB) (nu no tu : Nat → Int32) : ∃ a O' S' N' y1 y2 y3 y4 y5 y6 nt1 iv1 fd1 qo1 df1 se1 co1 ch1 vn1 vL1 vU1 vH1 vO1 vB1 k' nu1 no1 tu1 r', m_X6_settle fu n L U H O B (nI S) (nI N) (Y N).2.1 (Y N).2.2.1 (Y N).2.2.2.1 (Y N).2.2.2.2.1 (Y N).2.2.2.2.2 nt' iv fd qo df se co ch vn vL vU vH vO vB = some (a, O', nI S', nI N', y1, y2, y3, y4, y5, y6, nt1, iv1, fd1, qo1, df1, se1, co1, ch1, vn1, vL1, vU1, vH1, vO1, vB1) ∧ m_X7_settle fu (nI S) k nu no tu = some (a, nI S', k', nu1, no1, tu1) ∧ CM r' n L U H O' B ∧ Chg N Y k S' N' (y1, y2, y3, y4, y5, y6) k' r' ∧ BO nt1 iv1 fd1 qo1 vn1 vL1 vU1 vH1 vO1 vB1 := by
  have b0 := ho.1.1
  obtain ⟨qo', df', se', co', ch', vn', vL', vU', vH', vO', vB', f1, f2, f3⟩ := X0_find (df := df) (se := se) (co := co) (ch := ch) hb hc ho.1 ho.2.1 ho.2.2 hfu
  obtain ⟨no', tu', g1, g2, g3⟩ := X7_lays hk ho.1 ho.2.1 hfu nu no tu
  have hB : BO (nI (tb r 0).1) (nI (tb r 0).2) (nI 1) qo' vn' vL' vU' vH' vO' vB' := Or.inr ⟨rfl, r, ho.1, ho.2.1, ho.2.2, f2, rfl, rfl, f3⟩
  obtain ⟨k1, k', nu', c1, c2, c3⟩ := chg_O h ho (CMt_fil hc (Y N)) hk hfu (fil (fun i => nI (bo r i)) nu (r 0)) (f := bo r) (fun p hp => fil_lt hp) (Ok_bo ho)
  have hto : m_X3_takeOrder fu n O qo' = some (fil qo' O (r 0)) := by rw [hc.1]; exact X3_takeOrder b0.2 O qo' hfu
  unfold m_X6_settle m_X7_settle
  rw [f1, g3, Option.bind_some, Option.bind_some]
  dsimp only
  rw [X2_remember h.1 h.2.1 hfu, Option.bind_some, hto, Option.bind_some, gd_nI (by omega) (by omega), c1, Option.bind_some]
  dsimp only
  rw [c2, Option.bind_some, nI_clamp (by omega), g2 0 (Nat.zero_le _)]
  exact ⟨_, _, s8 S, (N + 1) % 8, _, _, _, _, _, _, _, _, _, _, _, _, _, _, _, _, _, _, _, _, k', _, _, _, _, rfl, rfl, CM_setO _ b0.2 hc f3, c3, hB⟩
