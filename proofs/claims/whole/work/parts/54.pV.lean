/-! PURE V: the reference's reading of the clauses -/
def RF (T : Nat → Nat) (l : Nat) (R : RA) (d : Nat) (k k' : Nat → Int32) (fi be' to' : Int32) : Prop := (R.1 = true → fi = nI (fs T l R.2.1) ∧ be' = nI (be T l (fs T l R.2.1)) ∧ to' = nI (R.2.2 0)) ∧ (R.1 = false → fi = nI R.2.1) ∧ (d = 0 → k' = k) ∧ (d = 1 → (R.1 = true → R0 R.2.2 k') ∧ ∀ j, 53 ≤ j → k' j = k j)
theorem RF_no {T : Nat → Nat} {l : Nat} {r : Nat → Nat} {d f : Nat} {k : Nat → Int32} {be' to' : Int32} : RF T l (false, f, r) d k k (nI f) be' to' := ⟨fun z => Bool.noConfusion z, fun _ => rfl, fun _ => rfl, fun _ => ⟨fun z => Bool.noConfusion z, fun _ _ => rfl⟩⟩
theorem X7_readsSection {T : Nat → Nat} {l : Nat} {b : Nat → Int32} (hT : TX T l b) {f q n fu : Nat} (hf : f ≤ l) (hq : q < 10) (hn : 1 ≤ n) (hn' : n ≤ 10) (hfu : 1100 ≤ fu) (nu : Nat → Int32) (xe : Int32) : m_X7_readsSection fu (nI l) (nI f) (nI (be T l f)) (nI n) b nu (nI q) xe = if rdn T l f 0 (n - 1) = true ∧ nI (nv T l f) ≠ xe then some (nI 1, nI (fs T l (be T l f)), nI (be T l (fs T l (be T l f))), upd nu q (nI (nv T l f))) else some (nI 0, nI f, nI (be T l f), nu) := by
  unfold m_X7_readsSection
  rw [nI_sub hn, X7_reads hT hf hq (by omega) (by omega) hfu]
  by_cases e : rdn T l f 0 (n - 1) = true ∧ nI (nv T l f) ≠ xe
  · rw [if_pos e, Option.bind_some]; rfl
  · rw [if_neg e, Option.bind_some]; rfl
theorem nm1 {T : Nat → Nat} {l f lo hi : Nat} (h : rdn T l f lo hi = true) : nI (nv T l f) ≠ (-1 : Int32) := nI_m1 (by have := nv_le (rdn_ok h).1; omega)
theorem trs_1 {T : Nat → Nat} {l f : Nat} (e : trOk T l f 1 = true) : trs T l f = 2 ^ (T f - 97) ∧ T f - 97 < 12 := by
  obtain ⟨q1, q2, q3⟩ := of_decide_eq_true e
  have := (be_le (T := T) (l := l) (f := f) (by omega)).2.2 q1
  have h := trD_no (T := T) (l := l) (f := f) (j := 0) (by omega)
  rw [Nat.add_zero] at h
  refine ⟨?_, by omega⟩
  unfold trs trg
  rw [show be T l f - f = 1 by omega]
  simp [orf]
theorem d01 {d : Nat} (hd : d = 0 ∨ d = 1) : d < 2 ^ 31 := by omega
section
variable {T : Nat → Nat} {l : Nat} {b : Nat → Int32} {r : Nat → Nat} {d i fu : Nat} {k : Nat → Int32}
theorem X7_after0 (hT : TX T l b) (ho : Ok r) (hi : i ≤ l) (hfu : 1100 ≤ fu) (hd : d = 0 ∨ d = 1) (hk : d = 1 → R0 r k) (nu : Nat → Int32) : ∃ fi be' to' k' nu', m_X7_readsAfter fu (nI l) (nI (fs T l i)) (nI (be T l (fs T l i))) (nI (r 0)) (nI d) k b nu (nI 0) = some (nI (ra0 T l i r).1.toNat, fi, be', to', k', nu') ∧ RF T l (ra0 T l i r) d k k' fi be' to' := by
  unfold m_X7_readsAfter
  rw [if_pos rfl, X7_reads hT (fs_le hi).2 (by omega) (by omega) (by omega) hfu]
  by_cases e : rdn T l (fs T l i) 2 10 = true
  · have er : ra0 T l i r = (true, be T l (fs T l i), rb (nv T l (fs T l i))) := if_pos e
    rw [if_pos ⟨e, nm1 e⟩, Option.bind_some, er]
    dsimp only
    rw [if_neg (show ¬ nI 1 = nI 0 by decide), gd_nI (by omega) (by omega), nI_clamp (by omega), upd_at]
    rcases hd with rfl | rfl
    · rw [if_pos rfl]
      exact ⟨_, _, _, _, _, rfl, fun _ => ⟨rfl, rfl, rfl⟩, fun z => Bool.noConfusion z, fun _ => rfl, fun z => absurd z (by omega)⟩
    · obtain ⟨k', h1, h2, h3⟩ := X7_begins (n := nv T l (fs T l i)) hfu k
      rw [if_neg (show ¬ nI 1 = nI 0 by decide), h1, Option.bind_some]
      exact ⟨_, _, _, _, _, rfl, fun _ => ⟨rfl, rfl, rfl⟩, fun z => Bool.noConfusion z, fun z => absurd z (by omega), fun _ => ⟨fun _ => h2, h3⟩⟩
  · have er : ra0 T l i r = (false, fs T l i, r) := if_neg e
    rw [if_neg (fun z => e z.1), Option.bind_some, er]
    dsimp only
    rw [if_pos rfl]
    exact ⟨_, _, _, _, _, rfl, RF_no⟩
theorem X7_after1 (hT : TX T l b) (ho : Ok r) (hi : i ≤ l) (hfu : 1100 ≤ fu) (hd : d = 0 ∨ d = 1) (hk : d = 1 → R0 r k) (nu : Nat → Int32) : ∃ fi be' to' k' nu', m_X7_readsAfter fu (nI l) (nI (fs T l i)) (nI (be T l (fs T l i))) (nI (r 0)) (nI d) k b nu (nI 1) = some (nI (ra1 T l i r).1.toNat, fi, be', to', k', nu') ∧ RF T l (ra1 T l i r) d k k' fi be' to' := by
  have b0 := ho.1.1
  unfold m_X7_readsAfter
  rw [if_neg (show ¬ nI 1 = nI 0 by decide), if_pos rfl, X7_readsSection hT (fs_le hi).2 (by omega) (by omega) (by omega) hfu]
  by_cases e : rdn T l (fs T l i) 0 (r 0 - 1) = true
  · have h3 := (rdn_ok e).2
    rw [if_pos ⟨e, nm1 e⟩, Option.bind_some]
    dsimp only
    rw [if_neg (show ¬ nI 1 = nI 0 by decide), X7_reads hT (fs_le (rdn_pos e).2).2 (by omega) (by omega) (by omega) hfu]
    by_cases c : rdn T l (f2 T l i) 1 9 = true
    · have h4 := (rdn_ok c).2
      have er : ra1 T l i r = (true, be T l (f2 T l i), upr r (1 + nv T l (fs T l i)) (nv T l (f2 T l i))) := by unfold ra1; rw [if_pos e, if_pos c]
      have c' := c
      unfold f2 at c' h4
      rw [if_pos ⟨c', nm1 c'⟩, Option.bind_some, er]
      dsimp only
      have z0 : upr r (1 + nv T l (fs T l i)) (nv T l (f2 T l i)) 0 = r 0 := upr_ne _ _ (by omega)
      rw [if_neg (show ¬ nI 1 = nI 0 by decide)]
      rcases hd with rfl | rfl
      · rw [if_pos rfl]
        exact ⟨_, _, _, _, _, rfl, fun _ => ⟨rfl, rfl, (congrArg nI z0).symm⟩, fun z => Bool.noConfusion z, fun _ => rfl, fun z => absurd z (by omega)⟩
      · rw [if_neg (show ¬ nI 1 = nI 0 by decide), nI_clamp (by omega), nI_clamp (by omega), upd_at, upd_ne _ _ (by omega), upd_at, nI_add 1, gd_nI (by omega) (by omega), gd_nI (by omega) (by omega), gd_nI (by omega) (by omega), nI_clamp (by omega)]
        exact ⟨_, _, _, _, _, rfl, fun _ => ⟨rfl, rfl, (congrArg nI z0).symm⟩, fun z => Bool.noConfusion z, fun z => absurd z (by omega), fun _ => ⟨fun _ => R0_up (hk rfl) (by omega), fun j hj => upd_ne _ _ (by omega)⟩⟩
    · have er : ra1 T l i r = (false, f2 T l i, r) := by unfold ra1; rw [if_pos e, if_neg c]
      unfold f2 at c
      rw [if_neg (fun z => c z.1), Option.bind_some, er]
      dsimp only
      rw [if_pos rfl]
      exact ⟨_, _, _, _, _, rfl, RF_no⟩
  · have er : ra1 T l i r = (false, fs T l i, r) := if_neg e
    rw [if_neg (fun z => e z.1), Option.bind_some, er]
    dsimp only
    rw [if_pos rfl]
    exact ⟨_, _, _, _, _, rfl, RF_no⟩
theorem X7_home29 {fi be' : Int32} (hfu : 1100 ≤ fu) (nu : Nat → Int32) {t : Nat} (ht : t < 12) : m_X7_readsHome_29 fi be' (nI 1) nu (nI (2 ^ t)) fu k (nI 0) = some (nI 1, fi, be', upd k (11 + t) (nu 0), nu) := by
  have p12 : 2 ^ t < 2 ^ 12 := Nat.pow_lt_pow_right (by omega) ht
  have key := for0 (fun fn j => m_X7_readsHome_29 fi be' (nI 1) nu (nI (2 ^ t)) fn (if t < j then upd k (11 + t) (nu 0) else k) (nI j)) 12 (some (nI 1, fi, be', upd k (11 + t) (nu 0), nu)) fu (by omega) (fun fn j hj => by
    rw [m_X7_readsHome_29, if_neg (nI_ge hj (by omega)), if_neg (show ¬ nI 1 = nI 0 by decide), X7_has (by omega) (by omega), Option.bind_some, ib0, Nat.testBit_two_pow, nI_add 11, gd_nI (j := 11 + j) (by omega) (by omega), gd_nI (j := 11 + j) (by omega) (by omega), gd_nI (j := 0) (by omega) (by omega), nI_clamp (by omega), nI_clamp (by omega), n_1]
    by_cases e : t = j
    · subst e
      rw [decide_eq_true rfl, if_neg (by simp), if_neg (by omega), if_pos (by omega)]
      exact gd_nI (by omega) (by omega)
    · rw [decide_eq_false e, if_pos rfl]
      have hs : ∀ w : Nat → Int32, upd w (11 + j) (w (11 + j)) = w := fun w => by
        funext x
        unfold upd
        split
        · rename_i h; rw [h]
        · rfl
      rw [hs]
      by_cases c : t < j
      · rw [if_pos c, if_pos (by omega)]
      · rw [if_neg c, if_neg (by omega)]) (fun fn => by
    rw [m_X7_readsHome_29, if_pos (nI_le (Nat.le_refl _) (by omega)), if_pos ht])
  rw [if_neg (by omega)] at key
  exact key
theorem X7_after2 (hT : TX T l b) (ho : Ok r) (hi : i ≤ l) (hfu : 1100 ≤ fu) (hd : d = 0 ∨ d = 1) (hk : d = 1 → R0 r k) (nu : Nat → Int32) : ∃ fi be' to' k' nu', m_X7_readsAfter fu (nI l) (nI (fs T l i)) (nI (be T l (fs T l i))) (nI (r 0)) (nI d) k b nu (nI 2) = some (nI (ra2 T l i r).1.toNat, fi, be', to', k', nu') ∧ RF T l (ra2 T l i r) d k k' fi be' to' := by
  have b0 := ho.1.1
  unfold m_X7_readsAfter m_X7_readsHome
  rw [if_neg (show ¬ nI 2 = nI 0 by decide), if_neg (show ¬ nI 2 = nI 1 by decide), if_pos rfl, X7_termsHere hT (fs_le hi).2 (by omega) hfu, Option.bind_some]
  by_cases e : trOk T l (fs T l i) 1 = true
  · obtain ⟨t1, t2⟩ := trs_1 e
    have t3 := trs_ok e
    rw [if_pos e, if_neg (fun z => t3.2 ((nI_eq (by omega) (by omega)).mp z)), X7_next hT (trOk_pos e).2 hfu, Option.bind_some]
    dsimp only
    rw [X7_readsSection hT (fs_le (trOk_pos e).2).2 (by omega) (by omega) (by omega) hfu]
    by_cases c : rdn T l (f2 T l i) 0 (r 0 - 1) = true
    · have h4 := (rdn_ok c).2
      have er : ra2 T l i r = (true, be T l (f2 T l i), upr r (11 + (T (fs T l i) - 97)) (nv T l (f2 T l i) + 1)) := by unfold ra2; rw [if_pos e, if_pos c]
      have c' := c
      unfold f2 at c' h4
      rw [if_pos ⟨c', nm1 c'⟩, Option.bind_some, er]
      dsimp only
      have z0 : upr r (11 + (T (fs T l i) - 97)) (nv T l (f2 T l i) + 1) 0 = r 0 := upr_ne _ _ (by omega)
      rw [if_neg (show ¬ nI 1 = nI 0 by decide), t1]
      rcases hd with rfl | rfl
      · obtain ⟨g, rfl⟩ : ∃ g, fu = g + 1 := ⟨fu - 1, by omega⟩
        rw [m_X7_readsHome_29, if_neg (nI_ge (by omega) (by omega)), if_pos rfl, Option.bind_some]
        exact ⟨_, _, _, _, _, rfl, fun _ => ⟨rfl, rfl, (congrArg nI z0).symm⟩, fun z => Bool.noConfusion z, fun _ => rfl, fun z => absurd z (by omega)⟩
      · rw [X7_home29 hfu _ t2, Option.bind_some, upd_at]
        exact ⟨_, _, _, _, _, rfl, fun _ => ⟨rfl, rfl, (congrArg nI z0).symm⟩, fun z => Bool.noConfusion z, fun z => absurd z (by omega), fun _ => ⟨fun _ => R0_H (hk rfl) t2, fun j hj => upd_ne _ _ (by omega)⟩⟩
    · have er : ra2 T l i r = (false, f2 T l i, r) := by unfold ra2; rw [if_pos e, if_neg c]
      unfold f2 at c
      rw [if_neg (fun z => c z.1), Option.bind_some, er]
      dsimp only
      rw [if_pos rfl, Option.bind_some]
      exact ⟨_, _, _, _, _, rfl, RF_no⟩
  · have er : ra2 T l i r = (false, fs T l i, r) := if_neg e
    rw [if_neg e, if_pos rfl, Option.bind_some, er]
    exact ⟨_, _, _, _, _, rfl, RF_no⟩
theorem X7_after3 (hT : TX T l b) (ho : Ok r) (hi : i ≤ l) (hfu : 1100 ≤ fu) (hd : d = 0 ∨ d = 1) (hk : d = 1 → R0 r k) (nu : Nat → Int32) : ∃ fi be' to' k' nu', m_X7_readsAfter fu (nI l) (nI (fs T l i)) (nI (be T l (fs T l i))) (nI (r 0)) (nI d) k b nu (nI 3) = some (nI (ra3 T l i r).1.toNat, fi, be', to', k', nu') ∧ RF T l (ra3 T l i r) d k k' fi be' to' := by
  have b0 := ho.1.1
  unfold m_X7_readsAfter m_X7_readsUses
  rw [if_neg (show ¬ nI 3 = nI 0 by decide), if_neg (show ¬ nI 3 = nI 1 by decide), if_neg (show ¬ nI 3 = nI 2 by decide), if_pos rfl, X7_readsSection hT (fs_le hi).2 (by omega) (by omega) (by omega) hfu]
  by_cases e : rdn T l (fs T l i) 0 (r 0 - 1) = true
  · have h3 := (rdn_ok e).2
    rw [if_pos ⟨e, nm1 e⟩, Option.bind_some]
    dsimp only
    have p2 := (fs_le (T := T) (rdn_pos e).2).2
    rw [if_neg (show ¬ nI 1 = nI 0 by decide), X7_termsHere hT p2 (by omega) hfu, Option.bind_some, X7_next hT (be_le p2).2.1 hfu, Option.bind_some]
    by_cases c : trOk T l (f2 T l i) 12 = true
    · have t3 := trs_ok c
      have er : ra3 T l i r = (true, be T l (f2 T l i), upr r (23 + nv T l (fs T l i)) (r (23 + nv T l (fs T l i)) ||| trs T l (f2 T l i))) := by unfold ra3; rw [if_pos e, if_pos c]
      have z0 : upr r (23 + nv T l (fs T l i)) (r (23 + nv T l (fs T l i)) ||| trs T l (f2 T l i)) 0 = r 0 := upr_ne _ _ (by omega)
      have c' := c
      unfold f2 at c' t3
      rw [if_pos c', if_neg (fun z => t3.2 ((nI_eq (by omega) (by omega)).mp z)), er]
      rcases hd with rfl | rfl
      · rw [if_pos rfl, Option.bind_some]
        exact ⟨_, _, _, _, _, rfl, fun _ => ⟨rfl, rfl, (congrArg nI z0).symm⟩, fun z => Bool.noConfusion z, fun _ => rfl, fun z => absurd z (by omega)⟩
      · rw [if_neg (show ¬ nI 1 = nI 0 by decide), nI_clamp (by omega), upd_at, nI_add 23, gd_nI (by omega) (by omega), gd_nI (by omega) (by omega), gd_nI (by omega) (by omega), nI_clamp (by omega), (hk rfl).1 _ (by omega) (by omega), n_or, Option.bind_some]
        exact ⟨_, _, _, _, _, rfl, fun _ => ⟨rfl, rfl, (congrArg nI z0).symm⟩, fun z => Bool.noConfusion z, fun z => absurd z (by omega), fun _ => ⟨fun _ => R0_up (hk rfl) (by omega), fun j hj => upd_ne _ _ (by omega)⟩⟩
    · have er : ra3 T l i r = (false, f2 T l i, r) := by unfold ra3; rw [if_pos e, if_neg c]
      unfold f2 at c
      rw [if_neg c, if_pos rfl, Option.bind_some, er]
      exact ⟨_, _, _, _, _, rfl, RF_no⟩
  · have er : ra3 T l i r = (false, fs T l i, r) := if_neg e
    rw [if_neg (fun z => e z.1), Option.bind_some, er]
    dsimp only
    rw [if_pos rfl, Option.bind_some]
    exact ⟨_, _, _, _, _, rfl, RF_no⟩
theorem X7_after4 (hT : TX T l b) (ho : Ok r) (hi : i ≤ l) (hfu : 1100 ≤ fu) (hd : d = 0 ∨ d = 1) (hk : d = 1 → R0 r k) (nu : Nat → Int32) : ∃ fi be' to' k' nu', m_X7_readsAfter fu (nI l) (nI (fs T l i)) (nI (be T l (fs T l i))) (nI (r 0)) (nI d) k b nu (nI 4) = some (nI (ra4 T l i r).1.toNat, fi, be', to', k', nu') ∧ RF T l (ra4 T l i r) d k k' fi be' to' := by
  have b0 := ho.1.1
  unfold m_X7_readsAfter
  rw [if_neg (show ¬ nI 4 = nI 0 by decide), if_neg (show ¬ nI 4 = nI 1 by decide), if_neg (show ¬ nI 4 = nI 2 by decide), if_neg (show ¬ nI 4 = nI 3 by decide), if_pos rfl, X7_readsSection hT (fs_le hi).2 (by omega) (by omega) (by omega) hfu]
  by_cases e : rdn T l (fs T l i) 0 (r 0 - 1) = true
  · have h3 := (rdn_ok e).2
    rw [if_pos ⟨e, nm1 e⟩, Option.bind_some]
    dsimp only
    rw [if_neg (show ¬ nI 1 = nI 0 by decide), gd_nI (by omega) (by omega), nI_clamp (by omega), upd_at, X7_readsSection hT (fs_le (rdn_pos e).2).2 (by omega) (by omega) (by omega) hfu]
    by_cases c : rdn T l (f2 T l i) 0 (r 0 - 1) = true ∧ nv T l (f2 T l i) ≠ nv T l (fs T l i)
    · have h4 := (rdn_ok c.1).2
      have er : ra4 T l i r = (true, be T l (f2 T l i), if cpr r (nv T l (fs T l i)) (nv T l (f2 T l i)) = true then upr r (43 + nv T l (f2 T l i)) (r (43 + nv T l (f2 T l i)) ||| 2 ^ nv T l (fs T l i)) else r) := by unfold ra4; rw [if_pos e, if_pos c]
      have c' := c
      unfold f2 at c' h4
      rw [if_pos ⟨c'.1, fun z => c'.2 ((nI_eq (by omega) (by omega)).mp z)⟩, Option.bind_some, er]
      dsimp only
      have z0 : (if cpr r (nv T l (fs T l i)) (nv T l (f2 T l i)) = true then upr r (43 + nv T l (f2 T l i)) (r (43 + nv T l (f2 T l i)) ||| 2 ^ nv T l (fs T l i)) else r) 0 = r 0 := by
        split
        · exact upr_ne _ _ (by omega)
        · rfl
      rw [if_neg (show ¬ nI 1 = nI 0 by decide)]
      rcases hd with rfl | rfl
      · rw [if_pos rfl]
        exact ⟨_, _, _, _, _, rfl, fun _ => ⟨rfl, rfl, (congrArg nI z0).symm⟩, fun z => Bool.noConfusion z, fun _ => rfl, fun z => absurd z (by omega)⟩
      · have hg0 : ∀ x : Option (Int32 × Int32 × Int32 × Int32 × (Nat → Int32) × (Nat → Int32)), gd 10 (nI 0) x = x := fun x => gd_nI (by omega) (by omega)
        have hg1 : ∀ x : Option (Int32 × Int32 × Int32 × Int32 × (Nat → Int32) × (Nat → Int32)), gd 10 (nI 1) x = x := fun x => gd_nI (by omega) (by omega)
        rw [if_neg (show ¬ nI 1 = nI 0 by decide), hg0, hg1, nI_clamp (n := 1) (by omega), upd_at, upd_ne _ _ (by omega), upd_at, X7_canPair (hk rfl) ho.1 (by omega) (by omega) hfu, Option.bind_some, ib0]
        cases q : cpr r (nv T l (fs T l i)) (nv T l (f2 T l i)) with
        | true =>
          have q' := q
          unfold f2 at q'
          rw [q', if_neg (by simp), hg1, nI_add 43, gd_nI (by omega) (by omega), hg0, gd_nI (by omega) (by omega), nI_clamp (by omega), (hk rfl).1 _ (by omega) (by omega), n_bit (by omega), n_or]
          rw [q] at z0
          exact ⟨_, _, _, _, _, rfl, fun _ => ⟨rfl, rfl, (congrArg nI z0).symm⟩, fun z => Bool.noConfusion z, fun z => absurd z (by omega), fun _ => ⟨fun _ => R0_up (hk rfl) (by omega), fun j hj => upd_ne _ _ (by omega)⟩⟩
        | false =>
          have q' := q
          unfold f2 at q'
          rw [q', if_pos rfl]
          rw [q] at z0
          exact ⟨_, _, _, _, _, rfl, fun _ => ⟨rfl, rfl, (congrArg nI z0).symm⟩, fun z => Bool.noConfusion z, fun z => absurd z (by omega), fun _ => ⟨fun _ => hk rfl, fun j hj => rfl⟩⟩
    · have er : ra4 T l i r = (false, f2 T l i, r) := by unfold ra4; rw [if_pos e, if_neg c]
      unfold f2 at c
      rw [if_neg (fun z => c ⟨z.1, fun y => z.2 (by rw [y])⟩), Option.bind_some, er]
      dsimp only
      rw [if_pos rfl]
      exact ⟨_, _, _, _, _, rfl, RF_no⟩
  · have er : ra4 T l i r = (false, fs T l i, r) := if_neg e
    rw [if_neg (fun z => e z.1), Option.bind_some, er]
    dsimp only
    rw [if_pos rfl]
    exact ⟨_, _, _, _, _, rfl, RF_no⟩
end
