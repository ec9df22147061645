/-! PURE W: the reference's reading of an order; all clauses together -/
theorem X7_ord125 {fi be' : Int32} {n fu : Nat} (hn : n ≤ 10) (hfu : 1100 ≤ fu) (k nu : Nat → Int32) : ∃ k', m_X7_readsOrder_125 fi be' (nI n) nu fu k (nI 0) = some (nI 1, fi, be', k', nu) ∧ (∀ p, p < n → k' (33 + p) = nu p) ∧ ∀ j, (j < 33 ∨ 33 + n ≤ j) → k' j = k j := by
  obtain ⟨k1, f1, ⟨i1, i2⟩, e1⟩ := forE (fun fn st i => m_X7_readsOrder_125 fi be' (nI n) nu fn st (nI i)) (fun i st => (∀ p, p < i → st (33 + p) = nu p) ∧ ∀ j, (j < 33 ∨ 33 + i ≤ j) → st j = k j) n (fun fn st i hi hI => by
    refine ⟨upd st (33 + i) (nu i), ⟨fun p hp => ?_, fun j hj => ?_⟩, ?_⟩
    · by_cases e : p = i
      · subst e; rw [upd_at]
      · rw [upd_ne _ _ (by omega)]; exact hI.1 p (by omega)
    · rw [upd_ne _ _ (by omega)]; exact hI.2 j (by omega)
    · rw [m_X7_readsOrder_125, if_neg (nI_ge hi (by omega)), nI_add 33, gd_nI (by omega) (by omega), gd_nI (by omega) (by omega), nI_clamp (by omega), nI_clamp (by omega), n_1]) n fu k 0 (by omega) (by omega) ⟨fun p hp => absurd hp (by omega), fun j _ => rfl⟩
  have e1 : m_X7_readsOrder_125 fi be' (nI n) nu fu k (nI 0) = m_X7_readsOrder_125 fi be' (nI n) nu (f1 + 1) k1 (nI n) := e1
  rw [e1, m_X7_readsOrder_125, if_pos (nI_le (Nat.le_refl _) (by omega))]
  exact ⟨k1, rfl, i1, i2⟩
theorem X7_ord4 {T : Nat → Nat} {l : Nat} {b : Nat → Int32} (hT : TX T l b) {f n j P fn fu : Nat} {dd : Int32} (hf : f ≤ l) (hn : 1 ≤ n) (hn' : n ≤ 10) (hj : j < n) (hP : P < 2 ^ 31) (hfu : 1100 ≤ fu) (k nu : Nat → Int32) : m_X7_readsOrder_4 fu (nI l) (nI n) dd k b (fn + 1) (nI f) (nI (be T l f)) nu (nI P) (nI j) = if rdn T l f 0 (n - 1) = true ∧ P.testBit (nv T l f) = false then m_X7_readsOrder_4 fu (nI l) (nI n) dd k b fn (nI (fs T l (be T l f))) (nI (be T l (fs T l (be T l f)))) (upd nu j (nI (nv T l f))) (nI (P ||| 2 ^ nv T l f)) (nI (j + 1)) else some (nI 0, nI f, nI (be T l f), k, nu) := by
  have hT2 := hT
  obtain ⟨hb, hc, hl⟩ := hT
  obtain ⟨g1, g2, g3⟩ := be_le (T := T) (l := l) (f := f) (by omega)
  rw [m_X7_readsOrder_4, if_neg (nI_ge hj (by omega))]
  have no : ∀ K, m_X7_readsOrder_59 fu (nI l) (nI f) (nI (be T l f)) (nI n) k b nu (-1 : Int32) (nI P) (nI j) K = some (nI 0, nI f, nI (be T l f), k, nu) := fun K => by
    unfold m_X7_readsOrder_59
    rw [if_pos rfl]
  rw [no]
  by_cases hn0 : isnum T l f = true
  · obtain ⟨q1, q2⟩ := of_decide_eq_true hn0
    have hfl := (isnum_ok hn0).1
    have hv := nv_le hn0
    rw [kd_in hfl] at q1
    rw [if_neg (nI_ge hfl (by omega)), gd_nI (by omega) (by omega), nI_clamp (by omega), hb f hfl, X7_isDigit (hc f hfl), Option.bind_some, ib0, decide_eq_true q1, if_neg (by simp), nI_sub g1, if_neg (nI_ge (by omega) (by omega)), X7_valueHere hT2 hn0 hfu, Option.bind_some]
    unfold m_X7_readsOrder_59
    rw [if_neg (nI_m1 (by omega))]
    by_cases c1 : nv T l f < n
    · have hr : rdn T l f 0 (n - 1) = true := decide_eq_true ⟨hn0, by omega, by omega⟩
      rw [if_neg (nI_ge c1 (by omega)), X7_has hP (by omega), Option.bind_some, ib0]
      cases q : P.testBit (nv T l f) with
      | true => rw [if_neg (by simp), if_neg (by simp)]
      | false =>
        rw [if_pos rfl, X7_readsSection hT2 hf (by omega) hn hn' hfu, if_pos ⟨hr, nm1 hr⟩, Option.bind_some, if_pos (show rdn T l f 0 (n - 1) = true ∧ (false : Bool) = false from ⟨hr, rfl⟩)]
        dsimp only
        rw [if_neg (show ¬ nI 1 = nI 0 by decide), gd_nI (by omega) (by omega), nI_clamp (by omega), upd_at, n_bit (by omega), n_or, n_1]
    · rw [if_pos (nI_le (by omega) (by omega)), if_neg]
      intro z
      have := (rdn_ok z.1).2
      omega
  · have hr : ¬ (rdn T l f 0 (n - 1) = true ∧ P.testBit (nv T l f) = false) := fun z => hn0 (rdn_ok z.1).1
    rw [if_neg hr]
    by_cases hfl : f < l
    · rw [if_neg (nI_ge hfl (by omega)), gd_nI (by omega) (by omega), nI_clamp (by omega), hb f hfl, X7_isDigit (hc f hfl), Option.bind_some, ib0]
      by_cases q1 : ck (T f) = 2
      · have q2 : ¬ be T l f - f ≤ 2 := fun z => hn0 (decide_eq_true ⟨(kd_in hfl).trans q1, z⟩)
        rw [decide_eq_true q1, if_neg (by simp), nI_sub g1, if_pos (nI_le (by omega) (by omega))]
      · rw [decide_eq_false q1, if_pos rfl]
    · rw [if_pos (nI_le (by omega) (by omega))]
theorem orf_tk {T : Nat → Nat} {l i n : Nat} (hn : n ≤ 10) {j : Nat} (hj : j ≤ ocD T l i n) : orf (fun q => 2 ^ tkv T l i q) j < 2 ^ 31 := by
  refine Nat.lt_trans (orf_lt (k := 10) (fun q hq => ?_)) (by omega)
  have h1 := (rdn_ok (ocD_no (T := T) (l := l) (i := i) (n := n) (j := q) (by omega)).1).2.2
  have h2 := ocD_le T l i n
  unfold tkv
  exact Nat.pow_lt_pow_right (by omega) (by omega)
theorem X7_after5 {T : Nat → Nat} {l : Nat} {b : Nat → Int32} {r : Nat → Nat} {d i fu : Nat} {k : Nat → Int32} (hT : TX T l b) (ho : Ok r) (hi : i ≤ l) (hfu : 1100 ≤ fu) (hd : d = 0 ∨ d = 1) (hk : d = 1 → R0 r k) (nu : Nat → Int32) : ∃ fi be' to' k' nu', m_X7_readsAfter fu (nI l) (nI (fs T l i)) (nI (be T l (fs T l i))) (nI (r 0)) (nI d) k b nu (nI 5) = some (nI (ra5 T l i r).1.toNat, fi, be', to', k', nu') ∧ RF T l (ra5 T l i r) d k k' fi be' to' := by
  have b0 := ho.1.1
  have hD := ocD_le T l i (r 0)
  unfold m_X7_readsAfter m_X7_readsOrder
  rw [if_neg (show ¬ nI 5 = nI 0 by decide), if_neg (show ¬ nI 5 = nI 1 by decide), if_neg (show ¬ nI 5 = nI 2 by decide), if_neg (show ¬ nI 5 = nI 3 by decide), if_neg (show ¬ nI 5 = nI 4 by decide)]
  obtain ⟨nu1, fn1, i2, e1⟩ := forE (fun fn st j => m_X7_readsOrder_4 fu (nI l) (nI (r 0)) (nI d) k b fn (nI (fs T l (tkp T l i j))) (nI (be T l (fs T l (tkp T l i j)))) st (nI (orf (fun q => 2 ^ tkv T l i q) j)) (nI j)) (fun j st => ∀ q, q < j → st q = nI (tkv T l i q)) (ocD T l i (r 0)) (fun fn st j hj hI => by
    obtain ⟨a1, a2⟩ := ocD_no hj
    refine ⟨upd st j (nI (tkv T l i j)), fun q hq => ?_, ?_⟩
    · by_cases z : q = j
      · subst z; rw [upd_at]
      · rw [upd_ne _ _ z]; exact hI q (by omega)
    · rw [X7_ord4 hT (fs_le (tkp_le hi j)).2 (by omega) (by omega) (by omega) (orf_tk b0.2 (by omega)) hfu, if_pos ⟨a1, a2⟩]
      rfl) (ocD T l i (r 0)) fu nu 0 (by omega) (by omega) (fun q hq => absurd hq (by omega))
  have e1 : m_X7_readsOrder_4 fu (nI l) (nI (r 0)) (nI d) k b fu (nI (fs T l i)) (nI (be T l (fs T l i))) nu (nI 0) (nI 0) = m_X7_readsOrder_4 fu (nI l) (nI (r 0)) (nI d) k b (fn1 + 1) (nI (fs T l (tkp T l i (ocD T l i (r 0))))) (nI (be T l (fs T l (tkp T l i (ocD T l i (r 0)))))) nu1 (nI (orf (fun q => 2 ^ tkv T l i q) (ocD T l i (r 0)))) (nI (ocD T l i (r 0))) := e1
  rw [e1]
  by_cases e : ocD T l i (r 0) = r 0
  · have hp := ocD_PO b0.1 e
    have er : ra5 T l i r = (true, tkp T l i (r 0), if kpA r (tkv T l i) = true then setO r (tkv T l i) else r) := if_pos e
    have z0 : (if kpA r (tkv T l i) = true then setO r (tkv T l i) else r) 0 = r 0 := by
      split
      · exact sO_0 _ _
      · rfl
    rw [m_X7_readsOrder_4, e, if_pos (nI_le (Nat.le_refl _) (by omega)), er]
    rcases hd with rfl | rfl
    · rw [if_pos rfl, Option.bind_some]
      exact ⟨_, _, _, _, _, rfl, fun _ => ⟨rfl, rfl, (congrArg nI z0).symm⟩, fun z => Bool.noConfusion z, fun _ => rfl, fun z => absurd z (by omega)⟩
    · rw [if_neg (show ¬ nI 1 = nI 0 by decide), X7_isKeeping (hk rfl) ho.1 hp.1 (fun p hp => i2 p (by omega)) hfu, Option.bind_some, ib0]
      cases q : kpA r (tkv T l i) with
      | true =>
        obtain ⟨k', c1, c2, c3⟩ := X7_ord125 (fi := nI (fs T l (tkp T l i (r 0)))) (be' := nI (be T l (fs T l (tkp T l i (r 0))))) b0.2 hfu k nu1
        rw [if_neg (by simp), c1, Option.bind_some]
        rw [q] at z0
        exact ⟨_, _, _, _, _, rfl, fun _ => ⟨rfl, rfl, (congrArg nI z0).symm⟩, fun z => Bool.noConfusion z, fun z => absurd z (by omega), fun _ => ⟨fun _ => R0_setO _ b0.2 (hk rfl) c2 c3 (fun p hp => i2 p (by omega)), fun j hj => c3 j (by omega)⟩⟩
      | false =>
        rw [if_pos rfl, Option.bind_some]
        rw [q] at z0
        exact ⟨_, _, _, _, _, rfl, fun _ => ⟨rfl, rfl, (congrArg nI z0).symm⟩, fun z => Bool.noConfusion z, fun z => absurd z (by omega), fun _ => ⟨fun _ => hk rfl, fun j hj => rfl⟩⟩
  · have er : ra5 T l i r = (false, fs T l (tkp T l i (ocD T l i (r 0))), r) := if_neg e
    have hy := ocD_yes (T := T) (l := l) (i := i) (n := r 0) (by omega)
    rw [X7_ord4 hT (fs_le (tkp_le hi _)).2 (by omega) (by omega) (by omega) (orf_tk b0.2 (by omega)) hfu, if_neg, Option.bind_some, er]
    · exact ⟨_, _, _, _, _, rfl, RF_no⟩
    · intro z
      unfold oc at hy
      rw [z.1, Bool.true_and, Bool.not_eq_false'] at hy
      exact Bool.noConfusion (hy.symm.trans (show (orf (fun q => 2 ^ tkv T l i q) (ocD T l i (r 0))).testBit (tkv T l i (ocD T l i (r 0))) = false from z.2))
/-- a clause of any kind -/
def ra (T : Nat → Nat) (l i : Nat) (r : Nat → Nat) (x : Nat) : RA := if x = 0 then ra0 T l i r else if x = 1 then ra1 T l i r else if x = 2 then ra2 T l i r else if x = 3 then ra3 T l i r else if x = 4 then ra4 T l i r else ra5 T l i r
theorem X7_readsAfter {T : Nat → Nat} {l : Nat} {b : Nat → Int32} {r : Nat → Nat} {d i fu : Nat} {k : Nat → Int32} (hT : TX T l b) (ho : Ok r) (hi : i ≤ l) (hfu : 1100 ≤ fu) (hd : d = 0 ∨ d = 1) (hk : d = 1 → R0 r k) (nu : Nat → Int32) {x : Nat} (hx : x < 6) : ∃ fi be' to' k' nu', m_X7_readsAfter fu (nI l) (nI (fs T l i)) (nI (be T l (fs T l i))) (nI (r 0)) (nI d) k b nu (nI x) = some (nI (ra T l i r x).1.toNat, fi, be', to', k', nu') ∧ RF T l (ra T l i r x) d k k' fi be' to' := by
  rcases x with _ | _ | _ | _ | _ | _ | x
  · exact X7_after0 hT ho hi hfu hd hk nu
  · exact X7_after1 hT ho hi hfu hd hk nu
  · exact X7_after2 hT ho hi hfu hd hk nu
  · exact X7_after3 hT ho hi hfu hd hk nu
  · exact X7_after4 hT ho hi hfu hd hk nu
  · exact X7_after5 hT ho hi hfu hd hk nu
  · omega
