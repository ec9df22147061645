/-! PURE U: the clauses, and the class's reading of them -/
abbrev RA := Bool × Nat × (Nat → Nat)
def ra0 (T : Nat → Nat) (l i : Nat) (r : Nat → Nat) : RA := if rdn T l (fs T l i) 2 10 = true then (true, be T l (fs T l i), rb (nv T l (fs T l i))) else (false, fs T l i, r)
/-- the second token -/
def f2 (T : Nat → Nat) (l i : Nat) : Nat := fs T l (be T l (fs T l i))
def ra1 (T : Nat → Nat) (l i : Nat) (r : Nat → Nat) : RA := if rdn T l (fs T l i) 0 (r 0 - 1) = true then (if rdn T l (f2 T l i) 1 9 = true then (true, be T l (f2 T l i), upr r (1 + nv T l (fs T l i)) (nv T l (f2 T l i))) else (false, f2 T l i, r)) else (false, fs T l i, r)
def ra2 (T : Nat → Nat) (l i : Nat) (r : Nat → Nat) : RA := if trOk T l (fs T l i) 1 = true then (if rdn T l (f2 T l i) 0 (r 0 - 1) = true then (true, be T l (f2 T l i), upr r (11 + (T (fs T l i) - 97)) (nv T l (f2 T l i) + 1)) else (false, f2 T l i, r)) else (false, fs T l i, r)
def ra3 (T : Nat → Nat) (l i : Nat) (r : Nat → Nat) : RA := if rdn T l (fs T l i) 0 (r 0 - 1) = true then (if trOk T l (f2 T l i) 12 = true then (true, be T l (f2 T l i), upr r (23 + nv T l (fs T l i)) (r (23 + nv T l (fs T l i)) ||| trs T l (f2 T l i))) else (false, f2 T l i, r)) else (false, fs T l i, r)
def ra4 (T : Nat → Nat) (l i : Nat) (r : Nat → Nat) : RA := if rdn T l (fs T l i) 0 (r 0 - 1) = true then (if rdn T l (f2 T l i) 0 (r 0 - 1) = true ∧ nv T l (f2 T l i) ≠ nv T l (fs T l i) then (true, be T l (f2 T l i), if cpr r (nv T l (fs T l i)) (nv T l (f2 T l i)) = true then upr r (43 + nv T l (f2 T l i)) (r (43 + nv T l (f2 T l i)) ||| 2 ^ nv T l (fs T l i)) else r) else (false, f2 T l i, r)) else (false, fs T l i, r)
/-- where the j-th token of a list ends, and its value -/
def tkp (T : Nat → Nat) (l i : Nat) : Nat → Nat
  | 0 => i
  | j + 1 => be T l (fs T l (tkp T l i j))
def tkv (T : Nat → Nat) (l i j : Nat) : Nat := nv T l (fs T l (tkp T l i j))
def oc (T : Nat → Nat) (l i n j : Nat) : Bool := rdn T l (fs T l (tkp T l i j)) 0 (n - 1) && !((orf (fun q => 2 ^ tkv T l i q) j).testBit (tkv T l i j))
def ocD (T : Nat → Nat) (l i n : Nat) : Nat := fnd (fun j => !(oc T l i n j)) n 0
def ra5 (T : Nat → Nat) (l i : Nat) (r : Nat → Nat) : RA := if ocD T l i (r 0) = r 0 then (true, tkp T l i (r 0), if kpA r (tkv T l i) = true then setO r (tkv T l i) else r) else (false, fs T l (tkp T l i (ocD T l i (r 0))), r)
theorem rdn_ok {T : Nat → Nat} {l f lo hi : Nat} (h : rdn T l f lo hi = true) : isnum T l f = true ∧ lo ≤ nv T l f ∧ nv T l f ≤ hi := of_decide_eq_true h
theorem rdn_pos {T : Nat → Nat} {l f lo hi : Nat} (h : rdn T l f lo hi = true) : f < l ∧ be T l f ≤ l := by
  obtain ⟨h1, -⟩ := isnum_ok (rdn_ok h).1
  exact ⟨h1, (be_le (by omega)).2.1⟩
theorem trOk_pos {T : Nat → Nat} {l f m : Nat} (h : trOk T l f m = true) : f < l ∧ be T l f ≤ l := by
  obtain ⟨h1, -⟩ := of_decide_eq_true h
  exact ⟨h1, (be_le (by omega)).2.1⟩
theorem tkp_le {T : Nat → Nat} {l i : Nat} (hi : i ≤ l) : ∀ j, tkp T l i j ≤ l
  | 0 => hi
  | j + 1 => (be_le (fs_le (tkp_le hi j)).2).2.1
theorem ocD_le (T : Nat → Nat) (l i n : Nat) : ocD T l i n ≤ n := by have := fnd_le (fun j => !(oc T l i n j)) n 0; unfold ocD; omega
theorem ocD_no {T : Nat → Nat} {l i n j : Nat} (h : j < ocD T l i n) : rdn T l (fs T l (tkp T l i j)) 0 (n - 1) = true ∧ (orf (fun q => 2 ^ tkv T l i q) j).testBit (tkv T l i j) = false := by
  have := fnd_no (fun j => !(oc T l i n j)) n 0 j (Nat.zero_le j) h
  have : oc T l i n j = true := by simpa using this
  unfold oc at this
  rw [Bool.and_eq_true, Bool.not_eq_true'] at this
  exact this
theorem ocD_yes {T : Nat → Nat} {l i n : Nat} (h : ocD T l i n < n) : oc T l i n (ocD T l i n) = false := by
  have := fnd_yes (fun j => !(oc T l i n j)) n 0 (by unfold ocD at h; omega)
  simpa [ocD] using this
theorem ocD_PO {T : Nat → Nat} {l i : Nat} {r : Nat → Nat} (h0 : 2 ≤ r 0) (h : ocD T l i (r 0) = r 0) : PO r (tkv T l i) := by
  have hb : ∀ p, p < r 0 → tkv T l i p < r 0 := fun p hp => by
    have := (rdn_ok (ocD_no (T := T) (l := l) (i := i) (n := r 0) (j := p) (by omega)).1).2.2
    unfold tkv
    omega
  have key : ∀ p q, p < q → q < r 0 → tkv T l i p ≠ tkv T l i q := fun p q hpq hq e => by
    have h2 := (ocD_no (T := T) (l := l) (i := i) (n := r 0) (j := q) (by omega)).2
    rw [orf_pow.mpr ⟨p, hpq, e⟩] at h2
    cases h2
  refine ⟨hb, fun p q hp hq e => ?_⟩
  rcases Nat.lt_trichotomy p q with z | z | z
  · exact absurd e (key p q z hq)
  · exact z
  · exact absurd e.symm (key q p z hp)
theorem X1_takeNumber {T : Nat → Nat} {l : Nat} {b : Nat → Int32} (hT : TX T l b) {i fu : Nat} (hi : i ≤ l) (hfu : 1100 ≤ fu) {lo hi' : Nat} (hlo : lo < 1000) (hhi : hi' < 1000) : m_X1_takeNumber fu (nI l) (nI i) b (nI lo) (nI hi') = some (if rdn T l (fs T l i) lo hi' = true then nI (nv T l (fs T l i)) else (-1 : Int32), nI (fs T l i), nI (be T l (fs T l i)), nI (kd T l (fs T l i))) := by
  unfold m_X1_takeNumber
  rw [X5_take hT hi hfu, Option.bind_some]
  dsimp only
  rw [X5_asNumber hT (fs_le hi).2 hlo hhi hfu, Option.bind_some]
theorem X1_takeSection {T : Nat → Nat} {l : Nat} {b : Nat → Int32} (hT : TX T l b) {r : Nat → Nat} (ho : Ok r) {n : Int32} {L U H O B : Nat → Int32} (hc : CM r n L U H O B) {i fu : Nat} (hi : i ≤ l) (hfu : 1100 ≤ fu) : m_X1_takeSection fu (nI l) (nI i) b n = some (if rdn T l (fs T l i) 0 (r 0 - 1) = true then nI (nv T l (fs T l i)) else (-1 : Int32), nI (fs T l i), nI (be T l (fs T l i)), nI (kd T l (fs T l i))) := by
  have b0 := ho.1.1
  unfold m_X1_takeSection
  rw [X5_take hT hi hfu, Option.bind_some]
  dsimp only
  rw [hc.1, nI_sub (by omega), X5_asNumber hT (fs_le hi).2 (by omega) (by omega) hfu, Option.bind_some]
theorem X1_readSections {T : Nat → Nat} {l : Nat} {b : Nat → Int32} (hT : TX T l b) {r : Nat → Nat} (ho : Ok r) {n : Int32} {L U H O B : Nat → Int32} (hc : CM r n L U H O B) {i fu : Nat} (hi : i ≤ l) (hfu : 1100 ≤ fu) : ∃ st nx kd' n' L' U' H' O' B', m_X1_readSections fu (nI l) (nI i) b n L U H O B = some (nI (ra0 T l i r).1.toNat, st, nx, kd', n', L', U', H', O', B') ∧ ((ra0 T l i r).1 = true → nx = nI (ra0 T l i r).2.1 ∧ CM (ra0 T l i r).2.2 n' L' U' H' O' B') ∧ ((ra0 T l i r).1 = false → st = nI (ra0 T l i r).2.1) := by
  unfold m_X1_readSections
  rw [X1_takeNumber hT hi hfu (by omega) (by omega), Option.bind_some]
  dsimp only
  by_cases e : rdn T l (fs T l i) 2 10 = true
  · have h3 := (rdn_ok e).2
    have er : ra0 T l i r = (true, be T l (fs T l i), rb (nv T l (fs T l i))) := if_pos e
    obtain ⟨L', U', H', O', B', h1, h2⟩ := X3_beginAnew (n := nv T l (fs T l i)) hfu L U H O B
    rw [if_pos e, if_neg (nI_m1 (by omega)), h1, Option.bind_some, er]
    exact ⟨_, _, _, _, _, _, _, _, _, rfl, fun _ => ⟨rfl, h2⟩, fun z => Bool.noConfusion z⟩
  · have er : ra0 T l i r = (false, fs T l i, r) := if_neg e
    rw [if_neg e, if_pos rfl, er]
    exact ⟨_, _, _, _, _, _, _, _, _, rfl, fun z => Bool.noConfusion z, fun _ => rfl⟩
theorem X1_readPages {T : Nat → Nat} {l : Nat} {b : Nat → Int32} (hT : TX T l b) {r : Nat → Nat} (ho : Ok r) {n : Int32} {L U H O B : Nat → Int32} (hc : CM r n L U H O B) {i fu : Nat} (hi : i ≤ l) (hfu : 1100 ≤ fu) : ∃ st nx kd' L', m_X1_readPages fu (nI l) (nI i) b n L = some (nI (ra1 T l i r).1.toNat, st, nx, kd', L') ∧ ((ra1 T l i r).1 = true → nx = nI (ra1 T l i r).2.1 ∧ CM (ra1 T l i r).2.2 n L' U H O B) ∧ ((ra1 T l i r).1 = false → st = nI (ra1 T l i r).2.1) := by
  have b0 := ho.1.1
  unfold m_X1_readPages
  rw [X1_takeSection hT ho hc hi hfu, Option.bind_some]
  dsimp only
  by_cases e : rdn T l (fs T l i) 0 (r 0 - 1) = true
  · have h3 := (rdn_ok e).2
    rw [if_pos e, if_neg (nI_m1 (by omega)), X1_takeNumber hT (rdn_pos e).2 hfu (by omega) (by omega), Option.bind_some]
    dsimp only
    by_cases d : rdn T l (f2 T l i) 1 9 = true
    · have h4 := (rdn_ok d).2
      have er : ra1 T l i r = (true, be T l (f2 T l i), upr r (1 + nv T l (fs T l i)) (nv T l (f2 T l i))) := by unfold ra1; rw [if_pos e, if_pos d]
      unfold f2 at d h4
      rw [if_pos d, if_neg (nI_m1 (by omega)), gd_nI (by omega) (by omega), nI_clamp (by omega), er]
      exact ⟨_, _, _, _, rfl, fun _ => ⟨rfl, CM_L hc (by omega)⟩, fun z => Bool.noConfusion z⟩
    · have er : ra1 T l i r = (false, f2 T l i, r) := by unfold ra1; rw [if_pos e, if_neg d]
      unfold f2 at d
      rw [if_neg d, if_pos rfl, er]
      exact ⟨_, _, _, _, rfl, fun z => Bool.noConfusion z, fun _ => rfl⟩
  · have er : ra1 T l i r = (false, fs T l i, r) := if_neg e
    rw [if_neg e, if_pos rfl, er]
    exact ⟨_, _, _, _, rfl, fun z => Bool.noConfusion z, fun _ => rfl⟩
theorem X1_readHome {T : Nat → Nat} {l : Nat} {b : Nat → Int32} (hT : TX T l b) {r : Nat → Nat} (ho : Ok r) {n : Int32} {L U H O B : Nat → Int32} (hc : CM r n L U H O B) {i fu : Nat} (hi : i ≤ l) (hfu : 1100 ≤ fu) : ∃ st nx kd' H', m_X1_readHome fu (nI l) (nI i) b n H = some (nI (ra2 T l i r).1.toNat, st, nx, kd', H') ∧ ((ra2 T l i r).1 = true → nx = nI (ra2 T l i r).2.1 ∧ CM (ra2 T l i r).2.2 n L U H' O B) ∧ ((ra2 T l i r).1 = false → st = nI (ra2 T l i r).2.1) := by
  have b0 := ho.1.1
  unfold m_X1_readHome
  rw [X5_take hT hi hfu, Option.bind_some]
  dsimp only
  rw [X5_asTerm hT (fs_le hi).2, Option.bind_some]
  by_cases e : trOk T l (fs T l i) 1 = true
  · have h3 : T (fs T l i) - 97 < 12 := by
      obtain ⟨q1, q2, q3⟩ := of_decide_eq_true e
      have := (be_le (T := T) (l := l) (f := fs T l i) (by omega)).2.2 q1
      have := trD_no (T := T) (l := l) (f := fs T l i) (j := 0) (by omega)
      rw [Nat.add_zero] at this
      omega
    rw [if_pos e, if_neg (nI_m1 (by omega)), X1_takeSection hT ho hc (trOk_pos e).2 hfu, Option.bind_some]
    dsimp only
    by_cases d : rdn T l (f2 T l i) 0 (r 0 - 1) = true
    · have h4 := (rdn_ok d).2
      have er : ra2 T l i r = (true, be T l (f2 T l i), upr r (11 + (T (fs T l i) - 97)) (nv T l (f2 T l i) + 1)) := by unfold ra2; rw [if_pos e, if_pos d]
      unfold f2 at d h4
      rw [if_pos d, if_neg (nI_m1 (by omega)), gd_nI (by omega) (by omega), nI_clamp (by omega), er]
      exact ⟨_, _, _, _, rfl, fun _ => ⟨rfl, CM_H hc h3⟩, fun z => Bool.noConfusion z⟩
    · have er : ra2 T l i r = (false, f2 T l i, r) := by unfold ra2; rw [if_pos e, if_neg d]
      unfold f2 at d
      rw [if_neg d, if_pos rfl, er]
      exact ⟨_, _, _, _, rfl, fun z => Bool.noConfusion z, fun _ => rfl⟩
  · have er : ra2 T l i r = (false, fs T l i, r) := if_neg e
    rw [if_neg e, if_pos rfl, er]
    exact ⟨_, _, _, _, rfl, fun z => Bool.noConfusion z, fun _ => rfl⟩
theorem X1_readUses {T : Nat → Nat} {l : Nat} {b : Nat → Int32} (hT : TX T l b) {r : Nat → Nat} (ho : Ok r) {n : Int32} {L U H O B : Nat → Int32} (hc : CM r n L U H O B) {i fu : Nat} (hi : i ≤ l) (hfu : 1100 ≤ fu) : ∃ st nx kd' U', m_X1_readUses fu (nI l) (nI i) b n U = some (nI (ra3 T l i r).1.toNat, st, nx, kd', U') ∧ ((ra3 T l i r).1 = true → nx = nI (ra3 T l i r).2.1 ∧ CM (ra3 T l i r).2.2 n L U' H O B) ∧ ((ra3 T l i r).1 = false → st = nI (ra3 T l i r).2.1) := by
  have b0 := ho.1.1
  unfold m_X1_readUses
  rw [X1_takeSection hT ho hc hi hfu, Option.bind_some]
  dsimp only
  by_cases e : rdn T l (fs T l i) 0 (r 0 - 1) = true
  · have h3 := (rdn_ok e).2
    rw [if_pos e, if_neg (nI_m1 (by omega)), X5_take hT (rdn_pos e).2 hfu, Option.bind_some]
    dsimp only
    rw [X5_asTerms hT (fs_le (rdn_pos e).2).2 hfu, Option.bind_some]
    by_cases d : trOk T l (f2 T l i) 12 = true
    · have h4 := trs_ok d
      have er : ra3 T l i r = (true, be T l (f2 T l i), upr r (23 + nv T l (fs T l i)) (r (23 + nv T l (fs T l i)) ||| trs T l (f2 T l i))) := by unfold ra3; rw [if_pos e, if_pos d]
      unfold f2 at d h4
      rw [if_pos d, if_neg (fun z => h4.2 ((nI_eq (by omega) (by omega)).mp z)), gd_nI (by omega) (by omega), gd_nI (by omega) (by omega), nI_clamp (by omega), er, hc.2.2.1 _ (by omega), n_or]
      exact ⟨_, _, _, _, rfl, fun _ => ⟨rfl, CM_U hc (by omega)⟩, fun z => Bool.noConfusion z⟩
    · have er : ra3 T l i r = (false, f2 T l i, r) := by unfold ra3; rw [if_pos e, if_neg d]
      unfold f2 at d
      rw [if_neg d, if_pos rfl, er]
      exact ⟨_, _, _, _, rfl, fun z => Bool.noConfusion z, fun _ => rfl⟩
  · have er : ra3 T l i r = (false, fs T l i, r) := if_neg e
    rw [if_neg e, if_pos rfl, er]
    exact ⟨_, _, _, _, rfl, fun z => Bool.noConfusion z, fun _ => rfl⟩
theorem X1_readAhead {T : Nat → Nat} {l : Nat} {b : Nat → Int32} (hT : TX T l b) {r : Nat → Nat} (ho : Ok r) {n : Int32} {L U H O B : Nat → Int32} (hc : CM r n L U H O B) {i fu : Nat} (hi : i ≤ l) (hfu : 1100 ≤ fu) : ∃ st nx kd' B', m_X1_readAhead fu (nI l) (nI i) b n O B = some (nI (ra4 T l i r).1.toNat, st, nx, kd', B') ∧ ((ra4 T l i r).1 = true → nx = nI (ra4 T l i r).2.1 ∧ CM (ra4 T l i r).2.2 n L U H O B') ∧ ((ra4 T l i r).1 = false → st = nI (ra4 T l i r).2.1) := by
  have b0 := ho.1.1
  unfold m_X1_readAhead
  rw [X1_takeSection hT ho hc hi hfu, Option.bind_some]
  dsimp only
  by_cases e : rdn T l (fs T l i) 0 (r 0 - 1) = true
  · have h3 := (rdn_ok e).2
    rw [if_pos e, if_neg (nI_m1 (by omega)), X1_takeSection hT ho hc (rdn_pos e).2 hfu, Option.bind_some]
    dsimp only
    by_cases d : rdn T l (f2 T l i) 0 (r 0 - 1) = true
    · have h4 := (rdn_ok d).2
      by_cases d2 : nv T l (f2 T l i) = nv T l (fs T l i)
      · have er : ra4 T l i r = (false, f2 T l i, r) := by unfold ra4; rw [if_pos e, if_neg (fun z => z.2 d2)]
        unfold f2 at d d2 h4
        rw [if_pos d, if_neg (nI_m1 (by omega)), if_pos (by rw [d2]), er]
        exact ⟨_, _, _, _, rfl, fun z => Bool.noConfusion z, fun _ => rfl⟩
      · have er : ra4 T l i r = (true, be T l (f2 T l i), if cpr r (nv T l (fs T l i)) (nv T l (f2 T l i)) = true then upr r (43 + nv T l (f2 T l i)) (r (43 + nv T l (f2 T l i)) ||| 2 ^ nv T l (fs T l i)) else r) := by unfold ra4; rw [if_pos e, if_pos ⟨d, d2⟩]
        unfold f2 at d d2 h4
        rw [if_pos d, if_neg (nI_m1 (by omega)), if_neg (fun z => d2 ((nI_eq (by omega) (by omega)).mp z)), X3_canTake hc ho.1 (by omega) (by omega) hfu, Option.bind_some, ib0, er]
        cases q : cpr r (nv T l (fs T l i)) (nv T l (f2 T l i)) with
        | true =>
          unfold f2 at q
          rw [q, if_neg (by simp), gd_nI (by omega) (by omega), nI_clamp (by omega), hc.2.2.2.2.2 _ (by omega), X6_with (by omega), Option.bind_some, gd_nI (by omega) (by omega)]
          exact ⟨_, _, _, _, rfl, fun _ => ⟨rfl, CM_B hc (show nv T l (f2 T l i) < 10 by unfold f2; omega)⟩, fun z => Bool.noConfusion z⟩
        | false =>
          unfold f2 at q
          rw [q, if_pos rfl]
          exact ⟨_, _, _, _, rfl, fun _ => ⟨rfl, hc⟩, fun z => Bool.noConfusion z⟩
    · have er : ra4 T l i r = (false, f2 T l i, r) := by unfold ra4; rw [if_pos e, if_neg (fun z => d z.1)]
      unfold f2 at d
      rw [if_neg d, if_pos rfl, er]
      exact ⟨_, _, _, _, rfl, fun z => Bool.noConfusion z, fun _ => rfl⟩
  · have er : ra4 T l i r = (false, fs T l i, r) := if_neg e
    rw [if_neg e, if_pos rfl, er]
    exact ⟨_, _, _, _, rfl, fun z => Bool.noConfusion z, fun _ => rfl⟩
theorem X1_readOrder {T : Nat → Nat} {l : Nat} {b : Nat → Int32} (hT : TX T l b) {r : Nat → Nat} (ho : Ok r) {n : Int32} {L U H O B : Nat → Int32} (hc : CM r n L U H O B) {i fu : Nat} (hi : i ≤ l) (hfu : 1100 ≤ fu) (r_no : Nat → Int32) (t_st t_kd : Int32) : ∃ no' st nx kd' O', m_X1_readOrder fu r_no (nI l) t_st (nI i) t_kd b n O B = some (nI (ra5 T l i r).1.toNat, no', st, nx, kd', O') ∧ ((ra5 T l i r).1 = true → nx = nI (ra5 T l i r).2.1 ∧ CM (ra5 T l i r).2.2 n L U H O' B) ∧ ((ra5 T l i r).1 = false → st = nI (ra5 T l i r).2.1) := by
  have b0 := ho.1.1
  have hD := ocD_le T l i (r 0)
  unfold m_X1_readOrder
  obtain ⟨⟨no1, st1, nx1, kd1⟩, fn1, ⟨i1, i2⟩, e1⟩ := forE (σ := (Nat → Int32) × Int32 × Int32 × Int32) (fun fn st j => m_X1_readOrder_4 fu (nI l) b n O B fn st.1 st.2.1 st.2.2.1 st.2.2.2 (nI (orf (fun q => 2 ^ tkv T l i q) j)) (nI j)) (fun j st => st.2.2.1 = nI (tkp T l i j) ∧ ∀ q, q < j → st.1 q = nI (tkv T l i q)) (ocD T l i (r 0)) (fun fn st j hj hI => by
    obtain ⟨a1, a2⟩ := ocD_no hj
    have h3 := (rdn_ok a1).2
    refine ⟨(upd st.1 j (nI (tkv T l i j)), nI (fs T l (tkp T l i j)), nI (be T l (fs T l (tkp T l i j))), nI (kd T l (fs T l (tkp T l i j)))), ⟨rfl, fun q hq => ?_⟩, ?_⟩
    · show upd st.1 j (nI (tkv T l i j)) q = _
      by_cases z : q = j
      · subst z; rw [upd_at]
      · rw [upd_ne _ _ z]; exact hI.2 q (by omega)
    · rw [m_X1_readOrder_4, if_neg (by rw [hc.1]; exact nI_ge (by omega) (by omega)), hI.1, X1_takeSection hT ho hc (tkp_le hi j) hfu, Option.bind_some]
      dsimp only
      rw [if_pos a1, if_neg (nI_m1 (by omega)), X6_has (by omega), Option.bind_some, ib0, show nv T l (fs T l (tkp T l i j)) = tkv T l i j from rfl, a2, if_pos rfl, X6_with (by unfold tkv; omega), Option.bind_some, gd_nI (by omega) (by omega), nI_clamp (by omega), n_1]
      rfl) (ocD T l i (r 0)) fu (r_no, t_st, nI i, t_kd) 0 (by omega) (by omega) ⟨rfl, fun q hq => absurd hq (by omega)⟩
  have e1 : m_X1_readOrder_4 fu (nI l) b n O B fu r_no t_st (nI i) t_kd (nI 0) (nI 0) = m_X1_readOrder_4 fu (nI l) b n O B (fn1 + 1) no1 st1 nx1 kd1 (nI (orf (fun q => 2 ^ tkv T l i q) (ocD T l i (r 0)))) (nI (ocD T l i (r 0))) := e1
  have i1 : nx1 = nI (tkp T l i (ocD T l i (r 0))) := i1
  have i2 : ∀ q, q < ocD T l i (r 0) → no1 q = nI (tkv T l i q) := i2
  rw [e1, m_X1_readOrder_4]
  by_cases e : ocD T l i (r 0) = r 0
  · have hp := ocD_PO b0.1 e
    have er : ra5 T l i r = (true, tkp T l i (r 0), if kpA r (tkv T l i) = true then setO r (tkv T l i) else r) := if_pos e
    rw [if_pos (by rw [hc.1, e]; exact nI_le (Nat.le_refl _) (by omega)), X3_respects hc ho.1 hp.1 (fun p hp => i2 p (by omega)) hfu, Option.bind_some, ib0, er]
    rw [e] at i1
    cases q : kpA r (tkv T l i) with
    | true =>
      rw [if_neg (by simp), hc.1, X3_takeOrder b0.2 O no1 hfu, Option.bind_some]
      exact ⟨_, _, _, _, _, rfl, fun _ => ⟨i1, by have := CM_setO (tkv T l i) b0.2 hc (w := no1) (fun p hp => i2 p (by omega)); rw [hc.1] at this; exact this⟩, fun z => Bool.noConfusion z⟩
    | false =>
      rw [if_pos rfl]
      exact ⟨_, _, _, _, _, rfl, fun _ => ⟨i1, hc⟩, fun z => Bool.noConfusion z⟩
  · have er : ra5 T l i r = (false, fs T l (tkp T l i (ocD T l i (r 0))), r) := if_neg e
    have hy := ocD_yes (T := T) (l := l) (i := i) (n := r 0) (by omega)
    rw [if_neg (by rw [hc.1]; exact nI_ge (by omega) (by omega)), i1, X1_takeSection hT ho hc (tkp_le hi _) hfu, Option.bind_some, er]
    dsimp only
    by_cases d : rdn T l (fs T l (tkp T l i (ocD T l i (r 0)))) 0 (r 0 - 1) = true
    · have h3 := (rdn_ok d).2
      unfold oc at hy
      rw [d, Bool.true_and, Bool.not_eq_false'] at hy
      rw [if_pos d, if_neg (nI_m1 (by omega)), X6_has (by omega), Option.bind_some, ib0, show nv T l (fs T l (tkp T l i (ocD T l i (r 0)))) = tkv T l i (ocD T l i (r 0)) from rfl, hy, if_neg (by simp)]
      exact ⟨_, _, _, _, _, rfl, fun z => Bool.noConfusion z, fun _ => rfl⟩
    · rw [if_neg d, if_pos rfl]
      exact ⟨_, _, _, _, _, rfl, fun z => Bool.noConfusion z, fun _ => rfl⟩
