/-! PURE QC: history and kept manuals of both sides -/
abbrev MN := Int32 × (Nat → Int32) × (Nat → Int32) × (Nat → Int32) × (Nat → Int32) × (Nat → Int32)
def CMt (r : Nat → Nat) (m : MN) : Prop := CM r m.1 m.2.1 m.2.2.1 m.2.2.2.1 m.2.2.2.2.1 m.2.2.2.2.2
def HR (S N : Nat) (hist : Nat → Nat → Nat) (Y : Nat → MN) (k : Nat → Int32) : Prop := S ≤ 8 ∧ N < 8 ∧ ∀ j, j < S → Ok (hist j) ∧ CMt (hist j) (Y ((N + 7 - j) % 8)) ∧ R0 (hist j) (fun x => k (53 + 53 * (S - 1 - j) + x))
def SR (is ke : Nat → Int32) (Z : Nat → MN) (k : Nat → Int32) : Prop := ∀ i, i < 2 → (is i = nI 0 ∧ ke i = nI 0) ∨ (is i = nI 1 ∧ ke i = nI 1 ∧ ∃ rs, Ok rs ∧ CMt rs (Z i) ∧ R0 rs (fun x => k (477 + 53 * i + x)))
def updY (Y : Nat → MN) (N : Nat) (m : MN) : Nat → MN := fun j => if j = N then m else Y j
def hcons (r : Nat → Nat) (hist : Nat → Nat → Nat) : Nat → Nat → Nat
  | 0 => r
  | j + 1 => hist j
theorem R0_congr {r : Nat → Nat} {k k' : Nat → Int32} (h : R0 r k) (e : ∀ j, j < 53 → k' j = k j) : R0 r k' := ⟨fun j hj z => (e j hj).trans (h.1 j hj z), fun t ht => (e _ (by omega)).trans (h.2 t ht)⟩
theorem HR_keep {S N : Nat} {hist : Nat → Nat → Nat} {Y : Nat → MN} {k k' : Nat → Int32} (h : HR S N hist Y k) (e : ∀ j, 53 ≤ j → j < 477 → k' j = k j) : HR S N hist Y k' :=
  ⟨h.1, h.2.1, fun j hj => ⟨(h.2.2 j hj).1, (h.2.2 j hj).2.1, R0_congr (h.2.2 j hj).2.2 (fun x hx => e _ (by omega) (by have := h.1; omega))⟩⟩
theorem SR_keep {is ke : Nat → Int32} {Z : Nat → MN} {k k' : Nat → Int32} (h : SR is ke Z k) (e : ∀ j, 477 ≤ j → k' j = k j) : SR is ke Z k' := fun i hi => by
  rcases h i hi with z | ⟨z1, z2, rs, z3, z4, z5⟩
  · exact Or.inl z
  · exact Or.inr ⟨z1, z2, rs, z3, z4, R0_congr z5 (fun x hx => e _ (by omega))⟩
theorem HR_rec {S N : Nat} {hist : Nat → Nat → Nat} {Y : Nat → MN} {k : Nat → Int32} (h : HR S N hist Y k) {r : Nat → Nat} {m : MN} (ho : Ok r) (hm : CMt r m) (hk : R0 r k) {fu : Nat} (hfu : 1100 ≤ fu) : ∃ k', m_X7_records fu (nI S) k = some (nI (s8 S), k') ∧ R0 r k' ∧ (∀ j, (j < 53 ∨ 477 ≤ j) → k' j = k j) ∧ HR (s8 S) ((N + 1) % 8) (hcons r hist) (updY Y N m) k' := by
  obtain ⟨hS, hN, hh⟩ := h
  obtain ⟨k', a1, a2, a3, a4⟩ := X7_records hS hfu k
  have s1 : 1 ≤ s8 S ∧ s8 S ≤ 8 ∧ s8 S ≤ S + 1 ∧ (S < 8 → s8 S = S + 1) := by unfold s8; split <;> omega
  refine ⟨k', a1, R0_congr hk (fun j hj => a2 j (by omega)), a2, by omega, by omega, fun j hj => ?_⟩
  rcases j with _ | j
  · refine ⟨ho, ?_, ?_⟩
    · show CMt r (updY Y N m (((N + 1) % 8 + 7 - 0) % 8))
      unfold updY
      rw [if_pos (by omega)]
      exact hm
    · exact R0_congr hk (fun x hx => by rw [Nat.sub_zero]; exact a3 x hx)
  · obtain ⟨q1, q2, q3⟩ := hh j (by omega)
    refine ⟨q1, ?_, ?_⟩
    · show CMt (hist j) (updY Y N m (((N + 1) % 8 + 7 - (j + 1)) % 8))
      unfold updY
      rw [if_neg (by omega), show ((N + 1) % 8 + 7 - (j + 1)) % 8 = (N + 7 - j) % 8 by omega]
      exact q2
    · refine R0_congr q3 (fun x hx => ?_)
      have := a4 (s8 S - 1 - (j + 1)) x (by omega) hx
      rw [this, show s8 S - 1 - (j + 1) + (S + 1 - s8 S) = S - 1 - j by omega]
theorem CMt_fil {r : Nat → Nat} {n : Int32} {L U H O B : Nat → Int32} (hc : CM r n L U H O B) (y : MN) : CMt r (n, fil L y.2.1 10, fil U y.2.2.1 10, fil H y.2.2.2.1 12, fil O y.2.2.2.2.1 10, fil B y.2.2.2.2.2 10) := CM_fil hc _ _ _ _ _
/-- one entry changed, the old state recorded -/
theorem X7_becomes {S N : Nat} {hist : Nat → Nat → Nat} {Y : Nat → MN} {k : Nat → Int32} (h : HR S N hist Y k) {r : Nat → Nat} {m : MN} (ho : Ok r) (hm : CMt r m) (hk : R0 r k) {fu : Nat} (hfu : 1100 ≤ fu) {j : Nat} (hj : j < 53) (x : Int32) : ∃ k', m_X7_becomes fu (nI S) k (nI j) x = some (k j, nI (s8 S), upd k' j x) ∧ R0 r k' ∧ (∀ j, (j < 53 ∨ 477 ≤ j) → k' j = k j) ∧ HR (s8 S) ((N + 1) % 8) (hcons r hist) (updY Y N m) (upd k' j x) := by
  obtain ⟨k', a1, a2, a3, a4⟩ := HR_rec h ho hm hk hfu
  refine ⟨k', ?_, a2, a3, HR_keep a4 (fun q h1 h2 => upd_ne _ _ (by omega))⟩
  unfold m_X7_becomes
  rw [a1, Option.bind_some]
  dsimp only
  rw [gd_nI (by omega) (by omega), gd_nI (by omega) (by omega), nI_clamp (by omega), a3 j (by omega)]
theorem E_write {T : Nat → Nat} {l : Nat} {b te : Nat → Int32} (hb : TX T l b) (ht : TX T l te) (x1 : Int32) : ∃ a l' T' b' te', m_X6_write (nI l) b x1 = some (a, nI l', b') ∧ m_X7_write (nI l) te x1 = some (a, nI l', te') ∧ TX T' l' b' ∧ TX T' l' te' := by
  have hl := hb.2.2
  unfold m_X6_write m_X7_write
  rw [X7_in (by omega) (by omega), Option.bind_some, ib0, iv2_hx (n := 256) (by omega)]
  cases e : hx 256 x1 with
  | false =>
    rw [if_pos rfl]
    rcases hx_cases (by omega) e with z | ⟨j, hj, rfl, h4⟩
    · rw [if_pos z]; exact ⟨_, l, T, _, _, rfl, rfl, hb, ht⟩
    · rw [if_neg (nI_nlt (Nat.zero_le _) hj), if_neg (nI_ge (by omega) (by omega))]; exact ⟨_, l, T, _, _, rfl, rfl, hb, ht⟩
  | true =>
    obtain ⟨j, hj, rfl⟩ := hx_true e
    rw [if_neg (nI_nlt (Nat.zero_le _) (by omega)), if_pos (nI_le (by omega) (by omega)), if_neg nt]
    by_cases c : l < 200
    · have st : ∀ w : Nat → Int32, TX T l w → TX (upr T l j) (l + 1) (upd w l (nI j)) := fun w hw => by
        refine ⟨fun q hq => ?_, fun q hq => ?_, by omega⟩
        · by_cases z : q = l
          · subst z; rw [upd_at, upr_at]
          · rw [upd_ne _ _ z, upr_ne _ _ z]; exact hw.1 q (by omega)
        · by_cases z : q = l
          · subst z; rw [upr_at]; omega
          · rw [upr_ne _ _ z]; exact hw.2.1 q (by omega)
      unfold m_X5_append
      rw [if_pos ((nI_ltI (by omega) (by omega)).mpr c), if_neg (nI_ge c (by omega)), gd_nI c (by omega), Option.bind_some, if_neg (fun z => by have := (nI_eq (by omega) (by omega)).mp z; omega), gd_nI c (by omega), nI_clamp (by omega), n_1]
      exact ⟨_, l + 1, upr T l j, _, _, rfl, rfl, st _ hb, st _ ht⟩
    · rw [if_neg (fun z => c ((nI_ltI (by omega) (by omega)).mp z)), if_pos (by rw [show l = 200 by omega])]
      exact ⟨_, l, T, _, _, rfl, rfl, hb, ht⟩
