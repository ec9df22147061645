/-! PURE P: beginnings, rows, the history -/
/-- a fresh manual of n sections -/
def rb (n : Nat) : Nat → Nat := fun j => if j = 0 then n else if j < 11 then 1 else if j < 33 then 0 else if j < 43 then j - 33 else 0
theorem rb_0 (n : Nat) : rb n 0 = n := rfl
theorem rb_L (n : Nat) {s : Nat} (h : s < 10) : rb n (1 + s) = 1 := by unfold rb; rw [if_neg (by omega), if_pos (by omega)]
theorem rb_H (n : Nat) {t : Nat} (h : t < 12) : rb n (11 + t) = 0 := by unfold rb; rw [if_neg (by omega), if_neg (by omega), if_pos (by omega)]
theorem rb_U (n : Nat) {s : Nat} (h : s < 10) : rb n (23 + s) = 0 := by unfold rb; rw [if_neg (by omega), if_neg (by omega), if_pos (by omega)]
theorem rb_O (n : Nat) {s : Nat} (h : s < 10) : rb n (33 + s) = s := by unfold rb; rw [if_neg (by omega), if_neg (by omega), if_neg (by omega), if_pos (by omega)]; omega
theorem rb_B (n : Nat) {j : Nat} (h : 43 ≤ j) : rb n j = 0 := by unfold rb; rw [if_neg (by omega), if_neg (by omega), if_neg (by omega), if_neg (by omega)]
theorem rb_ok {n : Nat} (h : 2 ≤ n ∧ n ≤ 10) : Iv (rb n) ∧ Pr (rb n) ∧ Nm (rb n) := by
  refine ⟨⟨h, fun s hs => ?_, fun t ht => ?_, fun s hs => ?_, fun p hp => ?_, fun p q hp hq e => ?_, fun s hs => ?_⟩, fun p hp a ha => ?_, fun s hs h10 => ?_, fun j hj => rb_B n (by omega)⟩
  · rw [rb_L n hs]; omega
  · rw [rb_H n ht]; omega
  · rw [rb_U n hs]; omega
  · rw [rb_0] at hp ⊢; rw [rb_O n (by omega)]; exact hp
  · rw [rb_0] at hp hq; rw [rb_O n (by omega), rb_O n (by omega)] at e; exact e
  · rw [rb_B n (by omega)]; omega
  · rw [rb_B n (by omega), Nat.zero_testBit] at ha; cases ha
  · rw [rb_L n h10, rb_U n h10, rb_O n h10, rb_B n (by omega)]; exact ⟨rfl, rfl, rfl, rfl⟩
theorem X3_beginAnew {n fu : Nat} (hfu : 1100 ≤ fu) (aL aU aH aO aB : Nat → Int32) : ∃ L U H O B, m_X3_beginAnew fu aL aU aH aO aB (nI n) = some (nI n, L, U, H, O, B) ∧ CM (rb n) (nI n) L U H O B := by
  refine ⟨fil (fun _ => nI 1) aL 10, fil (fun _ => nI 0) aU 10, fil (fun _ => (-1 : Int32)) aH 12, fil (fun s => nI s) aO 10, fil (fun _ => nI 0) aB 10, ?_, ?_⟩
  · unfold m_X3_beginAnew
    have key := for0 (fun fn i => m_X3_beginAnew_7 fu (nI n) aH fn (fil (fun _ => nI 1) aL i) (fil (fun _ => nI 0) aU i) (fil (fun s => nI s) aO i) (fil (fun _ => nI 0) aB i) (nI i)) 10 (some (nI n, fil (fun _ => nI 1) aL 10, fil (fun _ => nI 0) aU 10, fil (fun _ => (-1 : Int32)) aH 12, fil (fun s => nI s) aO 10, fil (fun _ => nI 0) aB 10)) fu (by omega) (fun fn i hi => by
      rw [m_X3_beginAnew_7, if_neg (nI_ge hi (by omega)), gd_nI hi (by omega), gd_nI hi (by omega), gd_nI hi (by omega), gd_nI hi (by omega), nI_clamp (by omega), n_1]
      have h1 := fil_s (fun _ => nI 1) aL i
      have h2 := fil_s (fun _ => nI 0) aU i
      have h3 := fil_s (fun s => nI s) aO i
      have h4 := fil_s (fun _ => nI 0) aB i
      rw [← h1, ← h2, ← h3, ← h4]) (fun fn => by
      rw [m_X3_beginAnew_7, if_pos (nI_le (Nat.le_refl _) (by omega))]
      have key2 := for0 (fun fm t => m_X3_beginAnew_49 (nI n) (fil (fun _ => nI 1) aL 10) (fil (fun _ => nI 0) aU 10) (fil (fun s => nI s) aO 10) (fil (fun _ => nI 0) aB 10) fm (fil (fun _ => (-1 : Int32)) aH t) (nI t)) 12 (some (nI n, fil (fun _ => nI 1) aL 10, fil (fun _ => nI 0) aU 10, fil (fun _ => (-1 : Int32)) aH 12, fil (fun s => nI s) aO 10, fil (fun _ => nI 0) aB 10)) fu (by omega) (fun fm t ht => by
        rw [m_X3_beginAnew_49, if_neg (nI_ge ht (by omega)), gd_nI ht (by omega), nI_clamp (by omega), n_1]
        have h1 := fil_s (fun _ => (-1 : Int32)) aH t
        rw [← h1]) (fun fm => by
        rw [m_X3_beginAnew_49, if_pos (nI_le (Nat.le_refl _) (by omega))])
      rw [fil_0] at key2
      exact key2)
    rw [fil_0, fil_0, fil_0, fil_0] at key
    exact key
  · refine ⟨rfl, fun s hs => ?_, fun s hs => ?_, fun t ht => ?_, fun s hs => ?_, fun s hs => ?_⟩
    · rw [fil_lt hs, rb_L n hs]
    · rw [fil_lt hs, rb_U n hs]
    · rw [fil_lt ht, rb_H n ht]; rfl
    · rw [fil_lt hs, rb_O n hs]
    · rw [fil_lt hs, rb_B n (by omega)]
theorem X7_begins {n fu : Nat} (hfu : 1100 ≤ fu) (k : Nat → Int32) : ∃ k', m_X7_begins fu k (nI n) = some k' ∧ R0 (rb n) k' ∧ ∀ j, 53 ≤ j → k' j = k j := by
  unfold m_X7_begins
  rw [gd_nI (by omega) (by omega), nI_clamp (by omega)]
  obtain ⟨k1, f1, ⟨i1, i2, i3, i4⟩, e1⟩ := forE (fun fn st i => m_X7_begins_9 fu fn st (nI i)) (fun i st => st 0 = nI n ∧ (∀ s, s < i → st (1 + s) = nI 1 ∧ st (23 + s) = nI 0 ∧ st (33 + s) = nI s ∧ st (43 + s) = nI 0) ∧ (∀ j, 53 ≤ j → st j = k j) ∧ True) 10 (fun fn st i hi hI => by
    obtain ⟨a1, a2, a3, -⟩ := hI
    refine ⟨upd (upd (upd (upd st (1 + i) (nI 1)) (23 + i) (nI 0)) (33 + i) (nI i)) (43 + i) (nI 0), ⟨?_, fun s hs => ?_, fun j hj => ?_, trivial⟩, ?_⟩
    · rw [upd_ne _ _ (by omega), upd_ne _ _ (by omega), upd_ne _ _ (by omega), upd_ne _ _ (by omega)]; exact a1
    · by_cases e : s = i
      · subst e
        refine ⟨?_, ?_, ?_, ?_⟩
        · rw [upd_ne _ _ (by omega), upd_ne _ _ (by omega), upd_ne _ _ (by omega), upd_at]
        · rw [upd_ne _ _ (by omega), upd_ne _ _ (by omega), upd_at]
        · rw [upd_ne _ _ (by omega), upd_at]
        · rw [upd_at]
      · have h := a2 s (by omega)
        refine ⟨?_, ?_, ?_, ?_⟩
        · rw [upd_ne _ _ (by omega), upd_ne _ _ (by omega), upd_ne _ _ (by omega), upd_ne _ _ (by omega)]; exact h.1
        · rw [upd_ne _ _ (by omega), upd_ne _ _ (by omega), upd_ne _ _ (by omega), upd_ne _ _ (by omega)]; exact h.2.1
        · rw [upd_ne _ _ (by omega), upd_ne _ _ (by omega), upd_ne _ _ (by omega), upd_ne _ _ (by omega)]; exact h.2.2.1
        · rw [upd_ne _ _ (by omega), upd_ne _ _ (by omega), upd_ne _ _ (by omega), upd_ne _ _ (by omega)]; exact h.2.2.2
    · rw [upd_ne _ _ (by omega), upd_ne _ _ (by omega), upd_ne _ _ (by omega), upd_ne _ _ (by omega)]; exact a3 j hj
    · rw [m_X7_begins_9, if_neg (nI_ge hi (by omega)), nI_add 1 i, nI_add 23 i, nI_add 33 i, nI_add 43 i, gd_nI (by omega) (by omega), gd_nI (by omega) (by omega), gd_nI (by omega) (by omega), gd_nI (by omega) (by omega), nI_clamp (by omega), nI_clamp (by omega), nI_clamp (by omega), nI_clamp (by omega), n_1]) 10 fu (upd k 0 (nI n)) 0 (by omega) (by omega) ⟨upd_at _ _ _, fun s hs => absurd hs (by omega), fun j hj => upd_ne _ _ (by omega), trivial⟩
  have e1 : m_X7_begins_9 fu fu (upd k 0 (nI n)) (nI 0) = m_X7_begins_9 fu (f1 + 1) k1 (nI 10) := e1
  rw [e1, m_X7_begins_9, if_pos (nI_le (Nat.le_refl _) (by omega))]
  obtain ⟨k2, f2, ⟨j1, j2⟩, e2⟩ := forE (fun fn st i => m_X7_begins_62 fn st (nI i)) (fun i st => (∀ t, t < i → st (11 + t) = (-1 : Int32)) ∧ ∀ j, (j < 11 ∨ 23 ≤ j) → st j = k1 j) 12 (fun fn st i hi hI => by
    refine ⟨upd st (11 + i) (-1 : Int32), ⟨fun t ht => ?_, fun j hj => ?_⟩, ?_⟩
    · by_cases e : t = i
      · subst e; rw [upd_at]
      · rw [upd_ne _ _ (by omega)]; exact hI.1 t (by omega)
    · rw [upd_ne _ _ (by omega)]; exact hI.2 j hj
    · rw [m_X7_begins_62, if_neg (nI_ge hi (by omega)), nI_add 11 i, gd_nI (by omega) (by omega), nI_clamp (by omega), n_1]) 12 fu k1 0 (by omega) (by omega) ⟨fun t ht => absurd ht (by omega), fun j _ => rfl⟩
  have e2 : m_X7_begins_62 fu k1 (nI 0) = m_X7_begins_62 (f2 + 1) k2 (nI 12) := e2
  rw [e2, m_X7_begins_62, if_pos (nI_le (Nat.le_refl _) (by omega))]
  refine ⟨k2, rfl, ⟨fun j hj h => ?_, fun t ht => ?_⟩, fun j hj => ?_⟩
  · rw [j2 j h]
    rcases Nat.lt_or_ge j 1 with q | q
    · obtain rfl : j = 0 := by omega
      rw [i1, rb_0]
    · rcases Nat.lt_or_ge j 11 with q | q
      · obtain ⟨s, rfl⟩ : ∃ s, j = 1 + s := ⟨j - 1, by omega⟩
        rw [(i2 s (by omega)).1, rb_L n (by omega)]
      · rcases Nat.lt_or_ge j 33 with q | q
        · obtain ⟨s, rfl⟩ : ∃ s, j = 23 + s := ⟨j - 23, by omega⟩
          rw [(i2 s (by omega)).2.1, rb_U n (by omega)]
        · rcases Nat.lt_or_ge j 43 with q | q
          · obtain ⟨s, rfl⟩ : ∃ s, j = 33 + s := ⟨j - 33, by omega⟩
            rw [(i2 s (by omega)).2.2.1, rb_O n (by omega)]
          · obtain ⟨s, rfl⟩ : ∃ s, j = 43 + s := ⟨j - 43, by omega⟩
            rw [(i2 s (by omega)).2.2.2, rb_B n (by omega)]
  · rw [j1 t ht, rb_H n ht]; rfl
  · rw [j2 j (by omega), i3 j hj]
theorem X7_copyRow {a b fu : Nat} (ha : a + 53 ≤ 583) (hb : b + 53 ≤ 583) (hd : a + 53 ≤ b ∨ b + 53 ≤ a) (hfu : 1100 ≤ fu) (k : Nat → Int32) : ∃ k', m_X7_copyRow fu k (nI a) (nI b) = some k' ∧ (∀ j, j < 53 → k' (b + j) = k (a + j)) ∧ ∀ j, (j < b ∨ b + 53 ≤ j) → k' j = k j := by
  unfold m_X7_copyRow
  obtain ⟨k1, f1, ⟨i1, i2⟩, e1⟩ := forE (fun fn st i => m_X7_copyRow_2 (nI a) (nI b) fn st (nI i)) (fun i st => (∀ j, j < i → st (b + j) = k (a + j)) ∧ ∀ j, (j < b ∨ b + i ≤ j) → st j = k j) 53 (fun fn st i hi hI => by
    refine ⟨upd st (b + i) (st (a + i)), ⟨fun j hj => ?_, fun j hj => ?_⟩, ?_⟩
    · by_cases e : j = i
      · subst e; rw [upd_at]; exact hI.2 _ (by omega)
      · rw [upd_ne _ _ (by omega)]; exact hI.1 j (by omega)
    · rw [upd_ne _ _ (by omega)]; exact hI.2 j (by omega)
    · rw [m_X7_copyRow_2, if_neg (nI_ge hi (by omega)), nI_add a i, nI_add b i, gd_nI (by omega) (by omega), gd_nI (by omega) (by omega), nI_clamp (by omega), nI_clamp (by omega), n_1]) 53 fu k 0 (by omega) (by omega) ⟨fun t ht => absurd ht (by omega), fun j _ => rfl⟩
  have e1 : m_X7_copyRow_2 (nI a) (nI b) fu k (nI 0) = m_X7_copyRow_2 (nI a) (nI b) (f1 + 1) k1 (nI 53) := e1
  rw [e1, m_X7_copyRow_2, if_pos (nI_le (Nat.le_refl _) (by omega))]
  exact ⟨k1, rfl, i1, i2⟩
theorem n_mul (a b : Nat) : nI a * nI b = nI (a * b) := (Int32.ofNat_mul a b).symm
/-- the number of recorded steps after one more -/
def s8 (S : Nat) : Nat := if S = 8 then 8 else S + 1
theorem X7_records {S fu : Nat} (hS : S ≤ 8) (hfu : 1100 ≤ fu) (k : Nat → Int32) : ∃ k', m_X7_records fu (nI S) k = some (nI (s8 S), k') ∧ (∀ j, (j < 53 ∨ 477 ≤ j) → k' j = k j) ∧ (∀ j, j < 53 → k' (53 + 53 * (s8 S - 1) + j) = k j) ∧ ∀ i j, i + 1 < s8 S → j < 53 → k' (53 + 53 * i + j) = k (53 + 53 * (i + (S + 1 - s8 S)) + j) := by
  unfold m_X7_records s8
  by_cases e : S = 8
  · subst e
    obtain ⟨k1, f1, ⟨i1, i2⟩, e1⟩ := forE (fun fn st i => m_X7_records_2 fu (nI 8) fn st (nI i)) (fun i st => (∀ j, j < i → st (53 + j) = k (106 + j)) ∧ ∀ j, (j < 53 ∨ 53 + i ≤ j) → st j = k j) 371 (fun fn st i hi hI => by
      refine ⟨upd st (53 + i) (st (106 + i)), ⟨fun j hj => ?_, fun j hj => ?_⟩, ?_⟩
      · by_cases e : j = i
        · subst e; rw [upd_at]; exact hI.2 _ (by omega)
        · rw [upd_ne _ _ (by omega)]; exact hI.1 j (by omega)
      · rw [upd_ne _ _ (by omega)]; exact hI.2 j (by omega)
      · rw [m_X7_records_2, if_neg (nI_ge hi (by omega)), if_pos rfl, nI_add 106 i, nI_add 53 i, gd_nI (by omega) (by omega), gd_nI (by omega) (by omega), nI_clamp (by omega), nI_clamp (by omega), n_1]) 371 fu k 0 (by omega) (by omega) ⟨fun t ht => absurd ht (by omega), fun j _ => rfl⟩
    have e1 : m_X7_records_2 fu (nI 8) fu k (nI 0) = m_X7_records_2 fu (nI 8) (f1 + 1) k1 (nI 371) := e1
    obtain ⟨k2, c1, c2, c3⟩ := X7_copyRow (a := 0) (b := 424) (by omega) (by omega) (by omega) hfu k1
    rw [e1, m_X7_records_2, if_pos (nI_le (Nat.le_refl _) (by omega))]
    unfold m_X7_records_42 m_X7_records_61
    rw [if_pos rfl, nI_sub (by omega), n_mul, nI_add, c1, Option.bind_some, nI_add, if_pos rfl]
    refine ⟨k2, rfl, fun j hj => ?_, fun j hj => ?_, fun i j hi hj => ?_⟩
    · rw [c3 j (by omega), i2 j (by omega)]
    · rw [show 53 + 53 * (8 - 1) + j = 424 + j by omega, c2 j hj, i2 _ (by omega), Nat.zero_add]
    · rw [c3 _ (by omega), show 53 + 53 * i + j = 53 + (53 * i + j) by omega, i1 _ (by omega), show 106 + (53 * i + j) = 53 + 53 * (i + (8 + 1 - 8)) + j by omega]
  · obtain ⟨f, rfl⟩ : ∃ f, fu = f + 1 := ⟨fu - 1, by omega⟩
    have hn : ¬ nI S = nI 8 := fun z => e ((nI_eq (by omega) (by omega)).mp z)
    obtain ⟨k2, c1, c2, c3⟩ := X7_copyRow (a := 0) (b := 53 + 53 * S) (by omega) (by omega) (by omega) hfu k
    rw [m_X7_records_2, if_neg (nI_ge (by omega) (by omega)), if_neg hn]
    unfold m_X7_records_42 m_X7_records_61
    rw [if_neg hn, nI_sub (by omega), n_mul, nI_add, Nat.sub_zero, c1, Option.bind_some, nI_add, if_neg e]
    refine ⟨k2, rfl, fun j hj => ?_, fun j hj => ?_, fun i j hi hj => ?_⟩
    · rw [c3 j (by omega)]
    · rw [Nat.add_sub_cancel, c2 j hj, Nat.zero_add]
    · rw [c3 _ (by omega), show i + (S + 1 - (S + 1)) = i by omega]
theorem nx8 : ∀ N, N < 8 → ((nI N + nI 1) - (nI N + nI 1) / nI 8 * nI 8) = nI ((N + 1) % 8) := by decide +kernel
theorem pv8 : ∀ N, N < 8 → (((nI N + nI 8) - nI 1) - ((nI N + nI 8) - nI 1) / nI 8 * nI 8) = nI ((N + 7) % 8) := by decide +kernel
theorem sz8 : ∀ S, S ≤ 8 → (if nI 8 < nI S + nI 1 then nI 8 else nI S + nI 1) = nI (s8 S) := by
  intro S hS
  unfold s8
  rw [nI_add]
  by_cases e : S = 8
  · rw [if_pos (by rw [nI_ltI (by omega) (by omega)]; omega), if_pos e]
  · rw [if_neg (by rw [nI_ltI (by omega) (by omega)]; omega), if_neg e]
theorem X2_remember {S N fu : Nat} (hS : S ≤ 8) (hN : N < 8) (hfu : 1100 ≤ fu) (yL yU yH yO yB : Nat → Int32) (n : Int32) (L U H O B : Nat → Int32) : m_X2_remember fu (nI S) (nI N) yL yU yH yO yB n L U H O B = some (nI (s8 S), nI ((N + 1) % 8), n, fil L yL 10, fil U yU 10, fil H yH 12, fil O yO 10, fil B yB 10) := by
  unfold m_X2_remember
  rw [gd_nI hN (by omega), X3_become hfu, Option.bind_some, sz8 S hS, nx8 N hN]
theorem X2_restore {S N fu : Nat} (hS : S ≤ 8) (h0 : S ≠ 0) (hN : N < 8) (hfu : 1100 ≤ fu) (yn : Int32) (yL yU yH yO yB : Nat → Int32) (n : Int32) (L U H O B : Nat → Int32) : m_X2_restore fu (nI S) (nI N) yn yL yU yH yO yB n L U H O B = some (nI (S - 1), nI ((N + 7) % 8), yn, fil yL L 10, fil yU U 10, fil yH H 12, fil yO O 10, fil yB B 10) := by
  unfold m_X2_restore
  rw [if_neg (fun z => h0 ((nI_eq (by omega) (by omega)).mp z)), pv8 N hN, gd_nI (by omega) (by omega), X3_become hfu, Option.bind_some, nI_sub (by omega)]
