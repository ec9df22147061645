/-! PURE E: walks by needs, components, the shortest cycle -/
/-- a walk of just so many steps -/
def wk (r : Nat → Nat) : Nat → Nat → Nat → Prop
  | 0, u, v => u = v
  | k + 1, u, v => ∃ w, (nd r u).testBit w = true ∧ wk r k w v
theorem ed_lt {r : Nat → Nat} (hv : Iv r) {u v : Nat} (h : (nd r u).testBit v = true) : v < r 0 := by
  rcases Nat.lt_or_ge v (r 0) with q | q
  · exact q
  · rw [Nat.testBit_lt_two_pow (Nat.lt_of_lt_of_le (nd_lt hv u) (Nat.pow_le_pow_right (by omega) q))] at h
    cases h
theorem wk_app {r : Nat → Nat} : ∀ (a b u w v : Nat), wk r a u w → wk r b w v → wk r (a + b) u v
  | 0, b, u, w, v, h1, h2 => by
    have h1 : u = w := h1
    rw [Nat.zero_add, h1]
    exact h2
  | a + 1, b, u, w, v, ⟨x, hx, h1⟩, h2 => by
    rw [show a + 1 + b = (a + b) + 1 by omega]
    exact ⟨x, hx, wk_app a b x w v h1 h2⟩
theorem wk_one {r : Nat → Nat} {u v : Nat} : wk r 1 u v ↔ (nd r u).testBit v = true := by
  constructor
  · rintro ⟨w, h, h2⟩
    have h2 : w = v := h2
    rw [← h2]; exact h
  · intro h
    exact ⟨v, h, rfl⟩
theorem wk_last {r : Nat → Nat} : ∀ (k u v : Nat), wk r (k + 1) u v ↔ ∃ w, wk r k u w ∧ (nd r w).testBit v = true
  | 0, u, v => by
    rw [wk_one]
    exact ⟨fun h => ⟨u, rfl, h⟩, fun ⟨w, h1, h2⟩ => by have h1 : u = w := h1; rw [h1]; exact h2⟩
  | k + 1, u, v => by
    constructor
    · rintro ⟨w, h1, h2⟩
      obtain ⟨x, h3, h4⟩ := (wk_last k w v).mp h2
      exact ⟨x, ⟨w, h1, h3⟩, h4⟩
    · rintro ⟨x, ⟨w, h1, h3⟩, h4⟩
      exact ⟨w, h1, (wk_last k w v).mpr ⟨x, h3, h4⟩⟩
theorem wk_lt {r : Nat → Nat} (hv : Iv r) : ∀ (k u v : Nat), u < r 0 → wk r k u v → v < r 0
  | 0, u, v, hu, h => by have h : u = v := h; rw [← h]; exact hu
  | k + 1, u, v, _, ⟨w, h1, h2⟩ => wk_lt hv k w v (ed_lt hv h1) h2
/-- forward sets, backward sets -/
def fw (r : Nat → Nat) (u : Nat) : Nat → Nat
  | 0 => 2 ^ u
  | k + 1 => orf (fun s => if (fw r u k).testBit s then nd r s else 0) (r 0)
def bw (r : Nat → Nat) (v : Nat) : Nat → Nat
  | 0 => 2 ^ v
  | k + 1 => bs (fun s => (nd r s &&& bw r v k) != 0) (r 0)
theorem fw_bit {r : Nat → Nat} (hv : Iv r) {u : Nat} (hu : u < r 0) : ∀ (k v : Nat), (fw r u k).testBit v = true ↔ wk r k u v
  | 0, v => by
    rw [fw, Nat.testBit_two_pow, decide_eq_true_eq]
    exact Iff.rfl
  | k + 1, v => by
    rw [fw, orf_bit, wk_last]
    constructor
    · rintro ⟨s, hs, h⟩
      split at h
      · rename_i h1
        exact ⟨s, (fw_bit hv hu k s).mp h1, h⟩
      · simp at h
    · rintro ⟨w, h1, h2⟩
      refine ⟨w, wk_lt hv k u w hu h1, ?_⟩
      rw [if_pos ((fw_bit hv hu k w).mpr h1)]
      exact h2
theorem bw_bit {r : Nat → Nat} (hv : Iv r) {v : Nat} : ∀ (k u : Nat), u < r 0 → ((bw r v k).testBit u = true ↔ wk r k u v)
  | 0, u, hu => by
    rw [bw, Nat.testBit_two_pow, decide_eq_true_eq]
    exact ⟨fun h => h.symm, fun h => Eq.symm h⟩
  | k + 1, u, hu => by
    rw [bw, bs_bit, decide_eq_true hu, Bool.true_and, bne_iff_ne]
    constructor
    · intro h
      obtain ⟨w, hw⟩ := Nat.exists_testBit_of_ne_zero h
      rw [Nat.testBit_and, Bool.and_eq_true] at hw
      exact ⟨w, hw.1, (bw_bit hv k w (ed_lt hv hw.1)).mp hw.2⟩
    · rintro ⟨w, h1, h2⟩ z
      have h3 : (nd r u &&& bw r v k).testBit w = true := by
        rw [Nat.testBit_and, h1, (bw_bit hv k w (ed_lt hv h1)).mpr h2]; rfl
      rw [z, Nat.zero_testBit] at h3
      cases h3
theorem fw_lt {r : Nat → Nat} (hv : Iv r) {u : Nat} (hu : u < r 0) (k : Nat) : fw r u k < 2 ^ r 0 := by
  apply Nat.lt_pow_two_of_testBit
  intro i hi
  cases h : (fw r u k).testBit i with
  | false => rfl
  | true =>
    have := wk_lt hv k u i hu ((fw_bit hv hu k i).mp h)
    omega
theorem bw_lt {r : Nat → Nat} {v : Nat} (hu : v < r 0) (k : Nat) : bw r v k < 2 ^ r 0 := by
  cases k with
  | zero => exact Nat.pow_lt_pow_right (by omega) hu
  | succ k => exact bs_lt _ _
/-- the fewest steps from one to another, one at least; r 0 + 1 if there is no way -/
def sts (r : Nat → Nat) (u v : Nat) : Nat := fnd (fun k => (fw r u k).testBit v) (r 0) 1
theorem sts_ge (r : Nat → Nat) (u v : Nat) : 1 ≤ sts r u v ∧ sts r u v ≤ r 0 + 1 := by
  have := fnd_le (fun k => (fw r u k).testBit v) (r 0) 1
  unfold sts
  omega
theorem sts_yes {r : Nat → Nat} (hv : Iv r) {u v : Nat} (hu : u < r 0) (h : sts r u v ≤ r 0) : wk r (sts r u v) u v :=
  (fw_bit hv hu _ v).mp (fnd_yes (fun k => (fw r u k).testBit v) (r 0) 1 (by unfold sts at h; omega))
theorem sts_le {r : Nat → Nat} (hv : Iv r) {u v k : Nat} (hu : u < r 0) (hk : 1 ≤ k) (h : wk r k u v) : sts r u v ≤ k := by
  rcases Nat.lt_or_ge k (sts r u v) with q | q
  · have h1 := fnd_no (fun k => (fw r u k).testBit v) (r 0) 1 k hk q
    rw [(fw_bit hv hu k v).mpr h] at h1
    cases h1
  · exact q
theorem p10 {r : Nat → Nat} (hv : Iv r) : 2 ^ r 0 ≤ 1024 := Nat.pow_le_pow_right (by omega) hv.1.2
theorem X7_stepsTo {r : Nat → Nat} {k : Nat → Int32} (hc : R0 r k) (hv : Iv r) {u v fu : Nat} (hu : u < r 0) (hw : v < r 0) (hfu : 1100 ≤ fu) : m_X7_stepsTo fu k (nI u) (nI v) = some (if sts r u v ≤ r 0 then nI (sts r u v) else (-1 : Int32)) := by
  have b1 := hv.1.2
  have hp := p10 hv
  have hsg := sts_ge r u v
  unfold m_X7_stepsTo
  rw [X7_needs hc hv (by omega) hfu, Option.bind_some]
  have h1 : nd r u = fw r u 1 := by
    apply Nat.eq_of_testBit_eq
    intro i
    rw [Bool.eq_iff_iff, fw_bit hv hu, wk_one]
  rw [h1]
  refine forA (fun fn i => m_X7_stepsTo_9 fu k (nI v) fn (nI (fw r u i)) (nI i)) 1 (sts r u v) _ fu (by omega) (by omega) (fun fn i ha hi => ?_) (fun fn => ?_)
  · have hl := fw_lt hv hu i
    rw [m_X7_stepsTo_9, gd_nI (by omega) (by omega), nI_clamp (by omega), hc.1 0 (by omega) (by omega), if_neg (nI_nlt (by omega) (by omega)), X7_has (by omega) (by omega), Option.bind_some, ib0, if_pos (fnd_no (fun k => (fw r u k).testBit v) (r 0) 1 i ha hi)]
    refine for0 (fun fm j => m_X7_stepsTo_37 fu k (nI (fw r u i)) (nI i) (m_X7_stepsTo_9 fu k (nI v) fn) fm (nI (orf (fun s => if (fw r u i).testBit s then nd r s else 0) j)) (nI j)) (r 0) _ fu (by omega) (fun fm j hj => ?_) (fun fm => ?_)
    · rw [m_X7_stepsTo_37, gd_nI (by omega) (by omega), nI_clamp (by omega), hc.1 0 (by omega) (by omega), if_neg (nI_ge hj (by omega)), X7_has (by omega) (by omega), Option.bind_some, ib0, orf, n_1]
      cases e : (fw r u i).testBit j with
      | false => rw [if_pos rfl, n_or, if_neg (by simp)]
      | true => rw [if_neg (by simp), X7_needs hc hv (by omega) hfu, Option.bind_some, n_or, if_pos rfl]
    · rw [m_X7_stepsTo_37, gd_nI (by omega) (by omega), nI_clamp (by omega), hc.1 0 (by omega) (by omega), if_pos (nI_le (Nat.le_refl _) (by omega)), n_1, fw]
  · have hl := fw_lt hv hu (sts r u v)
    rw [m_X7_stepsTo_9, gd_nI (by omega) (by omega), nI_clamp (by omega), hc.1 0 (by omega) (by omega)]
    by_cases h : sts r u v ≤ r 0
    · rw [if_neg (nI_nlt h (by omega)), X7_has (by omega) (by omega), Option.bind_some, ib0, if_pos h, if_neg]
      rw [(fw_bit hv hu _ v).mpr (sts_yes hv hu h)]
      simp
    · rw [if_pos (nI_lt (by omega) (by omega)), if_neg h]
/-! Warshall's sets -/
def wr (r : Nat → Nat) : Nat → Nat → Nat
  | 0, s => nd r s ||| 2 ^ s
  | k + 1, s => if (wr r k s).testBit k then wr r k s ||| wr r k k else wr r k s
theorem wr_bit {r : Nat → Nat} {k s v : Nat} : (wr r (k + 1) s).testBit v = true ↔ (wr r k s).testBit v = true ∨ ((wr r k s).testBit k = true ∧ (wr r k k).testBit v = true) := by
  rw [wr]
  cases h : (wr r k s).testBit k with
  | true => rw [if_pos rfl, Nat.testBit_or, Bool.or_eq_true]; simp
  | false => rw [if_neg (by simp)]; simp
theorem wr_lt {r : Nat → Nat} (hv : Iv r) : ∀ (k s : Nat), k ≤ r 0 → s < r 0 → wr r k s < 2 ^ r 0
  | 0, s, _, hs => by rw [wr]; exact Nat.or_lt_two_pow (nd_lt hv s) (Nat.pow_lt_pow_right (by omega) hs)
  | k + 1, s, hk, hs => by
    rw [wr]
    split
    · exact Nat.or_lt_two_pow (wr_lt hv k s (by omega) hs) (wr_lt hv k k (by omega) (by omega))
    · exact wr_lt hv k s (by omega) hs
theorem wr_sound {r : Nat → Nat} : ∀ (k s v : Nat), (wr r k s).testBit v = true → ∃ j, wk r j s v
  | 0, s, v, h => by
    rw [wr, Nat.testBit_or, Bool.or_eq_true] at h
    rcases h with h | h
    · exact ⟨1, wk_one.mpr h⟩
    · rw [Nat.testBit_two_pow, decide_eq_true_eq] at h
      exact ⟨0, h⟩
  | k + 1, s, v, h => by
    rcases wr_bit.mp h with h | ⟨h1, h2⟩
    · exact wr_sound k s v h
    · obtain ⟨a, ha⟩ := wr_sound k s k h1
      obtain ⟨b, hb⟩ := wr_sound k k v h2
      exact ⟨a + b, wk_app a b s k v ha hb⟩
theorem wr_trans {r : Nat → Nat} : ∀ (k m s v : Nat), m < k → (wr r k s).testBit m = true → (wr r k m).testBit v = true → (wr r k s).testBit v = true
  | 0, m, s, v, h, _, _ => absurd h (Nat.not_lt_zero m)
  | k + 1, m, s, v, h, h1, h2 => by
    rw [wr_bit] at h1 h2 ⊢
    by_cases e : m = k
    · subst e
      have h3 : (wr r m s).testBit m = true := by rcases h1 with h1 | h1; exact h1; exact h1.1
      have h4 : (wr r m m).testBit v = true := by rcases h2 with h2 | h2; exact h2; exact h2.2
      exact Or.inr ⟨h3, h4⟩
    · have hm : m < k := by omega
      rcases h1 with h1 | ⟨h1, h1'⟩ <;> rcases h2 with h2 | ⟨h2, h2'⟩
      · exact Or.inl (wr_trans k m s v hm h1 h2)
      · exact Or.inr ⟨wr_trans k m s k hm h1 h2, h2'⟩
      · exact Or.inr ⟨h1, wr_trans k m k v hm h1' h2⟩
      · exact Or.inr ⟨h1, h2'⟩
theorem wr_mono {r : Nat → Nat} {s v : Nat} (h : (wr r 0 s).testBit v = true) : ∀ k, (wr r k s).testBit v = true
  | 0 => h
  | k + 1 => wr_bit.mpr (Or.inl (wr_mono h k))
theorem wr_all {r : Nat → Nat} (hv : Iv r) : ∀ (k s v : Nat), s < r 0 → wk r k s v → (wr r (r 0) s).testBit v = true
  | 0, s, v, hs, h => by
    have h : s = v := h
    subst h
    exact wr_mono (by rw [wr, Nat.testBit_or, Nat.testBit_two_pow_self, Bool.or_true]) _
  | k + 1, s, v, hs, ⟨w, h1, h2⟩ => by
    have hw := ed_lt hv h1
    refine wr_trans (r 0) w s v hw (wr_mono (by rw [wr, Nat.testBit_or, h1, Bool.true_or]) _) (wr_all hv k w v hw h2)
theorem wr_iff {r : Nat → Nat} (hv : Iv r) {s v : Nat} (hs : s < r 0) : (wr r (r 0) s).testBit v = true ↔ ∃ k, wk r k s v := ⟨wr_sound (r 0) s v, fun ⟨k, h⟩ => wr_all hv k s v hs h⟩
/-! all to which a section leads -/
def rdi (r : Nat → Nat) (x : Nat) : Nat → Nat
  | 0 => x
  | s + 1 => rdi r x s ||| (if (rdi r x s).testBit s then nd r s else 0)
def ld (r : Nat → Nat) (u : Nat) : Nat → Nat
  | 0 => nd r u
  | k + 1 => rdi r (ld r u k) (r 0)
theorem rdi_sub {r : Nat → Nat} {x i : Nat} (h : x.testBit i = true) : ∀ n, (rdi r x n).testBit i = true
  | 0 => h
  | n + 1 => by rw [rdi, Nat.testBit_or, rdi_sub h n, Bool.true_or]
theorem rdi_mono {r : Nat → Nat} {x i : Nat} : ∀ (d n : Nat), (rdi r x n).testBit i = true → (rdi r x (n + d)).testBit i = true
  | 0, n, h => h
  | d + 1, n, h => by rw [show n + (d + 1) = (n + d) + 1 by omega, rdi, Nat.testBit_or, rdi_mono d n h, Bool.true_or]
theorem rdi_step {r : Nat → Nat} {x s v : Nat} (hx : x.testBit s = true) (hs : s < r 0) (h : (nd r s).testBit v = true) : (rdi r x (r 0)).testBit v = true := by
  have h1 : (rdi r x (s + 1)).testBit v = true := by
    rw [rdi, Nat.testBit_or, if_pos (rdi_sub hx s), h, Bool.or_true]
  have h2 := rdi_mono (r 0 - (s + 1)) (s + 1) h1
  rw [show s + 1 + (r 0 - (s + 1)) = r 0 by omega] at h2
  exact h2
theorem rdi_sound {r : Nat → Nat} (P : Nat → Prop) (hP : ∀ s v, P s → (nd r s).testBit v = true → P v) {x : Nat} (hx : ∀ i, x.testBit i = true → P i) : ∀ n i, (rdi r x n).testBit i = true → P i
  | 0, i, h => hx i h
  | n + 1, i, h => by
    rw [rdi, Nat.testBit_or, Bool.or_eq_true] at h
    rcases h with h | h
    · exact rdi_sound P hP hx n i h
    · split at h
      · rename_i h1
        exact hP n i (rdi_sound P hP hx n n h1) h
      · simp at h
theorem rdi_lt {r : Nat → Nat} (hv : Iv r) {x : Nat} (hx : x < 2 ^ r 0) : ∀ n, rdi r x n < 2 ^ r 0
  | 0 => hx
  | n + 1 => by
    rw [rdi]
    refine Nat.or_lt_two_pow (rdi_lt hv hx n) ?_
    split
    · exact nd_lt hv n
    · exact Nat.two_pow_pos _
theorem ld_lt {r : Nat → Nat} (hv : Iv r) (u : Nat) : ∀ k, ld r u k < 2 ^ r 0
  | 0 => nd_lt hv u
  | k + 1 => rdi_lt hv (ld_lt hv u k) _
theorem sm_lt {f g : Nat → Nat} : ∀ {n : Nat}, (∀ i, i < n → f i ≤ g i) → (∃ i, i < n ∧ f i < g i) → sm f n < sm g n
  | 0, _, ⟨i, h, _⟩ => absurd h (Nat.not_lt_zero i)
  | n + 1, h1, ⟨i, h2, h3⟩ => by
    rw [sm, sm]
    have h4 := h1 n (by omega)
    by_cases e : i = n
    · subst e
      have h5 : sm f i ≤ sm g i := by
        clear h2 h3 h4
        have : ∀ m, m ≤ i → sm f m ≤ sm g m := by
          intro m
          induction m with
          | zero => intro _; simp [sm]
          | succ m ih =>
            intro hm
            rw [sm, sm]
            have := ih (by omega)
            have := h1 m (by omega)
            omega
        exact this i (Nat.le_refl i)
      omega
    · have := sm_lt (n := n) (fun i hi => h1 i (by omega)) ⟨i, by omega, h3⟩
      omega
def cd (n x : Nat) : Nat := sm (fun k => (x.testBit k).toNat) n
theorem cd_le (n x : Nat) : cd n x ≤ n := by
  have := sm_le (f := fun k => (x.testBit k).toNat) (n := n) (c := 1) (fun i _ => by cases x.testBit i <;> simp)
  unfold cd
  omega
def clo (r : Nat → Nat) (x : Nat) : Prop := ∀ s v, x.testBit s = true → (nd r s).testBit v = true → x.testBit v = true
theorem ld_closed {r : Nat → Nat} (hv : Iv r) (u : Nat) : ∀ j, clo r (ld r u j) ∨ j ≤ cd (r 0) (ld r u j)
  | 0 => Or.inr (Nat.zero_le _)
  | j + 1 => by
    by_cases hcl : clo r (ld r u j)
    · left
      have e : ld r u (j + 1) = ld r u j := by
        rw [ld]
        apply Nat.eq_of_testBit_eq
        intro i
        rw [Bool.eq_iff_iff]
        exact ⟨fun h => rdi_sound (fun i => (ld r u j).testBit i = true) (fun s v h1 h2 => hcl s v h1 h2) (fun i h => h) _ i h, fun h => rdi_sub h _⟩
      rw [e]
      exact hcl
    · right
      rcases ld_closed hv u j with h | h
      · exact absurd h hcl
      · have hlt : cd (r 0) (ld r u j) < cd (r 0) (ld r u (j + 1)) := by
          refine sm_lt (fun i _ => ?_) ?_
          · cases h1 : (ld r u j).testBit i with
            | false => simp
            | true => rw [ld, rdi_sub h1]; exact Nat.le_refl _
          · refine Classical.byContradiction (fun hno => hcl (fun s v h1 h2 => ?_))
            have hs : s < r 0 := by
              rcases Nat.lt_or_ge s (r 0) with q | q
              · exact q
              · rw [Nat.testBit_lt_two_pow (Nat.lt_of_lt_of_le (ld_lt hv u j) (Nat.pow_le_pow_right (by omega) q))] at h1
                cases h1
            have h3 : (ld r u (j + 1)).testBit v = true := by rw [ld]; exact rdi_step h1 hs h2
            cases h4 : (ld r u j).testBit v with
            | true => rfl
            | false => exact absurd ⟨v, ed_lt hv h2, by rw [h3, h4]; decide⟩ hno
        omega
theorem ld_clo {r : Nat → Nat} (hv : Iv r) (u : Nat) : clo r (ld r u (r 0)) := by
  rcases ld_closed hv u (r 0) with h | h
  · exact h
  · intro s v _ h2
    have hvl := ed_lt hv h2
    cases h4 : (ld r u (r 0)).testBit v with
    | true => rfl
    | false =>
      have h5 : cd (r 0) (ld r u (r 0)) < sm (fun _ => 1) (r 0) := sm_lt (fun i _ => by cases (ld r u (r 0)).testBit i <;> simp) ⟨v, hvl, by rw [h4]; decide⟩
      have h6 := sm_le (f := fun _ => 1) (n := r 0) (c := 1) (fun _ _ => Nat.le_refl 1)
      omega
theorem ld_iff {r : Nat → Nat} (hv : Iv r) {u v : Nat} : (ld r u (r 0)).testBit v = true ↔ ∃ k, wk r (k + 1) u v := by
  constructor
  · have key : ∀ j i, (ld r u j).testBit i = true → ∃ k, wk r (k + 1) u i := by
      intro j
      induction j with
      | zero => intro i h; exact ⟨0, wk_one.mpr h⟩
      | succ j ih =>
        intro i h
        rw [ld] at h
        exact rdi_sound (fun i => ∃ k, wk r (k + 1) u i) (fun s v ⟨k, h1⟩ h2 => ⟨k + 1, (wk_last (k + 1) u v).mpr ⟨s, h1, h2⟩⟩) ih _ i h
    exact key (r 0) v
  · rintro ⟨k, h⟩
    have h0 : ∀ j i, (nd r u).testBit i = true → (ld r u j).testBit i = true := by
      intro j
      induction j with
      | zero => intro i h; exact h
      | succ j ih => intro i h; rw [ld]; exact rdi_sub (ih i h) _
    have key : ∀ k v, wk r (k + 1) u v → (ld r u (r 0)).testBit v = true := by
      intro k
      induction k with
      | zero => intro v h; exact h0 _ _ (wk_one.mp h)
      | succ k ih =>
        intro v h
        obtain ⟨w, h1, h2⟩ := (wk_last (k + 1) u v).mp h
        exact ld_clo hv u w v (ih w h1) h2
    exact key k v h
theorem X7_leads {r : Nat → Nat} {k : Nat → Int32} (hc : R0 r k) (hv : Iv r) {u fu : Nat} (hu : u < r 0) (hfu : 1100 ≤ fu) : m_X7_leads fu k (nI u) = some (nI (ld r u (r 0))) := by
  have b1 := hv.1.2
  have hp := p10 hv
  unfold m_X7_leads
  rw [X7_needs hc hv (by omega) hfu, Option.bind_some]
  refine for0 (fun fn i => m_X7_leads_8 fu k fn (nI (ld r u i)) (nI i)) (r 0) _ fu (by omega) (fun fn i hi => ?_) (fun fn => ?_)
  · rw [m_X7_leads_8, gd_nI (by omega) (by omega), nI_clamp (by omega), hc.1 0 (by omega) (by omega), if_neg (nI_ge hi (by omega))]
    refine for0 (fun fm j => m_X7_leads_21 fu k (nI i) (m_X7_leads_8 fu k fn) fm (nI (rdi r (ld r u i) j)) (nI j)) (r 0) _ fu (by omega) (fun fm j hj => ?_) (fun fm => ?_)
    · have hl := rdi_lt hv (ld_lt hv u i) j
      rw [m_X7_leads_21, gd_nI (by omega) (by omega), nI_clamp (by omega), hc.1 0 (by omega) (by omega), if_neg (nI_ge hj (by omega)), X7_has (by omega) (by omega), Option.bind_some, ib0, rdi, n_1]
      cases e : (rdi r (ld r u i) j).testBit j with
      | false => rw [if_pos rfl, n_or, if_neg (by simp)]
      | true => rw [if_neg (by simp), X7_needs hc hv (by omega) hfu, Option.bind_some, n_or, if_pos rfl]
    · rw [m_X7_leads_21, gd_nI (by omega) (by omega), nI_clamp (by omega), hc.1 0 (by omega) (by omega), if_pos (nI_le (Nat.le_refl _) (by omega)), n_1, ld]
  · rw [m_X7_leads_8, gd_nI (by omega) (by omega), nI_clamp (by omega), hc.1 0 (by omega) (by omega), if_pos (nI_le (Nat.le_refl _) (by omega))]
/-- the component of a section -/
def kno (r : Nat → Nat) (u : Nat) : Nat := bs (fun s => (wr r (r 0) u).testBit s && (wr r (r 0) s).testBit u) (r 0)
theorem kno_lt (r : Nat → Nat) (u : Nat) : kno r u < 2 ^ r 0 := bs_lt _ _
theorem kno_self {r : Nat → Nat} (hv : Iv r) {u : Nat} (hu : u < r 0) : (kno r u).testBit u = true := by
  unfold kno
  rw [bs_bit, decide_eq_true hu, (wr_iff hv hu).mpr ⟨0, rfl⟩]
  rfl
theorem X7_knotOf {r : Nat → Nat} {k : Nat → Int32} (hc : R0 r k) (hv : Iv r) {u fu : Nat} (hu : u < r 0) (hfu : 1100 ≤ fu) : m_X7_knotOf fu k (nI u) = some (nI (kno r u)) := by
  have b1 := hv.1.2
  have hp := p10 hv
  unfold m_X7_knotOf
  rw [X7_leads hc hv hu hfu, Option.bind_some, n_bit (by omega)]
  have hl := ld_lt hv u (r 0)
  rw [show nI (2 ^ u) = nI (2 ^ u ||| bs (fun s => (ld r u (r 0)).testBit s && (ld r s (r 0)).testBit u) 0) by rw [bs, Nat.or_zero]]
  refine for0 (fun fn i => m_X7_knotOf_13 fu k (nI u) (nI (ld r u (r 0))) fn (nI (2 ^ u ||| bs (fun s => (ld r u (r 0)).testBit s && (ld r s (r 0)).testBit u) i)) (nI i)) (r 0) _ fu (by omega) (fun fn i hi => ?_) (fun fn => ?_)
  · have hl2 := ld_lt hv i (r 0)
    rw [m_X7_knotOf_13, gd_nI (by omega) (by omega), nI_clamp (by omega), hc.1 0 (by omega) (by omega), if_neg (nI_ge hi (by omega)), X7_has (by omega) (by omega), Option.bind_some, ib0, bs, n_1]
    cases e : (ld r u (r 0)).testBit i with
    | false => rw [if_pos rfl, n_or, Bool.false_and, if_neg (by simp), Nat.or_zero, Nat.or_zero]
    | true =>
      rw [if_neg (by simp), X7_leads hc hv hi hfu, Option.bind_some, X7_has (by omega) (by omega), Option.bind_some, ib0, Bool.true_and]
      cases e2 : (ld r i (r 0)).testBit u with
      | false => rw [if_pos rfl, n_or, if_neg (by simp), Nat.or_zero, Nat.or_zero]
      | true => rw [if_neg (by simp), n_bit (by omega), n_or, if_pos rfl, Nat.or_assoc]
  · rw [m_X7_knotOf_13, gd_nI (by omega) (by omega), nI_clamp (by omega), hc.1 0 (by omega) (by omega), if_pos (nI_le (Nat.le_refl _) (by omega))]
    congr 2
    unfold kno
    apply bs_ext
    intro i
    rw [Nat.testBit_or, Nat.testBit_two_pow, bs_bit]
    by_cases hi : i < r 0
    · rw [decide_eq_true hi, Bool.true_and, Bool.true_and]
      by_cases e : u = i
      · subst e
        rw [decide_eq_true rfl, (wr_iff hv hu).mpr ⟨0, rfl⟩]
        rfl
      · rw [decide_eq_false e, Bool.false_or, Bool.eq_iff_iff, Bool.and_eq_true, Bool.and_eq_true, ld_iff hv, ld_iff hv, wr_iff hv hu, wr_iff hv hi]
        have up : ∀ {a b : Nat}, a ≠ b → ((∃ k, wk r (k + 1) a b) ↔ ∃ k, wk r k a b) := fun {a b} hab => ⟨fun ⟨k, h⟩ => ⟨k + 1, h⟩, fun ⟨k, h⟩ => by
          cases k with
          | zero => exact absurd h hab
          | succ k => exact ⟨k, h⟩⟩
        rw [up e, up (Ne.symm e)]
    · rw [decide_eq_false hi, decide_eq_false (by omega : ¬ u = i)]
      rfl
