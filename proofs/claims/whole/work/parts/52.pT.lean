/-! PURE T: one entry of a manual changed -/
def upr (r : Nat → Nat) (j v : Nat) : Nat → Nat := fun x => if x = j then v else r x
theorem upr_at (r : Nat → Nat) (j v : Nat) : upr r j v j = v := if_pos rfl
theorem upr_ne (r : Nat → Nat) {j x : Nat} (v : Nat) (h : x ≠ j) : upr r j v x = r x := if_neg h
theorem upr_id (r : Nat → Nat) (j : Nat) : upr r j (r j) = r := by
  funext x
  unfold upr
  split
  · rename_i h; rw [h]
  · rfl
section
variable {r : Nat → Nat} {n : Int32} {L U H O B : Nat → Int32}
theorem CM_L (hc : CM r n L U H O B) {s v : Nat} (hs : s < 10) : CM (upr r (1 + s) v) n (upd L s (nI v)) U H O B := by
  obtain ⟨g0, g1, g2, g3, g4, g5⟩ := hc
  refine ⟨?_, ?_, ?_, ?_, ?_, ?_⟩
  · rw [upr_ne _ _ (by omega)]; exact g0
  · intro x hx
    by_cases e : x = s
    · subst e; rw [upd_at, upr_at]
    · rw [upd_ne _ _ e, upr_ne _ _ (by omega)]; exact g1 x hx
  · intro x hx; rw [upr_ne _ _ (by omega)]; exact g2 x hx
  · intro x hx; rw [upr_ne _ _ (by omega)]; exact g3 x hx
  · intro x hx; rw [upr_ne _ _ (by omega)]; exact g4 x hx
  · intro x hx; rw [upr_ne _ _ (by omega)]; exact g5 x hx
theorem CM_U (hc : CM r n L U H O B) {s v : Nat} (hs : s < 10) : CM (upr r (23 + s) v) n L (upd U s (nI v)) H O B := by
  obtain ⟨g0, g1, g2, g3, g4, g5⟩ := hc
  refine ⟨?_, ?_, ?_, ?_, ?_, ?_⟩
  · rw [upr_ne _ _ (by omega)]; exact g0
  · intro x hx; rw [upr_ne _ _ (by omega)]; exact g1 x hx
  · intro x hx
    by_cases e : x = s
    · subst e; rw [upd_at, upr_at]
    · rw [upd_ne _ _ e, upr_ne _ _ (by omega)]; exact g2 x hx
  · intro x hx; rw [upr_ne _ _ (by omega)]; exact g3 x hx
  · intro x hx; rw [upr_ne _ _ (by omega)]; exact g4 x hx
  · intro x hx; rw [upr_ne _ _ (by omega)]; exact g5 x hx
theorem CM_H (hc : CM r n L U H O B) {t v : Nat} (ht : t < 12) : CM (upr r (11 + t) v) n L U (upd H t (hI v)) O B := by
  obtain ⟨g0, g1, g2, g3, g4, g5⟩ := hc
  refine ⟨?_, ?_, ?_, ?_, ?_, ?_⟩
  · rw [upr_ne _ _ (by omega)]; exact g0
  · intro x hx; rw [upr_ne _ _ (by omega)]; exact g1 x hx
  · intro x hx; rw [upr_ne _ _ (by omega)]; exact g2 x hx
  · intro x hx
    by_cases e : x = t
    · subst e; rw [upd_at, upr_at]
    · rw [upd_ne _ _ e, upr_ne _ _ (by omega)]; exact g3 x hx
  · intro x hx; rw [upr_ne _ _ (by omega)]; exact g4 x hx
  · intro x hx; rw [upr_ne _ _ (by omega)]; exact g5 x hx
theorem CM_B (hc : CM r n L U H O B) {s v : Nat} (hs : s < 10) : CM (upr r (43 + s) v) n L U H O (upd B s (nI v)) := by
  obtain ⟨g0, g1, g2, g3, g4, g5⟩ := hc
  refine ⟨?_, ?_, ?_, ?_, ?_, ?_⟩
  · rw [upr_ne _ _ (by omega)]; exact g0
  · intro x hx; rw [upr_ne _ _ (by omega)]; exact g1 x hx
  · intro x hx; rw [upr_ne _ _ (by omega)]; exact g2 x hx
  · intro x hx; rw [upr_ne _ _ (by omega)]; exact g3 x hx
  · intro x hx; rw [upr_ne _ _ (by omega)]; exact g4 x hx
  · intro x hx
    by_cases e : x = s
    · subst e; rw [upd_at, upr_at]
    · rw [upd_ne _ _ e, upr_ne _ _ (by omega)]; exact g5 x hx
end
theorem R0_up {r : Nat → Nat} {k : Nat → Int32} (hc : R0 r k) {j v : Nat} (hj : j < 11 ∨ 23 ≤ j) : R0 (upr r j v) (upd k j (nI v)) := by
  refine ⟨fun x hx h => ?_, fun t ht => ?_⟩
  · by_cases e : x = j
    · subst e; rw [upd_at, upr_at]
    · rw [upd_ne _ _ e, upr_ne _ _ e]; exact hc.1 x hx h
  · rw [upd_ne _ _ (by omega), upr_ne _ _ (by omega)]; exact hc.2 t ht
theorem R0_H {r : Nat → Nat} {k : Nat → Int32} (hc : R0 r k) {t v : Nat} (ht : t < 12) : R0 (upr r (11 + t) v) (upd k (11 + t) (hI v)) := by
  refine ⟨fun x hx h => ?_, fun x hx => ?_⟩
  · rw [upd_ne _ _ (by omega), upr_ne _ _ (by omega)]; exact hc.1 x hx h
  · by_cases e : x = t
    · subst e; rw [upd_at, upr_at]
    · rw [upd_ne _ _ (by omega), upr_ne _ _ (by omega)]; exact hc.2 x hx
/-- all that a stored manual keeps -/
def Ok (r : Nat → Nat) : Prop := Iv r ∧ Pr r ∧ Nm r
theorem Pr_up {r : Nat → Nat} (hp : Pr r) {j v : Nat} (h0 : 1 ≤ j) (hj : j < 33) : Pr (upr r j v) := by
  intro p hp' a ha
  rw [upr_ne _ _ (by omega)] at hp'
  rw [upr_ne r v (show 33 + p ≠ j by omega), upr_ne _ _ (by omega)] at ha
  obtain ⟨q, h1, h2⟩ := hp p hp' a ha
  exact ⟨q, h1, by rw [upr_ne _ _ (by omega)]; exact h2⟩
theorem Ok_L {r : Nat → Nat} (h : Ok r) {s v : Nat} (hs : s < r 0) (h1 : 1 ≤ v) (h9 : v ≤ 9) : Ok (upr r (1 + s) v) := by
  obtain ⟨⟨g0, g1, g2, g3, g4, g5, g6⟩, hp, hn⟩ := h
  refine ⟨⟨?_, fun x hx => ?_, fun x hx => ?_, fun x hx => ?_, fun x hx => ?_, fun x y hx hy => ?_, fun x hx => ?_⟩, Pr_up hp (by omega) (by omega), fun x hx hl => ?_, fun j hj => ?_⟩
  · rw [upr_ne _ _ (by omega)]; exact g0
  · by_cases e : x = s
    · subst e; rw [upr_at]; omega
    · rw [upr_ne _ _ (by omega)]; exact g1 x hx
  · rw [upr_ne _ _ (by omega), upr_ne _ _ (by omega)]; exact g2 x hx
  · rw [upr_ne _ _ (by omega)]; exact g3 x hx
  · rw [upr_ne _ _ (by omega)] at hx ⊢; rw [upr_ne _ _ (by omega)]; exact g4 x hx
  · rw [upr_ne _ _ (by omega)] at hx hy; rw [upr_ne _ _ (by omega), upr_ne _ _ (by omega)]; exact g5 x y hx hy
  · rw [upr_ne _ _ (by omega)]; exact g6 x hx
  · rw [upr_ne _ _ (by omega)] at hx
    rw [upr_ne _ _ (by omega), upr_ne _ _ (by omega), upr_ne _ _ (by omega), upr_ne _ _ (by omega)]; exact hn.1 x hx hl
  · rw [upr_ne _ _ (by omega)]; exact hn.2 j hj
theorem Ok_U {r : Nat → Nat} (h : Ok r) {s v : Nat} (hs : s < r 0) (h1 : v < 4096) : Ok (upr r (23 + s) v) := by
  obtain ⟨⟨g0, g1, g2, g3, g4, g5, g6⟩, hp, hn⟩ := h
  refine ⟨⟨?_, fun x hx => ?_, fun x hx => ?_, fun x hx => ?_, fun x hx => ?_, fun x y hx hy => ?_, fun x hx => ?_⟩, Pr_up hp (by omega) (by omega), fun x hx hl => ?_, fun j hj => ?_⟩
  · rw [upr_ne _ _ (by omega)]; exact g0
  · rw [upr_ne _ _ (by omega)]; exact g1 x hx
  · rw [upr_ne _ _ (by omega), upr_ne _ _ (by omega)]; exact g2 x hx
  · by_cases e : x = s
    · subst e; rw [upr_at]; omega
    · rw [upr_ne _ _ (by omega)]; exact g3 x hx
  · rw [upr_ne _ _ (by omega)] at hx ⊢; rw [upr_ne _ _ (by omega)]; exact g4 x hx
  · rw [upr_ne _ _ (by omega)] at hx hy; rw [upr_ne _ _ (by omega), upr_ne _ _ (by omega)]; exact g5 x y hx hy
  · rw [upr_ne _ _ (by omega)]; exact g6 x hx
  · rw [upr_ne _ _ (by omega)] at hx
    rw [upr_ne _ _ (by omega), upr_ne _ _ (by omega), upr_ne _ _ (by omega), upr_ne _ _ (by omega)]; exact hn.1 x hx hl
  · rw [upr_ne _ _ (by omega)]; exact hn.2 j hj
theorem Ok_H {r : Nat → Nat} (h : Ok r) {t v : Nat} (ht : t < 12) (h1 : v ≤ r 0) : Ok (upr r (11 + t) v) := by
  obtain ⟨⟨g0, g1, g2, g3, g4, g5, g6⟩, hp, hn⟩ := h
  refine ⟨⟨?_, fun x hx => ?_, fun x hx => ?_, fun x hx => ?_, fun x hx => ?_, fun x y hx hy => ?_, fun x hx => ?_⟩, Pr_up hp (by omega) (by omega), fun x hx hl => ?_, fun j hj => ?_⟩
  · rw [upr_ne _ _ (by omega)]; exact g0
  · rw [upr_ne _ _ (by omega)]; exact g1 x hx
  · rw [upr_ne (x := 0) _ _ (by omega)]
    by_cases e : x = t
    · subst e; rw [upr_at]; exact h1
    · rw [upr_ne _ _ (by omega)]; exact g2 x hx
  · rw [upr_ne _ _ (by omega)]; exact g3 x hx
  · rw [upr_ne _ _ (by omega)] at hx ⊢; rw [upr_ne _ _ (by omega)]; exact g4 x hx
  · rw [upr_ne _ _ (by omega)] at hx hy; rw [upr_ne _ _ (by omega), upr_ne _ _ (by omega)]; exact g5 x y hx hy
  · rw [upr_ne _ _ (by omega)]; exact g6 x hx
  · rw [upr_ne _ _ (by omega)] at hx
    rw [upr_ne _ _ (by omega), upr_ne _ _ (by omega), upr_ne _ _ (by omega), upr_ne _ _ (by omega)]; exact hn.1 x hx hl
  · rw [upr_ne _ _ (by omega)]; exact hn.2 j hj
/-- the precedences of one section changed: each new one must already be kept -/
theorem Ok_B {r : Nat → Nat} (h : Ok r) {s v : Nat} (hs : s < r 0) (h1 : v < 1024) (h2 : ∀ a, v.testBit a = true → (r (43 + s)).testBit a = true ∨ (a < r 0 ∧ pl r a < pl r s)) : Ok (upr r (43 + s) v) := by
  have hv := h.1
  obtain ⟨⟨g0, g1, g2, g3, g4, g5, g6⟩, hp, hn⟩ := h
  refine ⟨⟨?_, fun x hx => ?_, fun x hx => ?_, fun x hx => ?_, fun x hx => ?_, fun x y hx hy => ?_, fun x hx => ?_⟩, fun p hp' a ha => ?_, fun x hx hl => ?_, fun j hj => ?_⟩
  · rw [upr_ne _ _ (by omega)]; exact g0
  · rw [upr_ne _ _ (by omega)]; exact g1 x hx
  · rw [upr_ne _ _ (by omega), upr_ne _ _ (by omega)]; exact g2 x hx
  · rw [upr_ne _ _ (by omega)]; exact g3 x hx
  · rw [upr_ne _ _ (by omega)] at hx ⊢; rw [upr_ne _ _ (by omega)]; exact g4 x hx
  · rw [upr_ne _ _ (by omega)] at hx hy; rw [upr_ne _ _ (by omega), upr_ne _ _ (by omega)]; exact g5 x y hx hy
  · by_cases e : x = s
    · subst e; rw [upr_at]; omega
    · rw [upr_ne _ _ (by omega)]; exact g6 x hx
  · rw [upr_ne _ _ (by omega)] at hp'
    rw [upr_ne r v (show 33 + p ≠ 43 + s by omega)] at ha
    have old : (r (43 + r (33 + p))).testBit a = true → ∃ q, q < p ∧ upr r (43 + s) v (33 + q) = a := fun z => by
      obtain ⟨q, w1, w2⟩ := hp p hp' a z
      exact ⟨q, w1, by rw [upr_ne _ _ (by omega)]; exact w2⟩
    by_cases e : r (33 + p) = s
    · rw [e, upr_at] at ha
      rcases h2 a ha with z | ⟨z1, z2⟩
      · exact old (by rw [e]; exact z)
      · have hpl := pl_eq hv hp'
        rw [e] at hpl
        obtain ⟨w1, w2⟩ := pl_lt hv z1
        exact ⟨pl r a, by omega, by rw [upr_ne _ _ (by omega)]; exact w2⟩
    · rw [upr_ne _ _ (by omega)] at ha
      exact old ha
  · rw [upr_ne _ _ (by omega)] at hx
    rw [upr_ne _ _ (by omega), upr_ne _ _ (by omega), upr_ne _ _ (by omega), upr_ne _ _ (by omega)]; exact hn.1 x hx hl
  · rw [upr_ne _ _ (by omega)]; exact hn.2 j hj
theorem Ok_setO {r f : Nat → Nat} (h : Ok r) (hf : PO r f) (hk : kpA r f = true) : Ok (setO r f) := ⟨Iv_setO h.1 hf, (Pr_setO h.1 hf).mpr hk, Nm_setO f h.1.1.2 h.2.2⟩
theorem Ok_bo {r : Nat → Nat} (h : Ok r) : Ok (setO r (bo r)) := ⟨Iv_setO h.1 (bo_PO h.1 h.2.1), bo_Pr h.1 h.2.1, Nm_setO _ h.1.1.2 h.2.2⟩
