theorem hdc_X7_next : yX7_next.cls ≠ "java/lang/invoke/MethodHandle" ∧ yX7_next.cls ≠ "java/lang/invoke/VarHandle" ∧ (parseMethodDescriptor yX7_next.desc).map (fun d => d.parameters.length) = some 0 := by decide +kernel
set_option maxHeartbeats 4000000 in
set_option maxRecDepth 100000 in
theorem c_X7_next (l : Launch) (D : va_G) (cI cZ cM : ClassId) (k0 k1 k2 k3 k4 k5 k6 k7 : Nat) (sz : Nat) (k_un : Int32) (k_len : Int32) (k_fi : Int32) (k_be : Int32) (k_to : Int32) (k_cl : Int32) (k_do : Int32) (k_ro : Nat → Int32) (k_ke : Nat → Int32) (k_te : Nat → Int32) (k_nu : Nat → Int32) (k_na : Nat → Int32) (k_no : Nat → Int32) (k_tu : Nat → Int32) (fu : Nat) (k_fi' : Int32) (k_be' : Int32) (hf : m_X7_next fu k_len k_be k_te = some (k_fi', k_be')) : Met l yX7_next wsX7_next ({ frames := 2, cells := 0, slots := 0, locals := 45 }) (pM D cI cZ cM sz [(k0, .inr (7, [.ref k1, .int k_un, .ref k2, .ref k3, .int k_len, .int k_fi, .int k_be, .int k_to, .int k_cl, .int k_do, .ref k4, .ref k5, .ref k6, .ref k7])), (k1, .inl (cI, 583, .inl k_ro)), (k2, .inl (cZ, 2, .inl k_ke)), (k3, .inl (cI, 200, .inl k_te)), (k4, .inl (cI, 10, .inl k_nu)), (k5, .inl (cI, 48, .inl k_na)), (k6, .inl (cI, 1024, .inl k_no)), (k7, .inl (cI, 1024, .inl k_tu))] [.ref k0]) (qV D [(k0, .inr (7, [.ref k1, .int k_un, .ref k2, .ref k3, .int k_len, .int k_fi', .int k_be', .int k_to, .int k_cl, .int k_do, .ref k4, .ref k5, .ref k6, .ref k7])), (k1, .inl (cI, 583, .inl k_ro)), (k2, .inl (cZ, 2, .inl k_ke)), (k3, .inl (cI, 200, .inl k_te)), (k4, .inl (cI, 10, .inl k_nu)), (k5, .inl (cI, 48, .inl k_na)), (k6, .inl (cI, 1024, .inl k_no)), (k7, .inl (cI, 1024, .inl k_tu))] (va_A [(k0, .inr (7, [.ref k1, .int k_un, .ref k2, .ref k3, .int k_len, .int k_fi, .int k_be, .int k_to, .int k_cl, .int k_do, .ref k4, .ref k5, .ref k6, .ref k7])), (k1, .inl (cI, 583, .inl k_ro)), (k2, .inl (cZ, 2, .inl k_ke)), (k3, .inl (cI, 200, .inl k_te)), (k4, .inl (cI, 10, .inl k_nu)), (k5, .inl (cI, 48, .inl k_na)), (k6, .inl (cI, 1024, .inl k_no)), (k7, .inl (cI, 1024, .inl k_tu))] sz)) 0 0 (va_A [(k0, .inr (7, [.ref k1, .int k_un, .ref k2, .ref k3, .int k_len, .int k_fi, .int k_be, .int k_to, .int k_cl, .int k_do, .ref k4, .ref k5, .ref k6, .ref k7])), (k1, .inl (cI, 583, .inl k_ro)), (k2, .inl (cZ, 2, .inl k_ke)), (k3, .inl (cI, 200, .inl k_te)), (k4, .inl (cI, 10, .inl k_nu)), (k5, .inl (cI, 48, .inl k_na)), (k6, .inl (cI, 1024, .inl k_no)), (k7, .inl (cI, 1024, .inl k_tu))] sz) := by
  refine Met.ofW (cc := cX7_next) (maxL := 3) (ret := none) (by decide) rfl ?_
  intro p e s m args below meth c s₁ B hml hv
  obtain ⟨rfl, hsz, hP, hK, hD0⟩ := hv
  have hx := B.exec
  have hb := B.bytes
  have hr := B.returns
  have hts := atoms_spec (ws := wsX7_next) B.pre
  have hown : s.vm.findClass RX7 = some m.cls := findClass_of_methodNamed B.named
  have hlocks := B.notSynchronized
  subst hsz
  have hD := hD0.self (sz := s.heap.size)
  generalize hAe : va_A [(k0, .inr (7, [.ref k1, .int k_un, .ref k2, .ref k3, .int k_len, .int k_fi, .int k_be, .int k_to, .int k_cl, .int k_do, .ref k4, .ref k5, .ref k6, .ref k7])), (k1, .inl (cI, 583, .inl k_ro)), (k2, .inl (cZ, 2, .inl k_ke)), (k3, .inl (cI, 200, .inl k_te)), (k4, .inl (cI, 10, .inl k_nu)), (k5, .inl (cI, 48, .inl k_na)), (k6, .inl (cI, 1024, .inl k_no)), (k7, .inl (cI, 1024, .inl k_tu))] s.heap.size = A at hD ⊢
  have hA : ∀ q : Nat, s.heap.size ≤ q → A q := fun q h => by rw [← hAe]; exact Or.inr h
  clear hAe hD0
  have hfl_17 := hts (.fieldLink RX7 17 "TermsFirstModel" "text" "[I") (List.mem_cons_of_mem _ (List.mem_append_left _ (List.mem_of_getElem? (i := 3) rfl)))
  have hfl_44 := hts (.fieldLink RX7 44 "TermsFirstModel" "length" "I") (List.mem_cons_of_mem _ (List.mem_append_left _ (List.mem_of_getElem? (i := 2) rfl)))
  have hfl_56 := hts (.fieldLink RX7 56 "TermsFirstModel" "behind" "I") (List.mem_cons_of_mem _ (List.mem_append_left _ (List.mem_of_getElem? (i := 0) rfl)))
  have hfl_59 := hts (.fieldLink RX7 59 "TermsFirstModel" "first" "I") (List.mem_cons_of_mem _ (List.mem_append_left _ (List.mem_of_getElem? (i := 1) rfl)))
  have hiX7 : ∀ w ∈ u_ws RX7 TX7 14, w ∈ wsX7_next := fun _ h => (List.mem_cons_of_mem _ (List.mem_append_right _ h))
  have hB_187 : ∀ (x1 : Int32) (x2 : Int32) (k_fi : Int32) (k_be : Int32) (kt138 : Int32 → Option (Int32 × Int32)) (hkt138 : ∀ (k_be : Int32), kt138 k_be = some (k_fi', k_be') → ∀ (H : Heap) (locs : List Loc), va_P D vwCl [(k0, .inr (7, [.ref k1, .int k_un, .ref k2, .ref k3, .int k_len, .int k_fi, .int k_be, .int k_to, .int k_cl, .int k_do, .ref k4, .ref k5, .ref k6, .ref k7])), (k1, .inl (cI, 583, .inl k_ro)), (k2, .inl (cZ, 2, .inl k_ke)), (k3, .inl (cI, 200, .inl k_te)), (k4, .inl (cI, 10, .inl k_nu)), (k5, .inl (cI, 48, .inl k_na)), (k6, .inl (cI, 1024, .inl k_no)), (k7, .inl (cI, 1024, .inl k_tu))] H → va_D A [(k0, .inr (7, [.ref k1, .int k_un, .ref k2, .ref k3, .int k_len, .int k_fi, .int k_be, .int k_to, .int k_cl, .int k_do, .ref k4, .ref k5, .ref k6, .ref k7])), (k1, .inl (cI, 583, .inl k_ro)), (k2, .inl (cZ, 2, .inl k_ke)), (k3, .inl (cI, 200, .inl k_te)), (k4, .inl (cI, 10, .inl k_nu)), (k5, .inl (cI, 48, .inl k_na)), (k6, .inl (cI, 1024, .inl k_no)), (k7, .inl (cI, 1024, .inl k_tu))] → va_S A s.heap H locs → ∀ ls : Array Slot, lv_has ls 3 [(0, .ref k0), (1, .int x1), (2, .int x2)] → W p l e (headSpec wsX7_next { frames := 2, cells := 0, slots := 0, locals := 45 }).room s m ([.ref k0] : List Value).toArray below meth c H locs 0 0 (MQ below (qV D [(k0, .inr (7, [.ref k1, .int k_un, .ref k2, .ref k3, .int k_len, .int k_fi', .int k_be', .int k_to, .int k_cl, .int k_do, .ref k4, .ref k5, .ref k6, .ref k7])), (k1, .inl (cI, 583, .inl k_ro)), (k2, .inl (cZ, 2, .inl k_ke)), (k3, .inl (cI, 200, .inl k_te)), (k4, .inl (cI, 10, .inl k_nu)), (k5, .inl (cI, 48, .inl k_na)), (k6, .inl (cI, 1024, .inl k_no)), (k7, .inl (cI, 1024, .inl k_tu))] A) ([.ref k0] : List Value).toArray s 0 0 A) (F0 m 138 ls [])), m_X7_next_187 k_be kt138 = some (k_fi', k_be') → ∀ (H : Heap) (locs : List Loc), va_P D vwCl [(k0, .inr (7, [.ref k1, .int k_un, .ref k2, .ref k3, .int k_len, .int k_fi, .int k_be, .int k_to, .int k_cl, .int k_do, .ref k4, .ref k5, .ref k6, .ref k7])), (k1, .inl (cI, 583, .inl k_ro)), (k2, .inl (cZ, 2, .inl k_ke)), (k3, .inl (cI, 200, .inl k_te)), (k4, .inl (cI, 10, .inl k_nu)), (k5, .inl (cI, 48, .inl k_na)), (k6, .inl (cI, 1024, .inl k_no)), (k7, .inl (cI, 1024, .inl k_tu))] H → va_D A [(k0, .inr (7, [.ref k1, .int k_un, .ref k2, .ref k3, .int k_len, .int k_fi, .int k_be, .int k_to, .int k_cl, .int k_do, .ref k4, .ref k5, .ref k6, .ref k7])), (k1, .inl (cI, 583, .inl k_ro)), (k2, .inl (cZ, 2, .inl k_ke)), (k3, .inl (cI, 200, .inl k_te)), (k4, .inl (cI, 10, .inl k_nu)), (k5, .inl (cI, 48, .inl k_na)), (k6, .inl (cI, 1024, .inl k_no)), (k7, .inl (cI, 1024, .inl k_tu))] → va_S A s.heap H locs → ∀ ls : Array Slot, lv_has ls 3 [(0, .ref k0), (1, .int x1), (2, .int x2)] → W p l e (headSpec wsX7_next { frames := 2, cells := 0, slots := 0, locals := 45 }).room s m ([.ref k0] : List Value).toArray below meth c H locs 0 0 (MQ below (qV D [(k0, .inr (7, [.ref k1, .int k_un, .ref k2, .ref k3, .int k_len, .int k_fi', .int k_be', .int k_to, .int k_cl, .int k_do, .ref k4, .ref k5, .ref k6, .ref k7])), (k1, .inl (cI, 583, .inl k_ro)), (k2, .inl (cZ, 2, .inl k_ke)), (k3, .inl (cI, 200, .inl k_te)), (k4, .inl (cI, 10, .inl k_nu)), (k5, .inl (cI, 48, .inl k_na)), (k6, .inl (cI, 1024, .inl k_no)), (k7, .inl (cI, 1024, .inl k_tu))] A) ([.ref k0] : List Value).toArray s 0 0 A) (F0 m 187 ls []) := by
    intro x1 x2 k_fi k_be kt138 hkt138 hf H locs hP hD hS ls hl
    unfold m_X7_next_187 at hf
    refine lv_aload_n hx hb dX7_next_187 rfl (lv_at hl 0 rfl) ?_
    refine lv_dup hx hb dX7_next_188 rfl ?_
    refine va_get (D := D) (ci := 7) (v := .int k_be) (C := RX7) (T := TX7) (N := 14) hx hb hts hiX7 hown hK.1 hP 0 rfl rfl 6 (by decide) hfl_56 (fun _ h9 => h9) rfl dX7_next_189 ?_
    refine lv_iconst (v := (nI 1)) hx hb dX7_next_192 ic_1 ?_
    refine lv_iadd hx hb dX7_next_193 ?_
    refine va_put (D := D) (ci := 7) (v := .int (k_be + (nI 1))) (ty := .int) (C := RX7) (T := TX7) (N := 14) hx hb hts hiX7 tyX7 tyX7_ok nmX7 hown hK.1 hP hD hS 0 rfl rfl 6 (by decide) hfl_56 (fun _ h9 => h9) rfl (tyX7_ok 6 (by decide)) rfl rfl (Nat.le_of_ble_eq_true rfl) dX7_next_194 (fun H locs hP hD hS => ?_)
    have hP : va_P D vwCl [(k0, .inr (7, [.ref k1, .int k_un, .ref k2, .ref k3, .int k_len, .int k_fi, .int (k_be + (nI 1)), .int k_to, .int k_cl, .int k_do, .ref k4, .ref k5, .ref k6, .ref k7])), (k1, .inl (cI, 583, .inl k_ro)), (k2, .inl (cZ, 2, .inl k_ke)), (k3, .inl (cI, 200, .inl k_te)), (k4, .inl (cI, 10, .inl k_nu)), (k5, .inl (cI, 48, .inl k_na)), (k6, .inl (cI, 1024, .inl k_no)), (k7, .inl (cI, 1024, .inl k_tu))] H := hP
    have hD : va_D A [(k0, .inr (7, [.ref k1, .int k_un, .ref k2, .ref k3, .int k_len, .int k_fi, .int (k_be + (nI 1)), .int k_to, .int k_cl, .int k_do, .ref k4, .ref k5, .ref k6, .ref k7])), (k1, .inl (cI, 583, .inl k_ro)), (k2, .inl (cZ, 2, .inl k_ke)), (k3, .inl (cI, 200, .inl k_te)), (k4, .inl (cI, 10, .inl k_nu)), (k5, .inl (cI, 48, .inl k_na)), (k6, .inl (cI, 1024, .inl k_no)), (k7, .inl (cI, 1024, .inl k_tu))] := hD
    refine lv_goto (tgt := 138) hx hb dX7_next_197 (by decide) ?_
    exact hkt138 (k_be + (nI 1)) hf _ _ hP hD hS ls hl
  have hB_168 : ∀ (x1 : Int32) (x2 : Int32) (k_fi : Int32) (k_be : Int32) (kt138 : Int32 → Option (Int32 × Int32)) (hkt138 : ∀ (k_be : Int32), kt138 k_be = some (k_fi', k_be') → ∀ (H : Heap) (locs : List Loc), va_P D vwCl [(k0, .inr (7, [.ref k1, .int k_un, .ref k2, .ref k3, .int k_len, .int k_fi, .int k_be, .int k_to, .int k_cl, .int k_do, .ref k4, .ref k5, .ref k6, .ref k7])), (k1, .inl (cI, 583, .inl k_ro)), (k2, .inl (cZ, 2, .inl k_ke)), (k3, .inl (cI, 200, .inl k_te)), (k4, .inl (cI, 10, .inl k_nu)), (k5, .inl (cI, 48, .inl k_na)), (k6, .inl (cI, 1024, .inl k_no)), (k7, .inl (cI, 1024, .inl k_tu))] H → va_D A [(k0, .inr (7, [.ref k1, .int k_un, .ref k2, .ref k3, .int k_len, .int k_fi, .int k_be, .int k_to, .int k_cl, .int k_do, .ref k4, .ref k5, .ref k6, .ref k7])), (k1, .inl (cI, 583, .inl k_ro)), (k2, .inl (cZ, 2, .inl k_ke)), (k3, .inl (cI, 200, .inl k_te)), (k4, .inl (cI, 10, .inl k_nu)), (k5, .inl (cI, 48, .inl k_na)), (k6, .inl (cI, 1024, .inl k_no)), (k7, .inl (cI, 1024, .inl k_tu))] → va_S A s.heap H locs → ∀ ls : Array Slot, lv_has ls 3 [(0, .ref k0), (1, .int x1), (2, .int x2)] → W p l e (headSpec wsX7_next { frames := 2, cells := 0, slots := 0, locals := 45 }).room s m ([.ref k0] : List Value).toArray below meth c H locs 0 0 (MQ below (qV D [(k0, .inr (7, [.ref k1, .int k_un, .ref k2, .ref k3, .int k_len, .int k_fi', .int k_be', .int k_to, .int k_cl, .int k_do, .ref k4, .ref k5, .ref k6, .ref k7])), (k1, .inl (cI, 583, .inl k_ro)), (k2, .inl (cZ, 2, .inl k_ke)), (k3, .inl (cI, 200, .inl k_te)), (k4, .inl (cI, 10, .inl k_nu)), (k5, .inl (cI, 48, .inl k_na)), (k6, .inl (cI, 1024, .inl k_no)), (k7, .inl (cI, 1024, .inl k_tu))] A) ([.ref k0] : List Value).toArray s 0 0 A) (F0 m 138 ls [])), m_X7_next_168 k_fi k_be k_te x2 kt138 = some (k_fi', k_be') → ∀ (H : Heap) (locs : List Loc), va_P D vwCl [(k0, .inr (7, [.ref k1, .int k_un, .ref k2, .ref k3, .int k_len, .int k_fi, .int k_be, .int k_to, .int k_cl, .int k_do, .ref k4, .ref k5, .ref k6, .ref k7])), (k1, .inl (cI, 583, .inl k_ro)), (k2, .inl (cZ, 2, .inl k_ke)), (k3, .inl (cI, 200, .inl k_te)), (k4, .inl (cI, 10, .inl k_nu)), (k5, .inl (cI, 48, .inl k_na)), (k6, .inl (cI, 1024, .inl k_no)), (k7, .inl (cI, 1024, .inl k_tu))] H → va_D A [(k0, .inr (7, [.ref k1, .int k_un, .ref k2, .ref k3, .int k_len, .int k_fi, .int k_be, .int k_to, .int k_cl, .int k_do, .ref k4, .ref k5, .ref k6, .ref k7])), (k1, .inl (cI, 583, .inl k_ro)), (k2, .inl (cZ, 2, .inl k_ke)), (k3, .inl (cI, 200, .inl k_te)), (k4, .inl (cI, 10, .inl k_nu)), (k5, .inl (cI, 48, .inl k_na)), (k6, .inl (cI, 1024, .inl k_no)), (k7, .inl (cI, 1024, .inl k_tu))] → va_S A s.heap H locs → ∀ ls : Array Slot, lv_has ls 3 [(0, .ref k0), (1, .int x1), (2, .int x2)] → W p l e (headSpec wsX7_next { frames := 2, cells := 0, slots := 0, locals := 45 }).room s m ([.ref k0] : List Value).toArray below meth c H locs 0 0 (MQ below (qV D [(k0, .inr (7, [.ref k1, .int k_un, .ref k2, .ref k3, .int k_len, .int k_fi', .int k_be', .int k_to, .int k_cl, .int k_do, .ref k4, .ref k5, .ref k6, .ref k7])), (k1, .inl (cI, 583, .inl k_ro)), (k2, .inl (cZ, 2, .inl k_ke)), (k3, .inl (cI, 200, .inl k_te)), (k4, .inl (cI, 10, .inl k_nu)), (k5, .inl (cI, 48, .inl k_na)), (k6, .inl (cI, 1024, .inl k_no)), (k7, .inl (cI, 1024, .inl k_tu))] A) ([.ref k0] : List Value).toArray s 0 0 A) (F0 m 168 ls []) := by
    intro x1 x2 k_fi k_be kt138 hkt138 hf H locs hP hD hS ls hl
    unfold m_X7_next_168 at hf
    refine lv_iload_n hx hb dX7_next_168 rfl (lv_at hl 2 rfl) ?_
    refine lv_if_eq (tgt := 200) hx hb dX7_next_169 (by decide) (fun hc => ?_) (fun hc => ?_)
    · have hf := ifp hc hf
      cases hf
      exact W.vret hx hb hr (fun t ht _ => ⟨⟨rfl, by rw [ht]; exact hP, hD⟩, hS.F ht⟩) hS.2.2 dX7_next_200
    · have hf := ifn hc hf
      refine lv_aload_n hx hb dX7_next_172 rfl (lv_at hl 0 rfl) ?_
      refine va_get (D := D) (ci := 7) (v := .ref k3) (C := RX7) (T := TX7) (N := 14) hx hb hts hiX7 hown hK.1 hP 0 rfl rfl 3 (by decide) hfl_17 (fun _ h9 => h9) rfl dX7_next_173 ?_
      refine lv_aload_n hx hb dX7_next_176 rfl (lv_at hl 0 rfl) ?_
      refine va_get (D := D) (ci := 7) (v := .int k_be) (C := RX7) (T := TX7) (N := 14) hx hb hts hiX7 hown hK.1 hP 0 rfl rfl 6 (by decide) hfl_56 (fun _ h9 => h9) rfl dX7_next_177 ?_
      obtain ⟨hi, hf⟩ := gd_some hf
      refine va_iald hx hb hK.1 hP 3 0 rfl rfl hi dX7_next_180 ?_
      obtain ⟨rv4, hrv4, hf⟩ := bd hf
      refine roI (va_runS (As := [.int (k_te k_be.toNatClampNeg)]) (rest := []) ⟨hx, hb, hml, hown, hts⟩ (c_X7_isDigit l D cI cZ cM (k_te k_be.toNatClampNeg) rv4 hrv4) (va_cwS 1 hts gX7_next_X7_isDigit rfl rfl rfl hdc_X7_isDigit ⟨Nat.le_of_ble_eq_true rfl, Nat.le_of_ble_eq_true rfl⟩) (prS hK hP [] rfl) rfl rfl hl.1 rfl (lv_room (Nat.le_of_ble_eq_true rfl)) dX7_next_181 ⟨Nat.zero_le _, Nat.zero_le _⟩) ?_
      refine lv_if_eq (tgt := 200) hx hb dX7_next_184 (by decide) (fun hc => ?_) (fun hc => ?_)
      · have hf := ifp hc hf
        cases hf
        exact W.vret hx hb hr (fun t ht _ => ⟨⟨rfl, by rw [ht]; exact hP, hD⟩, hS.F ht⟩) hS.2.2 dX7_next_200
      · have hf := ifn hc hf
        exact hB_187 x1 x2 k_fi k_be _ hkt138 hf _ _ hP hD hS ls hl
  have hB_138 : ∀ (x1 : Int32) (x2 : Int32) (k_fi : Int32) (fn : Nat) (k_be : Int32), m_X7_next_138 k_len k_fi k_te x1 x2 fn k_be = some (k_fi', k_be') → ∀ (H : Heap) (locs : List Loc), va_P D vwCl [(k0, .inr (7, [.ref k1, .int k_un, .ref k2, .ref k3, .int k_len, .int k_fi, .int k_be, .int k_to, .int k_cl, .int k_do, .ref k4, .ref k5, .ref k6, .ref k7])), (k1, .inl (cI, 583, .inl k_ro)), (k2, .inl (cZ, 2, .inl k_ke)), (k3, .inl (cI, 200, .inl k_te)), (k4, .inl (cI, 10, .inl k_nu)), (k5, .inl (cI, 48, .inl k_na)), (k6, .inl (cI, 1024, .inl k_no)), (k7, .inl (cI, 1024, .inl k_tu))] H → va_D A [(k0, .inr (7, [.ref k1, .int k_un, .ref k2, .ref k3, .int k_len, .int k_fi, .int k_be, .int k_to, .int k_cl, .int k_do, .ref k4, .ref k5, .ref k6, .ref k7])), (k1, .inl (cI, 583, .inl k_ro)), (k2, .inl (cZ, 2, .inl k_ke)), (k3, .inl (cI, 200, .inl k_te)), (k4, .inl (cI, 10, .inl k_nu)), (k5, .inl (cI, 48, .inl k_na)), (k6, .inl (cI, 1024, .inl k_no)), (k7, .inl (cI, 1024, .inl k_tu))] → va_S A s.heap H locs → ∀ ls : Array Slot, lv_has ls 3 [(0, .ref k0), (1, .int x1), (2, .int x2)] → W p l e (headSpec wsX7_next { frames := 2, cells := 0, slots := 0, locals := 45 }).room s m ([.ref k0] : List Value).toArray below meth c H locs 0 0 (MQ below (qV D [(k0, .inr (7, [.ref k1, .int k_un, .ref k2, .ref k3, .int k_len, .int k_fi', .int k_be', .int k_to, .int k_cl, .int k_do, .ref k4, .ref k5, .ref k6, .ref k7])), (k1, .inl (cI, 583, .inl k_ro)), (k2, .inl (cZ, 2, .inl k_ke)), (k3, .inl (cI, 200, .inl k_te)), (k4, .inl (cI, 10, .inl k_nu)), (k5, .inl (cI, 48, .inl k_na)), (k6, .inl (cI, 1024, .inl k_no)), (k7, .inl (cI, 1024, .inl k_tu))] A) ([.ref k0] : List Value).toArray s 0 0 A) (F0 m 138 ls []) := by
    intro x1 x2 k_fi fn
    induction fn with
    | zero => intro k_be hf; rw [m_X7_next_138] at hf; cases hf
    | succ fn ih =>
      intro k_be hf H locs hP hD hS ls hl
      rw [m_X7_next_138] at hf
      refine lv_aload_n hx hb dX7_next_138 rfl (lv_at hl 0 rfl) ?_
      refine va_get (D := D) (ci := 7) (v := .int k_be) (C := RX7) (T := TX7) (N := 14) hx hb hts hiX7 hown hK.1 hP 0 rfl rfl 6 (by decide) hfl_56 (fun _ h9 => h9) rfl dX7_next_139 ?_
      refine lv_aload_n hx hb dX7_next_142 rfl (lv_at hl 0 rfl) ?_
      refine va_get (D := D) (ci := 7) (v := .int k_len) (C := RX7) (T := TX7) (N := 14) hx hb hts hiX7 hown hK.1 hP 0 rfl rfl 4 (by decide) hfl_44 (fun _ h9 => h9) rfl dX7_next_143 ?_
      refine lv_icmp_ge (tgt := 200) hx hb dX7_next_146 (by decide) (fun hc => ?_) (fun hc => ?_)
      · have hf := ifp hc hf
        cases hf
        exact W.vret hx hb hr (fun t ht _ => ⟨⟨rfl, by rw [ht]; exact hP, hD⟩, hS.F ht⟩) hS.2.2 dX7_next_200
      · have hf := ifn hc hf
        refine lv_iload_n hx hb dX7_next_149 rfl (lv_at hl 1 rfl) ?_
        refine lv_if_eq (tgt := 168) hx hb dX7_next_150 (by decide) (fun hc => ?_) (fun hc => ?_)
        · have hf := ifp hc hf
          exact hB_168 x1 x2 k_fi k_be _ ih hf _ _ hP hD hS ls hl
        · have hf := ifn hc hf
          refine lv_aload_n hx hb dX7_next_153 rfl (lv_at hl 0 rfl) ?_
          refine va_get (D := D) (ci := 7) (v := .ref k3) (C := RX7) (T := TX7) (N := 14) hx hb hts hiX7 hown hK.1 hP 0 rfl rfl 3 (by decide) hfl_17 (fun _ h9 => h9) rfl dX7_next_154 ?_
          refine lv_aload_n hx hb dX7_next_157 rfl (lv_at hl 0 rfl) ?_
          refine va_get (D := D) (ci := 7) (v := .int k_be) (C := RX7) (T := TX7) (N := 14) hx hb hts hiX7 hown hK.1 hP 0 rfl rfl 6 (by decide) hfl_56 (fun _ h9 => h9) rfl dX7_next_158 ?_
          obtain ⟨hi, hf⟩ := gd_some hf
          refine va_iald hx hb hK.1 hP 3 0 rfl rfl hi dX7_next_161 ?_
          obtain ⟨rv3, hrv3, hf⟩ := bd hf
          refine roI (va_runS (As := [.int (k_te k_be.toNatClampNeg)]) (rest := []) ⟨hx, hb, hml, hown, hts⟩ (c_X7_isSmall l D cI cZ cM (k_te k_be.toNatClampNeg) rv3 hrv3) (va_cwS 1 hts gX7_next_X7_isSmall rfl rfl rfl hdc_X7_isSmall ⟨Nat.le_of_ble_eq_true rfl, Nat.le_of_ble_eq_true rfl⟩) (prS hK hP [] rfl) rfl rfl hl.1 rfl (lv_room (Nat.le_of_ble_eq_true rfl)) dX7_next_162 ⟨Nat.zero_le _, Nat.zero_le _⟩) ?_
          refine lv_if_ne (tgt := 187) hx hb dX7_next_165 (by decide) (fun hc => ?_) (fun hc => ?_)
          · have hf := ifn hc hf
            exact hB_187 x1 x2 k_fi k_be _ ih hf _ _ hP hD hS ls hl
          · have hf := ifp hc hf
            exact hB_168 x1 x2 k_fi k_be _ ih hf _ _ hP hD hS ls hl
  have hB_105 : ∀ (s0 : Int32) (k_fi : Int32) (k_be : Int32), m_X7_next_105 fu k_len k_fi k_be k_te s0 = some (k_fi', k_be') → ∀ (H : Heap) (locs : List Loc), va_P D vwCl [(k0, .inr (7, [.ref k1, .int k_un, .ref k2, .ref k3, .int k_len, .int k_fi, .int k_be, .int k_to, .int k_cl, .int k_do, .ref k4, .ref k5, .ref k6, .ref k7])), (k1, .inl (cI, 583, .inl k_ro)), (k2, .inl (cZ, 2, .inl k_ke)), (k3, .inl (cI, 200, .inl k_te)), (k4, .inl (cI, 10, .inl k_nu)), (k5, .inl (cI, 48, .inl k_na)), (k6, .inl (cI, 1024, .inl k_no)), (k7, .inl (cI, 1024, .inl k_tu))] H → va_D A [(k0, .inr (7, [.ref k1, .int k_un, .ref k2, .ref k3, .int k_len, .int k_fi, .int k_be, .int k_to, .int k_cl, .int k_do, .ref k4, .ref k5, .ref k6, .ref k7])), (k1, .inl (cI, 583, .inl k_ro)), (k2, .inl (cZ, 2, .inl k_ke)), (k3, .inl (cI, 200, .inl k_te)), (k4, .inl (cI, 10, .inl k_nu)), (k5, .inl (cI, 48, .inl k_na)), (k6, .inl (cI, 1024, .inl k_no)), (k7, .inl (cI, 1024, .inl k_tu))] → va_S A s.heap H locs → ∀ ls : Array Slot, lv_has ls 3 [(0, .ref k0)] → W p l e (headSpec wsX7_next { frames := 2, cells := 0, slots := 0, locals := 45 }).room s m ([.ref k0] : List Value).toArray below meth c H locs 0 0 (MQ below (qV D [(k0, .inr (7, [.ref k1, .int k_un, .ref k2, .ref k3, .int k_len, .int k_fi', .int k_be', .int k_to, .int k_cl, .int k_do, .ref k4, .ref k5, .ref k6, .ref k7])), (k1, .inl (cI, 583, .inl k_ro)), (k2, .inl (cZ, 2, .inl k_ke)), (k3, .inl (cI, 200, .inl k_te)), (k4, .inl (cI, 10, .inl k_nu)), (k5, .inl (cI, 48, .inl k_na)), (k6, .inl (cI, 1024, .inl k_no)), (k7, .inl (cI, 1024, .inl k_tu))] A) ([.ref k0] : List Value).toArray s 0 0 A) (F0 m 105 ls [.int s0]) := by
    intro s0 k_fi k_be hf H locs hP hD hS ls hl
    unfold m_X7_next_105 at hf
    refine lv_istore_n (lv' := [(1, .int s0), (0, .ref k0)]) hx hb dX7_next_105 rfl hl (by decide) rfl (fun ls hl => ?_)
    refine lv_aload_n hx hb dX7_next_106 rfl (lv_at hl 1 rfl) ?_
    refine va_get (D := D) (ci := 7) (v := .int k_fi) (C := RX7) (T := TX7) (N := 14) hx hb hts hiX7 hown hK.1 hP 0 rfl rfl 5 (by decide) hfl_59 (fun _ h9 => h9) rfl dX7_next_107 ?_
    refine lv_aload_n hx hb dX7_next_110 rfl (lv_at hl 1 rfl) ?_
    refine va_get (D := D) (ci := 7) (v := .int k_len) (C := RX7) (T := TX7) (N := 14) hx hb hts hiX7 hown hK.1 hP 0 rfl rfl 4 (by decide) hfl_44 (fun _ h9 => h9) rfl dX7_next_111 ?_
    refine lv_icmp_ge (tgt := 136) hx hb dX7_next_114 (by decide) (fun hc => ?_) (fun hc => ?_)
    · have hf := ifp hc hf
      refine lv_iconst (v := (nI 0)) hx hb dX7_next_136 ic_0 ?_
      refine lv_istore_n (lv' := [(2, .int (nI 0)), (1, .int s0), (0, .ref k0)]) hx hb dX7_next_137 rfl hl (by decide) rfl (fun ls hl => ?_)
      exact hB_138 s0 (nI 0) k_fi fu k_be hf _ _ hP hD hS ls (lv_sub hl [2, 1, 0] rfl)
    · have hf := ifn hc hf
      refine lv_aload_n hx hb dX7_next_117 rfl (lv_at hl 1 rfl) ?_
      refine va_get (D := D) (ci := 7) (v := .ref k3) (C := RX7) (T := TX7) (N := 14) hx hb hts hiX7 hown hK.1 hP 0 rfl rfl 3 (by decide) hfl_17 (fun _ h9 => h9) rfl dX7_next_118 ?_
      refine lv_aload_n hx hb dX7_next_121 rfl (lv_at hl 1 rfl) ?_
      refine va_get (D := D) (ci := 7) (v := .int k_fi) (C := RX7) (T := TX7) (N := 14) hx hb hts hiX7 hown hK.1 hP 0 rfl rfl 5 (by decide) hfl_59 (fun _ h9 => h9) rfl dX7_next_122 ?_
      obtain ⟨hi, hf⟩ := gd_some hf
      refine va_iald hx hb hK.1 hP 3 0 rfl rfl hi dX7_next_125 ?_
      obtain ⟨rv2, hrv2, hf⟩ := bd hf
      refine roI (va_runS (As := [.int (k_te k_fi.toNatClampNeg)]) (rest := []) ⟨hx, hb, hml, hown, hts⟩ (c_X7_isDigit l D cI cZ cM (k_te k_fi.toNatClampNeg) rv2 hrv2) (va_cwS 1 hts gX7_next_X7_isDigit rfl rfl rfl hdc_X7_isDigit ⟨Nat.le_of_ble_eq_true rfl, Nat.le_of_ble_eq_true rfl⟩) (prS hK hP [] rfl) rfl rfl hl.1 rfl (lv_room (Nat.le_of_ble_eq_true rfl)) dX7_next_126 ⟨Nat.zero_le _, Nat.zero_le _⟩) ?_
      refine lv_if_eq (tgt := 136) hx hb dX7_next_129 (by decide) (fun hc => ?_) (fun hc => ?_)
      · have hf := ifp hc hf
        refine lv_iconst (v := (nI 0)) hx hb dX7_next_136 ic_0 ?_
        refine lv_istore_n (lv' := [(2, .int (nI 0)), (1, .int s0), (0, .ref k0)]) hx hb dX7_next_137 rfl hl (by decide) rfl (fun ls hl => ?_)
        exact hB_138 s0 (nI 0) k_fi fu k_be hf _ _ hP hD hS ls (lv_sub hl [2, 1, 0] rfl)
      · have hf := ifn hc hf
        refine lv_iconst (v := (nI 1)) hx hb dX7_next_132 ic_1 ?_
        refine lv_goto (tgt := 137) hx hb dX7_next_133 (by decide) ?_
        refine lv_istore_n (lv' := [(2, .int (nI 1)), (1, .int s0), (0, .ref k0)]) hx hb dX7_next_137 rfl hl (by decide) rfl (fun ls hl => ?_)
        exact hB_138 s0 (nI 1) k_fi fu k_be hf _ _ hP hD hS ls (lv_sub hl [2, 1, 0] rfl)
  have hB_71 : ∀ (s1 : Int32) (k_fi : Int32), m_X7_next_71 fu k_len k_fi k_te s1 = some (k_fi', k_be') → ∀ (H : Heap) (locs : List Loc), va_P D vwCl [(k0, .inr (7, [.ref k1, .int k_un, .ref k2, .ref k3, .int k_len, .int k_fi, .int k_be, .int k_to, .int k_cl, .int k_do, .ref k4, .ref k5, .ref k6, .ref k7])), (k1, .inl (cI, 583, .inl k_ro)), (k2, .inl (cZ, 2, .inl k_ke)), (k3, .inl (cI, 200, .inl k_te)), (k4, .inl (cI, 10, .inl k_nu)), (k5, .inl (cI, 48, .inl k_na)), (k6, .inl (cI, 1024, .inl k_no)), (k7, .inl (cI, 1024, .inl k_tu))] H → va_D A [(k0, .inr (7, [.ref k1, .int k_un, .ref k2, .ref k3, .int k_len, .int k_fi, .int k_be, .int k_to, .int k_cl, .int k_do, .ref k4, .ref k5, .ref k6, .ref k7])), (k1, .inl (cI, 583, .inl k_ro)), (k2, .inl (cZ, 2, .inl k_ke)), (k3, .inl (cI, 200, .inl k_te)), (k4, .inl (cI, 10, .inl k_nu)), (k5, .inl (cI, 48, .inl k_na)), (k6, .inl (cI, 1024, .inl k_no)), (k7, .inl (cI, 1024, .inl k_tu))] → va_S A s.heap H locs → ∀ ls : Array Slot, lv_has ls 3 [(0, .ref k0)] → W p l e (headSpec wsX7_next { frames := 2, cells := 0, slots := 0, locals := 45 }).room s m ([.ref k0] : List Value).toArray below meth c H locs 0 0 (MQ below (qV D [(k0, .inr (7, [.ref k1, .int k_un, .ref k2, .ref k3, .int k_len, .int k_fi', .int k_be', .int k_to, .int k_cl, .int k_do, .ref k4, .ref k5, .ref k6, .ref k7])), (k1, .inl (cI, 583, .inl k_ro)), (k2, .inl (cZ, 2, .inl k_ke)), (k3, .inl (cI, 200, .inl k_te)), (k4, .inl (cI, 10, .inl k_nu)), (k5, .inl (cI, 48, .inl k_na)), (k6, .inl (cI, 1024, .inl k_no)), (k7, .inl (cI, 1024, .inl k_tu))] A) ([.ref k0] : List Value).toArray s 0 0 A) (F0 m 71 ls [.int s1, .ref k0]) := by
    intro s1 k_fi hf H locs hP hD hS ls hl
    unfold m_X7_next_71 at hf
    refine va_put (D := D) (ci := 7) (v := .int s1) (ty := .int) (C := RX7) (T := TX7) (N := 14) hx hb hts hiX7 tyX7 tyX7_ok nmX7 hown hK.1 hP hD hS 0 rfl rfl 6 (by decide) hfl_56 (fun _ h9 => h9) rfl (tyX7_ok 6 (by decide)) rfl rfl (Nat.le_of_ble_eq_true rfl) dX7_next_71 (fun H locs hP hD hS => ?_)
    have hP : va_P D vwCl [(k0, .inr (7, [.ref k1, .int k_un, .ref k2, .ref k3, .int k_len, .int k_fi, .int s1, .int k_to, .int k_cl, .int k_do, .ref k4, .ref k5, .ref k6, .ref k7])), (k1, .inl (cI, 583, .inl k_ro)), (k2, .inl (cZ, 2, .inl k_ke)), (k3, .inl (cI, 200, .inl k_te)), (k4, .inl (cI, 10, .inl k_nu)), (k5, .inl (cI, 48, .inl k_na)), (k6, .inl (cI, 1024, .inl k_no)), (k7, .inl (cI, 1024, .inl k_tu))] H := hP
    have hD : va_D A [(k0, .inr (7, [.ref k1, .int k_un, .ref k2, .ref k3, .int k_len, .int k_fi, .int s1, .int k_to, .int k_cl, .int k_do, .ref k4, .ref k5, .ref k6, .ref k7])), (k1, .inl (cI, 583, .inl k_ro)), (k2, .inl (cZ, 2, .inl k_ke)), (k3, .inl (cI, 200, .inl k_te)), (k4, .inl (cI, 10, .inl k_nu)), (k5, .inl (cI, 48, .inl k_na)), (k6, .inl (cI, 1024, .inl k_no)), (k7, .inl (cI, 1024, .inl k_tu))] := hD
    refine lv_aload_n hx hb dX7_next_74 rfl (lv_at hl 0 rfl) ?_
    refine va_get (D := D) (ci := 7) (v := .int k_fi) (C := RX7) (T := TX7) (N := 14) hx hb hts hiX7 hown hK.1 hP 0 rfl rfl 5 (by decide) hfl_59 (fun _ h9 => h9) rfl dX7_next_75 ?_
    refine lv_aload_n hx hb dX7_next_78 rfl (lv_at hl 0 rfl) ?_
    refine va_get (D := D) (ci := 7) (v := .int k_len) (C := RX7) (T := TX7) (N := 14) hx hb hts hiX7 hown hK.1 hP 0 rfl rfl 4 (by decide) hfl_44 (fun _ h9 => h9) rfl dX7_next_79 ?_
    refine lv_icmp_ge (tgt := 104) hx hb dX7_next_82 (by decide) (fun hc => ?_) (fun hc => ?_)
    · have hf := ifp hc hf
      refine lv_iconst (v := (nI 0)) hx hb dX7_next_104 ic_0 ?_
      exact hB_105 (nI 0) k_fi s1 hf _ _ hP hD hS ls hl
    · have hf := ifn hc hf
      refine lv_aload_n hx hb dX7_next_85 rfl (lv_at hl 0 rfl) ?_
      refine va_get (D := D) (ci := 7) (v := .ref k3) (C := RX7) (T := TX7) (N := 14) hx hb hts hiX7 hown hK.1 hP 0 rfl rfl 3 (by decide) hfl_17 (fun _ h9 => h9) rfl dX7_next_86 ?_
      refine lv_aload_n hx hb dX7_next_89 rfl (lv_at hl 0 rfl) ?_
      refine va_get (D := D) (ci := 7) (v := .int k_fi) (C := RX7) (T := TX7) (N := 14) hx hb hts hiX7 hown hK.1 hP 0 rfl rfl 5 (by decide) hfl_59 (fun _ h9 => h9) rfl dX7_next_90 ?_
      obtain ⟨hi, hf⟩ := gd_some hf
      refine va_iald hx hb hK.1 hP 3 0 rfl rfl hi dX7_next_93 ?_
      obtain ⟨rv1, hrv1, hf⟩ := bd hf
      refine roI (va_runS (As := [.int (k_te k_fi.toNatClampNeg)]) (rest := []) ⟨hx, hb, hml, hown, hts⟩ (c_X7_isSmall l D cI cZ cM (k_te k_fi.toNatClampNeg) rv1 hrv1) (va_cwS 1 hts gX7_next_X7_isSmall rfl rfl rfl hdc_X7_isSmall ⟨Nat.le_of_ble_eq_true rfl, Nat.le_of_ble_eq_true rfl⟩) (prS hK hP [] rfl) rfl rfl hl.1 rfl (lv_room (Nat.le_of_ble_eq_true rfl)) dX7_next_94 ⟨Nat.zero_le _, Nat.zero_le _⟩) ?_
      refine lv_if_eq (tgt := 104) hx hb dX7_next_97 (by decide) (fun hc => ?_) (fun hc => ?_)
      · have hf := ifp hc hf
        refine lv_iconst (v := (nI 0)) hx hb dX7_next_104 ic_0 ?_
        exact hB_105 (nI 0) k_fi s1 hf _ _ hP hD hS ls hl
      · have hf := ifn hc hf
        refine lv_iconst (v := (nI 1)) hx hb dX7_next_100 ic_1 ?_
        refine lv_goto (tgt := 105) hx hb dX7_next_101 (by decide) ?_
        exact hB_105 (nI 1) k_fi s1 hf _ _ hP hD hS ls hl
  have hB_46 : ∀ (k_fi : Int32), m_X7_next_46 fu k_len k_fi k_te = some (k_fi', k_be') → ∀ (H : Heap) (locs : List Loc), va_P D vwCl [(k0, .inr (7, [.ref k1, .int k_un, .ref k2, .ref k3, .int k_len, .int k_fi, .int k_be, .int k_to, .int k_cl, .int k_do, .ref k4, .ref k5, .ref k6, .ref k7])), (k1, .inl (cI, 583, .inl k_ro)), (k2, .inl (cZ, 2, .inl k_ke)), (k3, .inl (cI, 200, .inl k_te)), (k4, .inl (cI, 10, .inl k_nu)), (k5, .inl (cI, 48, .inl k_na)), (k6, .inl (cI, 1024, .inl k_no)), (k7, .inl (cI, 1024, .inl k_tu))] H → va_D A [(k0, .inr (7, [.ref k1, .int k_un, .ref k2, .ref k3, .int k_len, .int k_fi, .int k_be, .int k_to, .int k_cl, .int k_do, .ref k4, .ref k5, .ref k6, .ref k7])), (k1, .inl (cI, 583, .inl k_ro)), (k2, .inl (cZ, 2, .inl k_ke)), (k3, .inl (cI, 200, .inl k_te)), (k4, .inl (cI, 10, .inl k_nu)), (k5, .inl (cI, 48, .inl k_na)), (k6, .inl (cI, 1024, .inl k_no)), (k7, .inl (cI, 1024, .inl k_tu))] → va_S A s.heap H locs → ∀ ls : Array Slot, lv_has ls 3 [(0, .ref k0)] → W p l e (headSpec wsX7_next { frames := 2, cells := 0, slots := 0, locals := 45 }).room s m ([.ref k0] : List Value).toArray below meth c H locs 0 0 (MQ below (qV D [(k0, .inr (7, [.ref k1, .int k_un, .ref k2, .ref k3, .int k_len, .int k_fi', .int k_be', .int k_to, .int k_cl, .int k_do, .ref k4, .ref k5, .ref k6, .ref k7])), (k1, .inl (cI, 583, .inl k_ro)), (k2, .inl (cZ, 2, .inl k_ke)), (k3, .inl (cI, 200, .inl k_te)), (k4, .inl (cI, 10, .inl k_nu)), (k5, .inl (cI, 48, .inl k_na)), (k6, .inl (cI, 1024, .inl k_no)), (k7, .inl (cI, 1024, .inl k_tu))] A) ([.ref k0] : List Value).toArray s 0 0 A) (F0 m 46 ls []) := by
    intro k_fi hf H locs hP hD hS ls hl
    unfold m_X7_next_46 at hf
    refine lv_aload_n hx hb dX7_next_46 rfl (lv_at hl 0 rfl) ?_
    refine lv_aload_n hx hb dX7_next_47 rfl (lv_at hl 0 rfl) ?_
    refine va_get (D := D) (ci := 7) (v := .int k_fi) (C := RX7) (T := TX7) (N := 14) hx hb hts hiX7 hown hK.1 hP 0 rfl rfl 5 (by decide) hfl_59 (fun _ h9 => h9) rfl dX7_next_48 ?_
    refine lv_aload_n hx hb dX7_next_51 rfl (lv_at hl 0 rfl) ?_
    refine va_get (D := D) (ci := 7) (v := .int k_len) (C := RX7) (T := TX7) (N := 14) hx hb hts hiX7 hown hK.1 hP 0 rfl rfl 4 (by decide) hfl_44 (fun _ h9 => h9) rfl dX7_next_52 ?_
    refine lv_icmp_ge (tgt := 67) hx hb dX7_next_55 (by decide) (fun hc => ?_) (fun hc => ?_)
    · have hf := ifp hc hf
      refine lv_aload_n hx hb dX7_next_67 rfl (lv_at hl 0 rfl) ?_
      refine va_get (D := D) (ci := 7) (v := .int k_fi) (C := RX7) (T := TX7) (N := 14) hx hb hts hiX7 hown hK.1 hP 0 rfl rfl 5 (by decide) hfl_59 (fun _ h9 => h9) rfl dX7_next_68 ?_
      exact hB_71 k_fi k_fi hf _ _ hP hD hS ls hl
    · have hf := ifn hc hf
      refine lv_aload_n hx hb dX7_next_58 rfl (lv_at hl 0 rfl) ?_
      refine va_get (D := D) (ci := 7) (v := .int k_fi) (C := RX7) (T := TX7) (N := 14) hx hb hts hiX7 hown hK.1 hP 0 rfl rfl 5 (by decide) hfl_59 (fun _ h9 => h9) rfl dX7_next_59 ?_
      refine lv_iconst (v := (nI 1)) hx hb dX7_next_62 ic_1 ?_
      refine lv_iadd hx hb dX7_next_63 ?_
      refine lv_goto (tgt := 71) hx hb dX7_next_64 (by decide) ?_
      exact hB_71 (k_fi + (nI 1)) k_fi hf _ _ hP hD hS ls hl
  have hB_8 : ∀ (fn : Nat) (k_fi : Int32), m_X7_next_8 fu k_len k_te fn k_fi = some (k_fi', k_be') → ∀ (H : Heap) (locs : List Loc), va_P D vwCl [(k0, .inr (7, [.ref k1, .int k_un, .ref k2, .ref k3, .int k_len, .int k_fi, .int k_be, .int k_to, .int k_cl, .int k_do, .ref k4, .ref k5, .ref k6, .ref k7])), (k1, .inl (cI, 583, .inl k_ro)), (k2, .inl (cZ, 2, .inl k_ke)), (k3, .inl (cI, 200, .inl k_te)), (k4, .inl (cI, 10, .inl k_nu)), (k5, .inl (cI, 48, .inl k_na)), (k6, .inl (cI, 1024, .inl k_no)), (k7, .inl (cI, 1024, .inl k_tu))] H → va_D A [(k0, .inr (7, [.ref k1, .int k_un, .ref k2, .ref k3, .int k_len, .int k_fi, .int k_be, .int k_to, .int k_cl, .int k_do, .ref k4, .ref k5, .ref k6, .ref k7])), (k1, .inl (cI, 583, .inl k_ro)), (k2, .inl (cZ, 2, .inl k_ke)), (k3, .inl (cI, 200, .inl k_te)), (k4, .inl (cI, 10, .inl k_nu)), (k5, .inl (cI, 48, .inl k_na)), (k6, .inl (cI, 1024, .inl k_no)), (k7, .inl (cI, 1024, .inl k_tu))] → va_S A s.heap H locs → ∀ ls : Array Slot, lv_has ls 3 [(0, .ref k0)] → W p l e (headSpec wsX7_next { frames := 2, cells := 0, slots := 0, locals := 45 }).room s m ([.ref k0] : List Value).toArray below meth c H locs 0 0 (MQ below (qV D [(k0, .inr (7, [.ref k1, .int k_un, .ref k2, .ref k3, .int k_len, .int k_fi', .int k_be', .int k_to, .int k_cl, .int k_do, .ref k4, .ref k5, .ref k6, .ref k7])), (k1, .inl (cI, 583, .inl k_ro)), (k2, .inl (cZ, 2, .inl k_ke)), (k3, .inl (cI, 200, .inl k_te)), (k4, .inl (cI, 10, .inl k_nu)), (k5, .inl (cI, 48, .inl k_na)), (k6, .inl (cI, 1024, .inl k_no)), (k7, .inl (cI, 1024, .inl k_tu))] A) ([.ref k0] : List Value).toArray s 0 0 A) (F0 m 8 ls []) := by
    intro fn
    induction fn with
    | zero => intro k_fi hf; rw [m_X7_next_8] at hf; cases hf
    | succ fn ih =>
      intro k_fi hf H locs hP hD hS ls hl
      rw [m_X7_next_8] at hf
      refine lv_aload_n hx hb dX7_next_8 rfl (lv_at hl 0 rfl) ?_
      refine va_get (D := D) (ci := 7) (v := .int k_fi) (C := RX7) (T := TX7) (N := 14) hx hb hts hiX7 hown hK.1 hP 0 rfl rfl 5 (by decide) hfl_59 (fun _ h9 => h9) rfl dX7_next_9 ?_
      refine lv_aload_n hx hb dX7_next_12 rfl (lv_at hl 0 rfl) ?_
      refine va_get (D := D) (ci := 7) (v := .int k_len) (C := RX7) (T := TX7) (N := 14) hx hb hts hiX7 hown hK.1 hP 0 rfl rfl 4 (by decide) hfl_44 (fun _ h9 => h9) rfl dX7_next_13 ?_
      refine lv_icmp_ge (tgt := 46) hx hb dX7_next_16 (by decide) (fun hc => ?_) (fun hc => ?_)
      · have hf := ifp hc hf
        exact hB_46 k_fi hf _ _ hP hD hS ls hl
      · have hf := ifn hc hf
        refine lv_aload_n hx hb dX7_next_19 rfl (lv_at hl 0 rfl) ?_
        refine va_get (D := D) (ci := 7) (v := .ref k3) (C := RX7) (T := TX7) (N := 14) hx hb hts hiX7 hown hK.1 hP 0 rfl rfl 3 (by decide) hfl_17 (fun _ h9 => h9) rfl dX7_next_20 ?_
        refine lv_aload_n hx hb dX7_next_23 rfl (lv_at hl 0 rfl) ?_
        refine va_get (D := D) (ci := 7) (v := .int k_fi) (C := RX7) (T := TX7) (N := 14) hx hb hts hiX7 hown hK.1 hP 0 rfl rfl 5 (by decide) hfl_59 (fun _ h9 => h9) rfl dX7_next_24 ?_
        obtain ⟨hi, hf⟩ := gd_some hf
        refine va_iald hx hb hK.1 hP 3 0 rfl rfl hi dX7_next_27 ?_
        refine lv_bipush (v := (nI 32)) hx hb dX7_next_28 bp_32 ?_
        refine lv_icmp_ne (tgt := 46) hx hb dX7_next_30 (by decide) (fun hc => ?_) (fun hc => ?_)
        · have hf := ifn hc hf
          exact hB_46 k_fi hf _ _ hP hD hS ls hl
        · have hf := ifp hc hf
          refine lv_aload_n hx hb dX7_next_33 rfl (lv_at hl 0 rfl) ?_
          refine lv_dup hx hb dX7_next_34 rfl ?_
          refine va_get (D := D) (ci := 7) (v := .int k_fi) (C := RX7) (T := TX7) (N := 14) hx hb hts hiX7 hown hK.1 hP 0 rfl rfl 5 (by decide) hfl_59 (fun _ h9 => h9) rfl dX7_next_35 ?_
          refine lv_iconst (v := (nI 1)) hx hb dX7_next_38 ic_1 ?_
          refine lv_iadd hx hb dX7_next_39 ?_
          refine va_put (D := D) (ci := 7) (v := .int (k_fi + (nI 1))) (ty := .int) (C := RX7) (T := TX7) (N := 14) hx hb hts hiX7 tyX7 tyX7_ok nmX7 hown hK.1 hP hD hS 0 rfl rfl 5 (by decide) hfl_59 (fun _ h9 => h9) rfl (tyX7_ok 5 (by decide)) rfl rfl (Nat.le_of_ble_eq_true rfl) dX7_next_40 (fun H locs hP hD hS => ?_)
          have hP : va_P D vwCl [(k0, .inr (7, [.ref k1, .int k_un, .ref k2, .ref k3, .int k_len, .int (k_fi + (nI 1)), .int k_be, .int k_to, .int k_cl, .int k_do, .ref k4, .ref k5, .ref k6, .ref k7])), (k1, .inl (cI, 583, .inl k_ro)), (k2, .inl (cZ, 2, .inl k_ke)), (k3, .inl (cI, 200, .inl k_te)), (k4, .inl (cI, 10, .inl k_nu)), (k5, .inl (cI, 48, .inl k_na)), (k6, .inl (cI, 1024, .inl k_no)), (k7, .inl (cI, 1024, .inl k_tu))] H := hP
          have hD : va_D A [(k0, .inr (7, [.ref k1, .int k_un, .ref k2, .ref k3, .int k_len, .int (k_fi + (nI 1)), .int k_be, .int k_to, .int k_cl, .int k_do, .ref k4, .ref k5, .ref k6, .ref k7])), (k1, .inl (cI, 583, .inl k_ro)), (k2, .inl (cZ, 2, .inl k_ke)), (k3, .inl (cI, 200, .inl k_te)), (k4, .inl (cI, 10, .inl k_nu)), (k5, .inl (cI, 48, .inl k_na)), (k6, .inl (cI, 1024, .inl k_no)), (k7, .inl (cI, 1024, .inl k_tu))] := hD
          refine lv_goto (tgt := 8) hx hb dX7_next_43 (by decide) ?_
          exact ih (k_fi + (nI 1)) hf _ _ hP hD hS ls hl
  have hl := lv_entry ([.ref k0]) (n := 3) (Nat.le_of_ble_eq_true rfl)
  rw [lg_entry_eq]
  generalize (lg_sl ([.ref k0]) ++ List.replicate (3 - (lg_sl ([.ref k0])).length) Slot.unset).toArray = ls at hl ⊢
  have hl : lv_has ls 3 [(0, .ref k0)] := hl
  have hS : va_S A s.heap s.heap [] := va_S.rf
  unfold m_X7_next at hf
  refine lv_aload_n hx hb dX7_next_0 rfl (lv_at hl 0 rfl) ?_
  refine lv_aload_n hx hb dX7_next_1 rfl (lv_at hl 0 rfl) ?_
  refine va_get (D := D) (ci := 7) (v := .int k_be) (C := RX7) (T := TX7) (N := 14) hx hb hts hiX7 hown hK.1 hP 0 rfl rfl 6 (by decide) hfl_56 (fun _ h9 => h9) rfl dX7_next_2 ?_
  refine va_put (D := D) (ci := 7) (v := .int k_be) (ty := .int) (C := RX7) (T := TX7) (N := 14) hx hb hts hiX7 tyX7 tyX7_ok nmX7 hown hK.1 hP hD hS 0 rfl rfl 5 (by decide) hfl_59 (fun _ h9 => h9) rfl (tyX7_ok 5 (by decide)) rfl rfl (Nat.le_of_ble_eq_true rfl) dX7_next_5 (fun H locs hP hD hS => ?_)
  have hP : va_P D vwCl [(k0, .inr (7, [.ref k1, .int k_un, .ref k2, .ref k3, .int k_len, .int k_be, .int k_be, .int k_to, .int k_cl, .int k_do, .ref k4, .ref k5, .ref k6, .ref k7])), (k1, .inl (cI, 583, .inl k_ro)), (k2, .inl (cZ, 2, .inl k_ke)), (k3, .inl (cI, 200, .inl k_te)), (k4, .inl (cI, 10, .inl k_nu)), (k5, .inl (cI, 48, .inl k_na)), (k6, .inl (cI, 1024, .inl k_no)), (k7, .inl (cI, 1024, .inl k_tu))] H := hP
  have hD : va_D A [(k0, .inr (7, [.ref k1, .int k_un, .ref k2, .ref k3, .int k_len, .int k_be, .int k_be, .int k_to, .int k_cl, .int k_do, .ref k4, .ref k5, .ref k6, .ref k7])), (k1, .inl (cI, 583, .inl k_ro)), (k2, .inl (cZ, 2, .inl k_ke)), (k3, .inl (cI, 200, .inl k_te)), (k4, .inl (cI, 10, .inl k_nu)), (k5, .inl (cI, 48, .inl k_na)), (k6, .inl (cI, 1024, .inl k_no)), (k7, .inl (cI, 1024, .inl k_tu))] := hD
  exact hB_8 fu k_be hf _ _ hP hD hS ls hl
theorem hdc_X7_nameHere : yX7_nameHere.cls ≠ "java/lang/invoke/MethodHandle" ∧ yX7_nameHere.cls ≠ "java/lang/invoke/VarHandle" ∧ (parseMethodDescriptor yX7_nameHere.desc).map (fun d => d.parameters.length) = some 0 := by decide +kernel
set_option maxHeartbeats 4000000 in
set_option maxRecDepth 100000 in
theorem c_X7_nameHere (l : Launch) (D : va_G) (cI cZ cM : ClassId) (k0 k1 k2 k3 k4 k5 k6 k7 : Nat) (k_un : Int32) (k_len : Int32) (k_fi : Int32) (k_be : Int32) (k_to : Int32) (k_cl : Int32) (k_do : Int32) (k_ro : Nat → Int32) (k_ke : Nat → Int32) (k_te : Nat → Int32) (k_nu : Nat → Int32) (k_na : Nat → Int32) (k_no : Nat → Int32) (k_tu : Nat → Int32) (fu : Nat) (r : Int32) (hf : m_X7_nameHere fu k_fi k_be k_te k_na = some r) : Met l yX7_nameHere wsX7_nameHere ({ frames := 0, cells := 0, slots := 0, locals := 0 }) (pR D cI cZ cM [(k0, .inr (7, [.ref k1, .int k_un, .ref k2, .ref k3, .int k_len, .int k_fi, .int k_be, .int k_to, .int k_cl, .int k_do, .ref k4, .ref k5, .ref k6, .ref k7])), (k1, .inl (cI, 583, .inl k_ro)), (k2, .inl (cZ, 2, .inl k_ke)), (k3, .inl (cI, 200, .inl k_te)), (k4, .inl (cI, 10, .inl k_nu)), (k5, .inl (cI, 48, .inl k_na)), (k6, .inl (cI, 1024, .inl k_no)), (k7, .inl (cI, 1024, .inl k_tu))] [.ref k0]) (qR r) 0 0 (fun _ => False) := by
  refine Met.ofW (cc := cX7_nameHere) (maxL := 4) (ret := (some .int)) (by decide) rfl ?_
  intro p e s m args below meth c s₁ B hml hv
  obtain ⟨rfl, hP, hK⟩ := hv
  have hx := B.exec
  have hb := B.bytes
  have hr := B.returns
  have hts := atoms_spec (ws := wsX7_nameHere) B.pre
  have hown : s.vm.findClass RX7 = some m.cls := findClass_of_methodNamed B.named
  have hlocks := B.notSynchronized
  have hfl_17 := hts (.fieldLink RX7 17 "TermsFirstModel" "text" "[I") (List.mem_cons_of_mem _ (List.mem_append_left _ (List.mem_of_getElem? (i := 3) rfl)))
  have hfl_23 := hts (.fieldLink RX7 23 "TermsFirstModel" "names" "[I") (List.mem_cons_of_mem _ (List.mem_append_left _ (List.mem_of_getElem? (i := 2) rfl)))
  have hfl_56 := hts (.fieldLink RX7 56 "TermsFirstModel" "behind" "I") (List.mem_cons_of_mem _ (List.mem_append_left _ (List.mem_of_getElem? (i := 0) rfl)))
  have hfl_59 := hts (.fieldLink RX7 59 "TermsFirstModel" "first" "I") (List.mem_cons_of_mem _ (List.mem_append_left _ (List.mem_of_getElem? (i := 1) rfl)))
  have hiX7 : ∀ w ∈ u_ws RX7 TX7 14, w ∈ wsX7_nameHere := fun _ h => (List.mem_cons_of_mem _ (List.mem_append_right _ h))
  have hB_105 : ∀ (x1 : Int32) (x2 : Int32) (kt2 : Int32 → Option (Int32)) (hkt2 : ∀ (x1 : Int32), kt2 x1 = some r → ∀ ls : Array Slot, lv_has ls 4 [(0, .ref k0), (1, .int x1)] → W p l e (headSpec wsX7_nameHere { frames := 0, cells := 0, slots := 0, locals := 0 }).room s m ([.ref k0] : List Value).toArray below meth c s.heap [] 0 0 (MQ below (qR r) ([.ref k0] : List Value).toArray s 0 0 (fun _ => False)) (F0 m 2 ls [])), m_X7_nameHere_105 x1 x2 kt2 = some r → ∀ ls : Array Slot, lv_has ls 4 [(0, .ref k0), (1, .int x1), (2, .int x2)] → W p l e (headSpec wsX7_nameHere { frames := 0, cells := 0, slots := 0, locals := 0 }).room s m ([.ref k0] : List Value).toArray below meth c s.heap [] 0 0 (MQ below (qR r) ([.ref k0] : List Value).toArray s 0 0 (fun _ => False)) (F0 m 105 ls []) := by
    intro x1 x2 kt2 hkt2 hf ls hl
    unfold m_X7_nameHere_105 at hf
    refine lv_iload_n hx hb dX7_nameHere_105 rfl (lv_at hl 2 rfl) ?_
    refine lv_if_eq (tgt := 111) hx hb dX7_nameHere_106 (by decide) (fun hc => ?_) (fun hc => ?_)
    · have hf := ifp hc hf
      refine lv_iinc (v := (x1 + (nI 1))) (lv' := [(1, .int (x1 + (nI 1))), (0, .ref k0), (2, .int x2)]) hx hb dX7_nameHere_111 hl (k := 1) rfl (ii_1 _) (by decide) rfl (fun ls hl => ?_)
      refine lv_goto (tgt := 2) hx hb dX7_nameHere_114 (by decide) ?_
      exact hkt2 (x1 + (nI 1)) hf  ls (lv_sub hl [1, 0] rfl)
    · have hf := ifn hc hf
      refine lv_iload_n hx hb dX7_nameHere_109 rfl (lv_at hl 1 rfl) ?_
      cases hf
      exact W.iret hx hb hr (fun t ht _ => ⟨rfl, ht⟩) (fun _ h => nomatch h) dX7_nameHere_110
  have hB_90 : ∀ (x1 : Int32) (x3 : Int32) (s1 : Int32) (s0 : Int32) (kt41 : Int32 → Int32 → Option (Int32)) (hkt41 : ∀ (x2 : Int32) (x3 : Int32), kt41 x2 x3 = some r → ∀ ls : Array Slot, lv_has ls 4 [(0, .ref k0), (1, .int x1), (2, .int x2), (3, .int x3)] → W p l e (headSpec wsX7_nameHere { frames := 0, cells := 0, slots := 0, locals := 0 }).room s m ([.ref k0] : List Value).toArray below meth c s.heap [] 0 0 (MQ below (qR r) ([.ref k0] : List Value).toArray s 0 0 (fun _ => False)) (F0 m 41 ls [])), m_X7_nameHere_90 s0 s1 x3 kt41 = some r → ∀ ls : Array Slot, lv_has ls 4 [(0, .ref k0), (1, .int x1), (3, .int x3)] → W p l e (headSpec wsX7_nameHere { frames := 0, cells := 0, slots := 0, locals := 0 }).room s m ([.ref k0] : List Value).toArray below meth c s.heap [] 0 0 (MQ below (qR r) ([.ref k0] : List Value).toArray s 0 0 (fun _ => False)) (F0 m 90 ls [.int s1, .int s0]) := by
    intro x1 x3 s1 s0 kt41 hkt41 hf ls hl
    unfold m_X7_nameHere_90 at hf
    refine lv_icmp_ne (tgt := 97) hx hb dX7_nameHere_90 (by decide) (fun hc => ?_) (fun hc => ?_)
    · have hf := ifn hc hf
      refine lv_iconst (v := (nI 0)) hx hb dX7_nameHere_97 ic_0 ?_
      refine lv_istore_n (lv' := [(2, .int (nI 0)), (0, .ref k0), (1, .int x1), (3, .int x3)]) hx hb dX7_nameHere_98 rfl hl (by decide) rfl (fun ls hl => ?_)
      refine lv_iinc (v := (x3 + (nI 1))) (lv' := [(3, .int (x3 + (nI 1))), (2, .int (nI 0)), (0, .ref k0), (1, .int x1)]) hx hb dX7_nameHere_99 hl (k := 3) rfl (ii_1 _) (by decide) rfl (fun ls hl => ?_)
      refine lv_goto (tgt := 41) hx hb dX7_nameHere_102 (by decide) ?_
      exact hkt41 (nI 0) (x3 + (nI 1)) hf  ls (lv_sub hl [2, 3, 1, 0] rfl)
    · have hf := ifp hc hf
      refine lv_iconst (v := (nI 1)) hx hb dX7_nameHere_93 ic_1 ?_
      refine lv_goto (tgt := 98) hx hb dX7_nameHere_94 (by decide) ?_
      refine lv_istore_n (lv' := [(2, .int (nI 1)), (0, .ref k0), (1, .int x1), (3, .int x3)]) hx hb dX7_nameHere_98 rfl hl (by decide) rfl (fun ls hl => ?_)
      refine lv_iinc (v := (x3 + (nI 1))) (lv' := [(3, .int (x3 + (nI 1))), (2, .int (nI 1)), (0, .ref k0), (1, .int x1)]) hx hb dX7_nameHere_99 hl (k := 3) rfl (ii_1 _) (by decide) rfl (fun ls hl => ?_)
      refine lv_goto (tgt := 41) hx hb dX7_nameHere_102 (by decide) ?_
      exact hkt41 (nI 1) (x3 + (nI 1)) hf  ls (lv_sub hl [2, 3, 1, 0] rfl)
  have hB_41 : ∀ (x1 : Int32) (kt2 : Int32 → Option (Int32)) (hkt2 : ∀ (x1 : Int32), kt2 x1 = some r → ∀ ls : Array Slot, lv_has ls 4 [(0, .ref k0), (1, .int x1)] → W p l e (headSpec wsX7_nameHere { frames := 0, cells := 0, slots := 0, locals := 0 }).room s m ([.ref k0] : List Value).toArray below meth c s.heap [] 0 0 (MQ below (qR r) ([.ref k0] : List Value).toArray s 0 0 (fun _ => False)) (F0 m 2 ls [])) (fn : Nat) (x2 : Int32) (x3 : Int32), m_X7_nameHere_41 k_fi k_be k_te k_na x1 kt2 fn x2 x3 = some r → ∀ ls : Array Slot, lv_has ls 4 [(0, .ref k0), (1, .int x1), (2, .int x2), (3, .int x3)] → W p l e (headSpec wsX7_nameHere { frames := 0, cells := 0, slots := 0, locals := 0 }).room s m ([.ref k0] : List Value).toArray below meth c s.heap [] 0 0 (MQ below (qR r) ([.ref k0] : List Value).toArray s 0 0 (fun _ => False)) (F0 m 41 ls []) := by
    intro x1 kt2 hkt2 fn
    induction fn with
    | zero => intro x2 x3 hf; rw [m_X7_nameHere_41] at hf; cases hf
    | succ fn ih =>
      intro x2 x3 hf ls hl
      rw [m_X7_nameHere_41] at hf
      refine lv_iload_n hx hb dX7_nameHere_41 rfl (lv_at hl 3 rfl) ?_
      refine lv_bipush (v := (nI 8)) hx hb dX7_nameHere_42 bp_8 ?_
      refine lv_icmp_ge (tgt := 105) hx hb dX7_nameHere_44 (by decide) (fun hc => ?_) (fun hc => ?_)
      · have hf := ifp hc hf
        exact hB_105 x1 x2 _ hkt2 hf  ls (lv_sub hl [0, 1, 2] rfl)
      · have hf := ifn hc hf
        refine lv_iload_n hx hb dX7_nameHere_47 rfl (lv_at hl 2 rfl) ?_
        refine lv_if_eq (tgt := 105) hx hb dX7_nameHere_48 (by decide) (fun hc => ?_) (fun hc => ?_)
        · have hf := ifp hc hf
          exact hB_105 x1 x2 _ hkt2 hf  ls (lv_sub hl [0, 1, 2] rfl)
        · have hf := ifn hc hf
          refine lv_aload_n hx hb dX7_nameHere_51 rfl (lv_at hl 0 rfl) ?_
          refine va_get (D := D) (ci := 7) (v := .ref k5) (C := RX7) (T := TX7) (N := 14) hx hb hts hiX7 hown hK.1 hP 0 rfl rfl 11 (by decide) hfl_23 (fun _ h9 => h9) rfl dX7_nameHere_52 ?_
          refine lv_bipush (v := (nI 8)) hx hb dX7_nameHere_55 bp_8 ?_
          refine lv_iload_n hx hb dX7_nameHere_57 rfl (lv_at hl 1 rfl) ?_
          refine lv_imul hx hb dX7_nameHere_58 ?_
          refine lv_iload_n hx hb dX7_nameHere_59 rfl (lv_at hl 3 rfl) ?_
          refine lv_iadd hx hb dX7_nameHere_60 ?_
          obtain ⟨hi, hf⟩ := gd_some hf
          refine va_iald hx hb hK.1 hP 5 0 rfl rfl hi dX7_nameHere_61 ?_
          refine lv_aload_n hx hb dX7_nameHere_62 rfl (lv_at hl 0 rfl) ?_
          refine va_get (D := D) (ci := 7) (v := .int k_fi) (C := RX7) (T := TX7) (N := 14) hx hb hts hiX7 hown hK.1 hP 0 rfl rfl 5 (by decide) hfl_59 (fun _ h9 => h9) rfl dX7_nameHere_63 ?_
          refine lv_iload_n hx hb dX7_nameHere_66 rfl (lv_at hl 3 rfl) ?_
          refine lv_iadd hx hb dX7_nameHere_67 ?_
          refine lv_aload_n hx hb dX7_nameHere_68 rfl (lv_at hl 0 rfl) ?_
          refine va_get (D := D) (ci := 7) (v := .int k_be) (C := RX7) (T := TX7) (N := 14) hx hb hts hiX7 hown hK.1 hP 0 rfl rfl 6 (by decide) hfl_56 (fun _ h9 => h9) rfl dX7_nameHere_69 ?_
          refine lv_icmp_ge (tgt := 89) hx hb dX7_nameHere_72 (by decide) (fun hc => ?_) (fun hc => ?_)
          · have hf := ifp hc hf
            refine lv_iconst (v := (nI 0)) hx hb dX7_nameHere_89 ic_0 ?_
            exact hB_90 x1 x3 (nI 0) (k_na (((nI 8) * x1) + x3).toNatClampNeg) _ ih hf  ls (lv_sub hl [0, 1, 3] rfl)
          · have hf := ifn hc hf
            refine lv_aload_n hx hb dX7_nameHere_75 rfl (lv_at hl 0 rfl) ?_
            refine va_get (D := D) (ci := 7) (v := .ref k3) (C := RX7) (T := TX7) (N := 14) hx hb hts hiX7 hown hK.1 hP 0 rfl rfl 3 (by decide) hfl_17 (fun _ h9 => h9) rfl dX7_nameHere_76 ?_
            refine lv_aload_n hx hb dX7_nameHere_79 rfl (lv_at hl 0 rfl) ?_
            refine va_get (D := D) (ci := 7) (v := .int k_fi) (C := RX7) (T := TX7) (N := 14) hx hb hts hiX7 hown hK.1 hP 0 rfl rfl 5 (by decide) hfl_59 (fun _ h9 => h9) rfl dX7_nameHere_80 ?_
            refine lv_iload_n hx hb dX7_nameHere_83 rfl (lv_at hl 3 rfl) ?_
            refine lv_iadd hx hb dX7_nameHere_84 ?_
            obtain ⟨hi, hf⟩ := gd_some hf
            refine va_iald hx hb hK.1 hP 3 0 rfl rfl hi dX7_nameHere_85 ?_
            refine lv_goto (tgt := 90) hx hb dX7_nameHere_86 (by decide) ?_
            exact hB_90 x1 x3 (k_te (k_fi + x3).toNatClampNeg) (k_na (((nI 8) * x1) + x3).toNatClampNeg) _ ih hf  ls (lv_sub hl [0, 1, 3] rfl)
  have hB_2 : ∀ (fn : Nat) (x1 : Int32), m_X7_nameHere_2 fu k_fi k_be k_te k_na fn x1 = some r → ∀ ls : Array Slot, lv_has ls 4 [(0, .ref k0), (1, .int x1)] → W p l e (headSpec wsX7_nameHere { frames := 0, cells := 0, slots := 0, locals := 0 }).room s m ([.ref k0] : List Value).toArray below meth c s.heap [] 0 0 (MQ below (qR r) ([.ref k0] : List Value).toArray s 0 0 (fun _ => False)) (F0 m 2 ls []) := by
    intro fn
    induction fn with
    | zero => intro x1 hf; rw [m_X7_nameHere_2] at hf; cases hf
    | succ fn ih =>
      intro x1 hf ls hl
      rw [m_X7_nameHere_2] at hf
      refine lv_iload_n hx hb dX7_nameHere_2 rfl (lv_at hl 1 rfl) ?_
      refine lv_bipush (v := (nI 6)) hx hb dX7_nameHere_3 bp_6 ?_
      refine lv_icmp_ge (tgt := 117) hx hb dX7_nameHere_5 (by decide) (fun hc => ?_) (fun hc => ?_)
      · have hf := ifp hc hf
        refine lv_iconst (v := (-1 : Int32)) hx hb dX7_nameHere_117 ic_m1 ?_
        cases hf
        exact W.iret hx hb hr (fun t ht _ => ⟨rfl, ht⟩) (fun _ h => nomatch h) dX7_nameHere_118
      · have hf := ifn hc hf
        refine lv_aload_n hx hb dX7_nameHere_8 rfl (lv_at hl 0 rfl) ?_
        refine va_get (D := D) (ci := 7) (v := .int k_be) (C := RX7) (T := TX7) (N := 14) hx hb hts hiX7 hown hK.1 hP 0 rfl rfl 6 (by decide) hfl_56 (fun _ h9 => h9) rfl dX7_nameHere_9 ?_
        refine lv_aload_n hx hb dX7_nameHere_12 rfl (lv_at hl 0 rfl) ?_
        refine va_get (D := D) (ci := 7) (v := .int k_fi) (C := RX7) (T := TX7) (N := 14) hx hb hts hiX7 hown hK.1 hP 0 rfl rfl 5 (by decide) hfl_59 (fun _ h9 => h9) rfl dX7_nameHere_13 ?_
        refine lv_icmp_le (tgt := 37) hx hb dX7_nameHere_16 (by decide) (fun hc => ?_) (fun hc => ?_)
        · have hf := ifp hc hf
          refine lv_iconst (v := (nI 0)) hx hb dX7_nameHere_37 ic_0 ?_
          refine lv_istore_n (lv' := [(2, .int (nI 0)), (0, .ref k0), (1, .int x1)]) hx hb dX7_nameHere_38 rfl hl (by decide) rfl (fun ls hl => ?_)
          refine lv_iconst (v := (nI 0)) hx hb dX7_nameHere_39 ic_0 ?_
          refine lv_istore_n (lv' := [(3, .int (nI 0)), (2, .int (nI 0)), (0, .ref k0), (1, .int x1)]) hx hb dX7_nameHere_40 rfl hl (by decide) rfl (fun ls hl => ?_)
          exact hB_41 x1 _ ih fu (nI 0) (nI 0) hf  ls (lv_sub hl [2, 3, 1, 0] rfl)
        · have hf := ifn hc hf
          refine lv_aload_n hx hb dX7_nameHere_19 rfl (lv_at hl 0 rfl) ?_
          refine va_get (D := D) (ci := 7) (v := .int k_be) (C := RX7) (T := TX7) (N := 14) hx hb hts hiX7 hown hK.1 hP 0 rfl rfl 6 (by decide) hfl_56 (fun _ h9 => h9) rfl dX7_nameHere_20 ?_
          refine lv_aload_n hx hb dX7_nameHere_23 rfl (lv_at hl 0 rfl) ?_
          refine va_get (D := D) (ci := 7) (v := .int k_fi) (C := RX7) (T := TX7) (N := 14) hx hb hts hiX7 hown hK.1 hP 0 rfl rfl 5 (by decide) hfl_59 (fun _ h9 => h9) rfl dX7_nameHere_24 ?_
          refine lv_isub hx hb dX7_nameHere_27 ?_
          refine lv_bipush (v := (nI 9)) hx hb dX7_nameHere_28 bp_9 ?_
          refine lv_icmp_ge (tgt := 37) hx hb dX7_nameHere_30 (by decide) (fun hc => ?_) (fun hc => ?_)
          · have hf := ifp hc hf
            refine lv_iconst (v := (nI 0)) hx hb dX7_nameHere_37 ic_0 ?_
            refine lv_istore_n (lv' := [(2, .int (nI 0)), (0, .ref k0), (1, .int x1)]) hx hb dX7_nameHere_38 rfl hl (by decide) rfl (fun ls hl => ?_)
            refine lv_iconst (v := (nI 0)) hx hb dX7_nameHere_39 ic_0 ?_
            refine lv_istore_n (lv' := [(3, .int (nI 0)), (2, .int (nI 0)), (0, .ref k0), (1, .int x1)]) hx hb dX7_nameHere_40 rfl hl (by decide) rfl (fun ls hl => ?_)
            exact hB_41 x1 _ ih fu (nI 0) (nI 0) hf  ls (lv_sub hl [2, 3, 1, 0] rfl)
          · have hf := ifn hc hf
            refine lv_iconst (v := (nI 1)) hx hb dX7_nameHere_33 ic_1 ?_
            refine lv_goto (tgt := 38) hx hb dX7_nameHere_34 (by decide) ?_
            refine lv_istore_n (lv' := [(2, .int (nI 1)), (0, .ref k0), (1, .int x1)]) hx hb dX7_nameHere_38 rfl hl (by decide) rfl (fun ls hl => ?_)
            refine lv_iconst (v := (nI 0)) hx hb dX7_nameHere_39 ic_0 ?_
            refine lv_istore_n (lv' := [(3, .int (nI 0)), (2, .int (nI 1)), (0, .ref k0), (1, .int x1)]) hx hb dX7_nameHere_40 rfl hl (by decide) rfl (fun ls hl => ?_)
            exact hB_41 x1 _ ih fu (nI 1) (nI 0) hf  ls (lv_sub hl [2, 3, 1, 0] rfl)
  have hl := lv_entry ([.ref k0]) (n := 4) (Nat.le_of_ble_eq_true rfl)
  rw [lg_entry_eq]
  generalize (lg_sl ([.ref k0]) ++ List.replicate (4 - (lg_sl ([.ref k0])).length) Slot.unset).toArray = ls at hl ⊢
  have hl : lv_has ls 4 [(0, .ref k0)] := hl
  unfold m_X7_nameHere at hf
  refine lv_iconst (v := (nI 0)) hx hb dX7_nameHere_0 ic_0 ?_
  refine lv_istore_n (lv' := [(1, .int (nI 0)), (0, .ref k0)]) hx hb dX7_nameHere_1 rfl hl (by decide) rfl (fun ls hl => ?_)
  exact hB_2 fu (nI 0) hf  ls (lv_sub hl [1, 0] rfl)
theorem hdc_X7_reads : yX7_reads.cls ≠ "java/lang/invoke/MethodHandle" ∧ yX7_reads.cls ≠ "java/lang/invoke/VarHandle" ∧ (parseMethodDescriptor yX7_reads.desc).map (fun d => d.parameters.length) = some 4 := by decide +kernel
set_option maxHeartbeats 4000000 in
set_option maxRecDepth 100000 in
theorem c_X7_reads (l : Launch) (D : va_G) (cI cZ cM : ClassId) (k0 k1 k2 k3 k4 k5 k6 k7 : Nat) (sz : Nat) (k_un : Int32) (k_len : Int32) (k_fi : Int32) (k_be : Int32) (k_to : Int32) (k_cl : Int32) (k_do : Int32) (k_ro : Nat → Int32) (k_ke : Nat → Int32) (k_te : Nat → Int32) (k_nu : Nat → Int32) (k_na : Nat → Int32) (k_no : Nat → Int32) (k_tu : Nat → Int32) (x1 : Int32) (x2 : Int32) (x3 : Int32) (x4 : Int32) (fu : Nat) (r : Int32) (k_fi' : Int32) (k_be' : Int32) (k_nu' : Nat → Int32) (hf : m_X7_reads fu k_len k_fi k_be k_te k_nu x1 x2 x3 x4 = some (r, k_fi', k_be', k_nu')) : Met l yX7_reads wsX7_reads ({ frames := 3, cells := 0, slots := 0, locals := 67 }) (pM D cI cZ cM sz [(k0, .inr (7, [.ref k1, .int k_un, .ref k2, .ref k3, .int k_len, .int k_fi, .int k_be, .int k_to, .int k_cl, .int k_do, .ref k4, .ref k5, .ref k6, .ref k7])), (k1, .inl (cI, 583, .inl k_ro)), (k2, .inl (cZ, 2, .inl k_ke)), (k3, .inl (cI, 200, .inl k_te)), (k4, .inl (cI, 10, .inl k_nu)), (k5, .inl (cI, 48, .inl k_na)), (k6, .inl (cI, 1024, .inl k_no)), (k7, .inl (cI, 1024, .inl k_tu))] [.ref k0, .int x1, .int x2, .int x3, .int x4]) (qI D r [(k0, .inr (7, [.ref k1, .int k_un, .ref k2, .ref k3, .int k_len, .int k_fi', .int k_be', .int k_to, .int k_cl, .int k_do, .ref k4, .ref k5, .ref k6, .ref k7])), (k1, .inl (cI, 583, .inl k_ro)), (k2, .inl (cZ, 2, .inl k_ke)), (k3, .inl (cI, 200, .inl k_te)), (k4, .inl (cI, 10, .inl k_nu')), (k5, .inl (cI, 48, .inl k_na)), (k6, .inl (cI, 1024, .inl k_no)), (k7, .inl (cI, 1024, .inl k_tu))] (va_A [(k0, .inr (7, [.ref k1, .int k_un, .ref k2, .ref k3, .int k_len, .int k_fi, .int k_be, .int k_to, .int k_cl, .int k_do, .ref k4, .ref k5, .ref k6, .ref k7])), (k1, .inl (cI, 583, .inl k_ro)), (k2, .inl (cZ, 2, .inl k_ke)), (k3, .inl (cI, 200, .inl k_te)), (k4, .inl (cI, 10, .inl k_nu)), (k5, .inl (cI, 48, .inl k_na)), (k6, .inl (cI, 1024, .inl k_no)), (k7, .inl (cI, 1024, .inl k_tu))] sz)) 0 0 (va_A [(k0, .inr (7, [.ref k1, .int k_un, .ref k2, .ref k3, .int k_len, .int k_fi, .int k_be, .int k_to, .int k_cl, .int k_do, .ref k4, .ref k5, .ref k6, .ref k7])), (k1, .inl (cI, 583, .inl k_ro)), (k2, .inl (cZ, 2, .inl k_ke)), (k3, .inl (cI, 200, .inl k_te)), (k4, .inl (cI, 10, .inl k_nu)), (k5, .inl (cI, 48, .inl k_na)), (k6, .inl (cI, 1024, .inl k_no)), (k7, .inl (cI, 1024, .inl k_tu))] sz) := by
  refine Met.ofW (cc := cX7_reads) (maxL := 7) (ret := (some .boolean)) (by decide) rfl ?_
  intro p e s m args below meth c s₁ B hml hv
  obtain ⟨rfl, hsz, hP, hK, hD0⟩ := hv
  have hx := B.exec
  have hb := B.bytes
  have hr := B.returns
  have hts := atoms_spec (ws := wsX7_reads) B.pre
  have hown : s.vm.findClass RX7 = some m.cls := findClass_of_methodNamed B.named
  have hlocks := B.notSynchronized
  subst hsz
  have hD := hD0.self (sz := s.heap.size)
  generalize hAe : va_A [(k0, .inr (7, [.ref k1, .int k_un, .ref k2, .ref k3, .int k_len, .int k_fi, .int k_be, .int k_to, .int k_cl, .int k_do, .ref k4, .ref k5, .ref k6, .ref k7])), (k1, .inl (cI, 583, .inl k_ro)), (k2, .inl (cZ, 2, .inl k_ke)), (k3, .inl (cI, 200, .inl k_te)), (k4, .inl (cI, 10, .inl k_nu)), (k5, .inl (cI, 48, .inl k_na)), (k6, .inl (cI, 1024, .inl k_no)), (k7, .inl (cI, 1024, .inl k_tu))] s.heap.size = A at hD ⊢
  have hA : ∀ q : Nat, s.heap.size ≤ q → A q := fun q h => by rw [← hAe]; exact Or.inr h
  clear hAe hD0
  have hfl_17 := hts (.fieldLink RX7 17 "TermsFirstModel" "text" "[I") (List.mem_cons_of_mem _ (List.mem_append_left _ (List.mem_of_getElem? (i := 2) rfl)))
  have hfl_20 := hts (.fieldLink RX7 20 "TermsFirstModel" "numbers" "[I") (List.mem_cons_of_mem _ (List.mem_append_left _ (List.mem_of_getElem? (i := 4) rfl)))
  have hfl_44 := hts (.fieldLink RX7 44 "TermsFirstModel" "length" "I") (List.mem_cons_of_mem _ (List.mem_append_left _ (List.mem_of_getElem? (i := 1) rfl)))
  have hfl_56 := hts (.fieldLink RX7 56 "TermsFirstModel" "behind" "I") (List.mem_cons_of_mem _ (List.mem_append_left _ (List.mem_of_getElem? (i := 3) rfl)))
  have hfl_59 := hts (.fieldLink RX7 59 "TermsFirstModel" "first" "I") (List.mem_cons_of_mem _ (List.mem_append_left _ (List.mem_of_getElem? (i := 0) rfl)))
  have hiX7 : ∀ w ∈ u_ws RX7 TX7 14, w ∈ wsX7_reads := fun _ h => (List.mem_cons_of_mem _ (List.mem_append_right _ h))
  have hB_50 : ∀ (fn : Nat) (x5 : Int32) (x6 : Int32), m_X7_reads_50 fu k_len k_fi k_be k_te k_nu x1 x2 x3 x4 fn x5 x6 = some (r, k_fi', k_be', k_nu') → ∀ (H : Heap) (locs : List Loc), va_P D vwCl [(k0, .inr (7, [.ref k1, .int k_un, .ref k2, .ref k3, .int k_len, .int k_fi, .int k_be, .int k_to, .int k_cl, .int k_do, .ref k4, .ref k5, .ref k6, .ref k7])), (k1, .inl (cI, 583, .inl k_ro)), (k2, .inl (cZ, 2, .inl k_ke)), (k3, .inl (cI, 200, .inl k_te)), (k4, .inl (cI, 10, .inl k_nu)), (k5, .inl (cI, 48, .inl k_na)), (k6, .inl (cI, 1024, .inl k_no)), (k7, .inl (cI, 1024, .inl k_tu))] H → va_D A [(k0, .inr (7, [.ref k1, .int k_un, .ref k2, .ref k3, .int k_len, .int k_fi, .int k_be, .int k_to, .int k_cl, .int k_do, .ref k4, .ref k5, .ref k6, .ref k7])), (k1, .inl (cI, 583, .inl k_ro)), (k2, .inl (cZ, 2, .inl k_ke)), (k3, .inl (cI, 200, .inl k_te)), (k4, .inl (cI, 10, .inl k_nu)), (k5, .inl (cI, 48, .inl k_na)), (k6, .inl (cI, 1024, .inl k_no)), (k7, .inl (cI, 1024, .inl k_tu))] → va_S A s.heap H locs → ∀ ls : Array Slot, lv_has ls 7 [(0, .ref k0), (1, .int x1), (2, .int x2), (3, .int x3), (4, .int x4), (5, .int x5), (6, .int x6)] → W p l e (headSpec wsX7_reads { frames := 3, cells := 0, slots := 0, locals := 67 }).room s m ([.ref k0, .int x1, .int x2, .int x3, .int x4] : List Value).toArray below meth c H locs 0 0 (MQ below (qI D r [(k0, .inr (7, [.ref k1, .int k_un, .ref k2, .ref k3, .int k_len, .int k_fi', .int k_be', .int k_to, .int k_cl, .int k_do, .ref k4, .ref k5, .ref k6, .ref k7])), (k1, .inl (cI, 583, .inl k_ro)), (k2, .inl (cZ, 2, .inl k_ke)), (k3, .inl (cI, 200, .inl k_te)), (k4, .inl (cI, 10, .inl k_nu')), (k5, .inl (cI, 48, .inl k_na)), (k6, .inl (cI, 1024, .inl k_no)), (k7, .inl (cI, 1024, .inl k_tu))] A) ([.ref k0, .int x1, .int x2, .int x3, .int x4] : List Value).toArray s 0 0 A) (F0 m 50 ls []) := by
    intro fn
    induction fn with
    | zero => intro x5 x6 hf; rw [m_X7_reads_50] at hf; cases hf
    | succ fn ih =>
      intro x5 x6 hf H locs hP hD hS ls hl
      rw [m_X7_reads_50] at hf
      refine lv_iload hx hb dX7_reads_50 (lv_at hl 6 rfl) ?_
      refine lv_aload_n hx hb dX7_reads_52 rfl (lv_at hl 0 rfl) ?_
      refine va_get (D := D) (ci := 7) (v := .int k_be) (C := RX7) (T := TX7) (N := 14) hx hb hts hiX7 hown hK.1 hP 0 rfl rfl 6 (by decide) hfl_56 (fun _ h9 => h9) rfl dX7_reads_53 ?_
      refine lv_icmp_ge (tgt := 83) hx hb dX7_reads_56 (by decide) (fun hc => ?_) (fun hc => ?_)
      · have hf := ifp hc hf
        refine lv_iload hx hb dX7_reads_83 (lv_at hl 5 rfl) ?_
        refine lv_i2l (v := x5.toInt64) hx hb dX7_reads_85 rfl ?_
        refine lv_iload_n hx hb dX7_reads_86 rfl (lv_at hl 2 rfl) ?_
        refine lv_i2l (v := x2.toInt64) hx hb dX7_reads_87 rfl ?_
        refine lv_iload_n hx hb dX7_reads_88 rfl (lv_at hl 3 rfl) ?_
        refine lv_i2l (v := x3.toInt64) hx hb dX7_reads_89 rfl ?_
        obtain ⟨rv2, hrv2, hf⟩ := bd hf
        refine roI (va_runS (As := [.long x5.toInt64, .long x2.toInt64, .long x3.toInt64]) (rest := []) ⟨hx, hb, hml, hown, hts⟩ (c_X7_in l D cI cZ cM x5.toInt64 x2.toInt64 x3.toInt64 rv2 hrv2) (va_cwS 3 hts gX7_reads_X7_in rfl rfl rfl hdc_X7_in ⟨Nat.le_of_ble_eq_true rfl, Nat.le_of_ble_eq_true rfl⟩) (prS hK hP [] rfl) rfl rfl hl.1 rfl (lv_room (Nat.le_of_ble_eq_true rfl)) dX7_reads_90 ⟨Nat.zero_le _, Nat.zero_le _⟩) ?_
        refine lv_if_eq (tgt := 103) hx hb dX7_reads_93 (by decide) (fun hc => ?_) (fun hc => ?_)
        · have hf := ifp hc hf
          refine lv_iconst (v := (nI 0)) hx hb dX7_reads_103 ic_0 ?_
          cases hf
          exact W.zret hx hb hr zbl_0.1 (fun t ht _ => ⟨⟨rfl, by rw [ht]; exact hP, hD⟩, hS.F ht⟩) hS.2.2 dX7_reads_104
        · have hf := ifn hc hf
          refine lv_iload hx hb dX7_reads_96 (lv_at hl 5 rfl) ?_
          refine lv_iload hx hb dX7_reads_98 (lv_at hl 4 rfl) ?_
          refine lv_icmp_ne (tgt := 105) hx hb dX7_reads_100 (by decide) (fun hc => ?_) (fun hc => ?_)
          · have hf := ifn hc hf
            refine lv_aload_n hx hb dX7_reads_105 rfl (lv_at hl 0 rfl) ?_
            refine va_get (D := D) (ci := 7) (v := .ref k4) (C := RX7) (T := TX7) (N := 14) hx hb hts hiX7 hown hK.1 hP 0 rfl rfl 10 (by decide) hfl_20 (fun _ h9 => h9) rfl dX7_reads_106 ?_
            refine lv_iload_n hx hb dX7_reads_109 rfl (lv_at hl 1 rfl) ?_
            refine lv_iload hx hb dX7_reads_110 (lv_at hl 5 rfl) ?_
            obtain ⟨hi, hf⟩ := gd_some hf
            refine va_iast hx hb hK.1 hP hD hS 4 0 rfl rfl hi dX7_reads_112 (fun H locs hP hD hS => ?_)
            have hP : va_P D vwCl [(k0, .inr (7, [.ref k1, .int k_un, .ref k2, .ref k3, .int k_len, .int k_fi, .int k_be, .int k_to, .int k_cl, .int k_do, .ref k4, .ref k5, .ref k6, .ref k7])), (k1, .inl (cI, 583, .inl k_ro)), (k2, .inl (cZ, 2, .inl k_ke)), (k3, .inl (cI, 200, .inl k_te)), (k4, .inl (cI, 10, .inl (upd k_nu x1.toNatClampNeg x5))), (k5, .inl (cI, 48, .inl k_na)), (k6, .inl (cI, 1024, .inl k_no)), (k7, .inl (cI, 1024, .inl k_tu))] H := hP
            have hD : va_D A [(k0, .inr (7, [.ref k1, .int k_un, .ref k2, .ref k3, .int k_len, .int k_fi, .int k_be, .int k_to, .int k_cl, .int k_do, .ref k4, .ref k5, .ref k6, .ref k7])), (k1, .inl (cI, 583, .inl k_ro)), (k2, .inl (cZ, 2, .inl k_ke)), (k3, .inl (cI, 200, .inl k_te)), (k4, .inl (cI, 10, .inl (upd k_nu x1.toNatClampNeg x5))), (k5, .inl (cI, 48, .inl k_na)), (k6, .inl (cI, 1024, .inl k_no)), (k7, .inl (cI, 1024, .inl k_tu))] := hD
            refine lv_aload_n hx hb dX7_reads_113 rfl (lv_at hl 0 rfl) ?_
            obtain ⟨rv3, hrv3, hf⟩ := bd hf
            refine muV0 (wr := []) (va_runV (As := []) (rest := []) ⟨hx, hb, hml, hown, hts⟩ (c_X7_next l D cI cZ cM k0 k1 k2 k3 k4 k5 k6 k7 _ k_un k_len k_fi k_be k_to k_cl k_do k_ro k_ke k_te (upd k_nu x1.toNatClampNeg x5) k_na k_no k_tu fu rv3.1 rv3.2 hrv3) (cwV 0 hts gX7_reads_X7_next rfl rfl rfl ⟨rfl, hdc_X7_next⟩ ⟨Nat.le_of_ble_eq_true rfl, Nat.le_of_ble_eq_true rfl⟩) (pmV hK hP hD [0, 1, 2, 3, 4, 5, 6, 7] (by decide) rfl rfl (ci := 7) (q0 := 0) rfl rfl) rfl rfl hl.1 rfl (lv_room (Nat.le_of_ble_eq_true rfl)) dX7_reads_114 ⟨Nat.zero_le _, Nat.zero_le _⟩) hP hD hS hA [0, 1, 2, 3, 4, 5, 6, 7] [] rfl rfl (by decide) (by decide) (fun H locs hP hD hS => ?_)
            have hP : va_P D vwCl [(k0, .inr (7, [.ref k1, .int k_un, .ref k2, .ref k3, .int k_len, .int rv3.1, .int rv3.2, .int k_to, .int k_cl, .int k_do, .ref k4, .ref k5, .ref k6, .ref k7])), (k1, .inl (cI, 583, .inl k_ro)), (k2, .inl (cZ, 2, .inl k_ke)), (k3, .inl (cI, 200, .inl k_te)), (k4, .inl (cI, 10, .inl (upd k_nu x1.toNatClampNeg x5))), (k5, .inl (cI, 48, .inl k_na)), (k6, .inl (cI, 1024, .inl k_no)), (k7, .inl (cI, 1024, .inl k_tu))] H := hP
            have hD : va_D A [(k0, .inr (7, [.ref k1, .int k_un, .ref k2, .ref k3, .int k_len, .int rv3.1, .int rv3.2, .int k_to, .int k_cl, .int k_do, .ref k4, .ref k5, .ref k6, .ref k7])), (k1, .inl (cI, 583, .inl k_ro)), (k2, .inl (cZ, 2, .inl k_ke)), (k3, .inl (cI, 200, .inl k_te)), (k4, .inl (cI, 10, .inl (upd k_nu x1.toNatClampNeg x5))), (k5, .inl (cI, 48, .inl k_na)), (k6, .inl (cI, 1024, .inl k_no)), (k7, .inl (cI, 1024, .inl k_tu))] := hD
            refine lv_iconst (v := (nI 1)) hx hb dX7_reads_117 ic_1 ?_
            cases hf
            exact W.zret hx hb hr zbl_1.1 (fun t ht _ => ⟨⟨rfl, by rw [ht]; exact hP, hD⟩, hS.F ht⟩) hS.2.2 dX7_reads_118
          · have hf := ifp hc hf
            refine lv_iconst (v := (nI 0)) hx hb dX7_reads_103 ic_0 ?_
            cases hf
            exact W.zret hx hb hr zbl_0.1 (fun t ht _ => ⟨⟨rfl, by rw [ht]; exact hP, hD⟩, hS.F ht⟩) hS.2.2 dX7_reads_104
      · have hf := ifn hc hf
        refine lv_bipush (v := (nI 10)) hx hb dX7_reads_59 bp_10 ?_
        refine lv_iload hx hb dX7_reads_61 (lv_at hl 5 rfl) ?_
        refine lv_imul hx hb dX7_reads_63 ?_
        refine lv_aload_n hx hb dX7_reads_64 rfl (lv_at hl 0 rfl) ?_
        refine va_get (D := D) (ci := 7) (v := .ref k3) (C := RX7) (T := TX7) (N := 14) hx hb hts hiX7 hown hK.1 hP 0 rfl rfl 3 (by decide) hfl_17 (fun _ h9 => h9) rfl dX7_reads_65 ?_
        refine lv_iload hx hb dX7_reads_68 (lv_at hl 6 rfl) ?_
        obtain ⟨hi, hf⟩ := gd_some hf
        refine va_iald hx hb hK.1 hP 3 0 rfl rfl hi dX7_reads_70 ?_
        refine lv_iadd hx hb dX7_reads_71 ?_
        refine lv_bipush (v := (nI 48)) hx hb dX7_reads_72 bp_48 ?_
        refine lv_isub hx hb dX7_reads_74 ?_
        refine lv_istore (lv' := [(5, .int ((((nI 10) * x5) + (k_te x6.toNatClampNeg)) - (nI 48))), (0, .ref k0), (1, .int x1), (2, .int x2), (3, .int x3), (4, .int x4), (6, .int x6)]) hx hb dX7_reads_75 hl (by decide) rfl (fun ls hl => ?_)
        refine lv_iinc (v := (x6 + (nI 1))) (lv' := [(6, .int (x6 + (nI 1))), (5, .int ((((nI 10) * x5) + (k_te x6.toNatClampNeg)) - (nI 48))), (0, .ref k0), (1, .int x1), (2, .int x2), (3, .int x3), (4, .int x4)]) hx hb dX7_reads_77 hl (k := 6) rfl (ii_1 _) (by decide) rfl (fun ls hl => ?_)
        refine lv_goto (tgt := 50) hx hb dX7_reads_80 (by decide) ?_
        exact ih ((((nI 10) * x5) + (k_te x6.toNatClampNeg)) - (nI 48)) (x6 + (nI 1)) hf _ _ hP hD hS ls (lv_sub hl [2, 3, 4, 5, 6, 1, 0] rfl)
  have hl := lv_entry ([.ref k0, .int x1, .int x2, .int x3, .int x4]) (n := 7) (Nat.le_of_ble_eq_true rfl)
  rw [lg_entry_eq]
  generalize (lg_sl ([.ref k0, .int x1, .int x2, .int x3, .int x4]) ++ List.replicate (7 - (lg_sl ([.ref k0, .int x1, .int x2, .int x3, .int x4])).length) Slot.unset).toArray = ls at hl ⊢
  have hl : lv_has ls 7 [(0, .ref k0), (1, .int x1), (2, .int x2), (3, .int x3), (4, .int x4)] := hl
  have hS : va_S A s.heap s.heap [] := va_S.rf
  unfold m_X7_reads at hf
  refine lv_aload_n hx hb dX7_reads_0 rfl (lv_at hl 0 rfl) ?_
  refine va_get (D := D) (ci := 7) (v := .int k_fi) (C := RX7) (T := TX7) (N := 14) hx hb hts hiX7 hown hK.1 hP 0 rfl rfl 5 (by decide) hfl_59 (fun _ h9 => h9) rfl dX7_reads_1 ?_
  refine lv_aload_n hx hb dX7_reads_4 rfl (lv_at hl 0 rfl) ?_
  refine va_get (D := D) (ci := 7) (v := .int k_len) (C := RX7) (T := TX7) (N := 14) hx hb hts hiX7 hown hK.1 hP 0 rfl rfl 4 (by decide) hfl_44 (fun _ h9 => h9) rfl dX7_reads_5 ?_
  refine lv_icmp_eq (tgt := 39) hx hb dX7_reads_8 (by decide) (fun hc => ?_) (fun hc => ?_)
  · have hf := ifp hc hf
    refine lv_iconst (v := (nI 0)) hx hb dX7_reads_39 ic_0 ?_
    cases hf
    exact W.zret hx hb hr zbl_0.1 (fun t ht _ => ⟨⟨rfl, by rw [ht]; exact hP, hD⟩, hS.F ht⟩) hS.2.2 dX7_reads_40
  · have hf := ifn hc hf
    refine lv_aload_n hx hb dX7_reads_11 rfl (lv_at hl 0 rfl) ?_
    refine va_get (D := D) (ci := 7) (v := .ref k3) (C := RX7) (T := TX7) (N := 14) hx hb hts hiX7 hown hK.1 hP 0 rfl rfl 3 (by decide) hfl_17 (fun _ h9 => h9) rfl dX7_reads_12 ?_
    refine lv_aload_n hx hb dX7_reads_15 rfl (lv_at hl 0 rfl) ?_
    refine va_get (D := D) (ci := 7) (v := .int k_fi) (C := RX7) (T := TX7) (N := 14) hx hb hts hiX7 hown hK.1 hP 0 rfl rfl 5 (by decide) hfl_59 (fun _ h9 => h9) rfl dX7_reads_16 ?_
    obtain ⟨hi, hf⟩ := gd_some hf
    refine va_iald hx hb hK.1 hP 3 0 rfl rfl hi dX7_reads_19 ?_
    obtain ⟨rv1, hrv1, hf⟩ := bd hf
    refine roI (va_runS (As := [.int (k_te k_fi.toNatClampNeg)]) (rest := []) ⟨hx, hb, hml, hown, hts⟩ (c_X7_isDigit l D cI cZ cM (k_te k_fi.toNatClampNeg) rv1 hrv1) (va_cwS 1 hts gX7_reads_X7_isDigit rfl rfl rfl hdc_X7_isDigit ⟨Nat.le_of_ble_eq_true rfl, Nat.le_of_ble_eq_true rfl⟩) (prS hK hP [] rfl) rfl rfl hl.1 rfl (lv_room (Nat.le_of_ble_eq_true rfl)) dX7_reads_20 ⟨Nat.zero_le _, Nat.zero_le _⟩) ?_
    refine lv_if_eq (tgt := 39) hx hb dX7_reads_23 (by decide) (fun hc => ?_) (fun hc => ?_)
    · have hf := ifp hc hf
      refine lv_iconst (v := (nI 0)) hx hb dX7_reads_39 ic_0 ?_
      cases hf
      exact W.zret hx hb hr zbl_0.1 (fun t ht _ => ⟨⟨rfl, by rw [ht]; exact hP, hD⟩, hS.F ht⟩) hS.2.2 dX7_reads_40
    · have hf := ifn hc hf
      refine lv_aload_n hx hb dX7_reads_26 rfl (lv_at hl 0 rfl) ?_
      refine va_get (D := D) (ci := 7) (v := .int k_be) (C := RX7) (T := TX7) (N := 14) hx hb hts hiX7 hown hK.1 hP 0 rfl rfl 6 (by decide) hfl_56 (fun _ h9 => h9) rfl dX7_reads_27 ?_
      refine lv_aload_n hx hb dX7_reads_30 rfl (lv_at hl 0 rfl) ?_
      refine va_get (D := D) (ci := 7) (v := .int k_fi) (C := RX7) (T := TX7) (N := 14) hx hb hts hiX7 hown hK.1 hP 0 rfl rfl 5 (by decide) hfl_59 (fun _ h9 => h9) rfl dX7_reads_31 ?_
      refine lv_isub hx hb dX7_reads_34 ?_
      refine lv_iconst (v := (nI 2)) hx hb dX7_reads_35 ic_2 ?_
      refine lv_icmp_le (tgt := 41) hx hb dX7_reads_36 (by decide) (fun hc => ?_) (fun hc => ?_)
      · have hf := ifp hc hf
        refine lv_iconst (v := (nI 0)) hx hb dX7_reads_41 ic_0 ?_
        refine lv_istore (lv' := [(5, .int (nI 0)), (0, .ref k0), (1, .int x1), (2, .int x2), (3, .int x3), (4, .int x4)]) hx hb dX7_reads_42 hl (by decide) rfl (fun ls hl => ?_)
        refine lv_aload_n hx hb dX7_reads_44 rfl (lv_at hl 1 rfl) ?_
        refine va_get (D := D) (ci := 7) (v := .int k_fi) (C := RX7) (T := TX7) (N := 14) hx hb hts hiX7 hown hK.1 hP 0 rfl rfl 5 (by decide) hfl_59 (fun _ h9 => h9) rfl dX7_reads_45 ?_
        refine lv_istore (lv' := [(6, .int k_fi), (5, .int (nI 0)), (0, .ref k0), (1, .int x1), (2, .int x2), (3, .int x3), (4, .int x4)]) hx hb dX7_reads_48 hl (by decide) rfl (fun ls hl => ?_)
        exact hB_50 fu (nI 0) k_fi hf _ _ hP hD hS ls (lv_sub hl [2, 3, 4, 5, 6, 1, 0] rfl)
      · have hf := ifn hc hf
        refine lv_iconst (v := (nI 0)) hx hb dX7_reads_39 ic_0 ?_
        cases hf
        exact W.zret hx hb hr zbl_0.1 (fun t ht _ => ⟨⟨rfl, by rw [ht]; exact hP, hD⟩, hS.F ht⟩) hS.2.2 dX7_reads_40
theorem hdc_X7_readsSection : yX7_readsSection.cls ≠ "java/lang/invoke/MethodHandle" ∧ yX7_readsSection.cls ≠ "java/lang/invoke/VarHandle" ∧ (parseMethodDescriptor yX7_readsSection.desc).map (fun d => d.parameters.length) = some 2 := by decide +kernel
set_option maxHeartbeats 4000000 in
set_option maxRecDepth 100000 in
theorem c_X7_readsSection (l : Launch) (D : va_G) (cI cZ cM : ClassId) (k0 k1 k2 k3 k4 k5 k6 k7 : Nat) (sz : Nat) (k_un : Int32) (k_len : Int32) (k_fi : Int32) (k_be : Int32) (k_to : Int32) (k_cl : Int32) (k_do : Int32) (k_ro : Nat → Int32) (k_ke : Nat → Int32) (k_te : Nat → Int32) (k_nu : Nat → Int32) (k_na : Nat → Int32) (k_no : Nat → Int32) (k_tu : Nat → Int32) (x1 : Int32) (x2 : Int32) (fu : Nat) (r : Int32) (k_fi' : Int32) (k_be' : Int32) (k_nu' : Nat → Int32) (hf : m_X7_readsSection fu k_len k_fi k_be k_to k_te k_nu x1 x2 = some (r, k_fi', k_be', k_nu')) : Met l yX7_readsSection wsX7_readsSection ({ frames := 4, cells := 0, slots := 0, locals := 93 }) (pM D cI cZ cM sz [(k0, .inr (7, [.ref k1, .int k_un, .ref k2, .ref k3, .int k_len, .int k_fi, .int k_be, .int k_to, .int k_cl, .int k_do, .ref k4, .ref k5, .ref k6, .ref k7])), (k1, .inl (cI, 583, .inl k_ro)), (k2, .inl (cZ, 2, .inl k_ke)), (k3, .inl (cI, 200, .inl k_te)), (k4, .inl (cI, 10, .inl k_nu)), (k5, .inl (cI, 48, .inl k_na)), (k6, .inl (cI, 1024, .inl k_no)), (k7, .inl (cI, 1024, .inl k_tu))] [.ref k0, .int x1, .int x2]) (qI D r [(k0, .inr (7, [.ref k1, .int k_un, .ref k2, .ref k3, .int k_len, .int k_fi', .int k_be', .int k_to, .int k_cl, .int k_do, .ref k4, .ref k5, .ref k6, .ref k7])), (k1, .inl (cI, 583, .inl k_ro)), (k2, .inl (cZ, 2, .inl k_ke)), (k3, .inl (cI, 200, .inl k_te)), (k4, .inl (cI, 10, .inl k_nu')), (k5, .inl (cI, 48, .inl k_na)), (k6, .inl (cI, 1024, .inl k_no)), (k7, .inl (cI, 1024, .inl k_tu))] (va_A [(k0, .inr (7, [.ref k1, .int k_un, .ref k2, .ref k3, .int k_len, .int k_fi, .int k_be, .int k_to, .int k_cl, .int k_do, .ref k4, .ref k5, .ref k6, .ref k7])), (k1, .inl (cI, 583, .inl k_ro)), (k2, .inl (cZ, 2, .inl k_ke)), (k3, .inl (cI, 200, .inl k_te)), (k4, .inl (cI, 10, .inl k_nu)), (k5, .inl (cI, 48, .inl k_na)), (k6, .inl (cI, 1024, .inl k_no)), (k7, .inl (cI, 1024, .inl k_tu))] sz)) 0 0 (va_A [(k0, .inr (7, [.ref k1, .int k_un, .ref k2, .ref k3, .int k_len, .int k_fi, .int k_be, .int k_to, .int k_cl, .int k_do, .ref k4, .ref k5, .ref k6, .ref k7])), (k1, .inl (cI, 583, .inl k_ro)), (k2, .inl (cZ, 2, .inl k_ke)), (k3, .inl (cI, 200, .inl k_te)), (k4, .inl (cI, 10, .inl k_nu)), (k5, .inl (cI, 48, .inl k_na)), (k6, .inl (cI, 1024, .inl k_no)), (k7, .inl (cI, 1024, .inl k_tu))] sz) := by
  refine Met.ofW (cc := cX7_readsSection) (maxL := 3) (ret := (some .boolean)) (by decide) rfl ?_
  intro p e s m args below meth c s₁ B hml hv
  obtain ⟨rfl, hsz, hP, hK, hD0⟩ := hv
  have hx := B.exec
  have hb := B.bytes
  have hr := B.returns
  have hts := atoms_spec (ws := wsX7_readsSection) B.pre
  have hown : s.vm.findClass RX7 = some m.cls := findClass_of_methodNamed B.named
  have hlocks := B.notSynchronized
  subst hsz
  have hD := hD0.self (sz := s.heap.size)
  generalize hAe : va_A [(k0, .inr (7, [.ref k1, .int k_un, .ref k2, .ref k3, .int k_len, .int k_fi, .int k_be, .int k_to, .int k_cl, .int k_do, .ref k4, .ref k5, .ref k6, .ref k7])), (k1, .inl (cI, 583, .inl k_ro)), (k2, .inl (cZ, 2, .inl k_ke)), (k3, .inl (cI, 200, .inl k_te)), (k4, .inl (cI, 10, .inl k_nu)), (k5, .inl (cI, 48, .inl k_na)), (k6, .inl (cI, 1024, .inl k_no)), (k7, .inl (cI, 1024, .inl k_tu))] s.heap.size = A at hD ⊢
  have hA : ∀ q : Nat, s.heap.size ≤ q → A q := fun q h => by rw [← hAe]; exact Or.inr h
  clear hAe hD0
  have hfl_72 := hts (.fieldLink RX7 72 "TermsFirstModel" "told" "I") (List.mem_cons_of_mem _ (List.mem_append_left _ (List.mem_append_left _ (List.mem_of_getElem? (i := 0) rfl))))
  have hiX7 : ∀ w ∈ u_ws RX7 TX7 14, w ∈ wsX7_readsSection := fun _ h => (List.mem_cons_of_mem _ (List.mem_append_right _ h))
  have hl := lv_entry ([.ref k0, .int x1, .int x2]) (n := 3) (Nat.le_of_ble_eq_true rfl)
  rw [lg_entry_eq]
  generalize (lg_sl ([.ref k0, .int x1, .int x2]) ++ List.replicate (3 - (lg_sl ([.ref k0, .int x1, .int x2])).length) Slot.unset).toArray = ls at hl ⊢
  have hl : lv_has ls 3 [(0, .ref k0), (1, .int x1), (2, .int x2)] := hl
  have hS : va_S A s.heap s.heap [] := va_S.rf
  unfold m_X7_readsSection at hf
  refine lv_aload_n hx hb dX7_readsSection_0 rfl (lv_at hl 0 rfl) ?_
  refine lv_iload_n hx hb dX7_readsSection_1 rfl (lv_at hl 1 rfl) ?_
  refine lv_iconst (v := (nI 0)) hx hb dX7_readsSection_2 ic_0 ?_
  refine lv_aload_n hx hb dX7_readsSection_3 rfl (lv_at hl 0 rfl) ?_
  refine va_get (D := D) (ci := 7) (v := .int k_to) (C := RX7) (T := TX7) (N := 14) hx hb hts hiX7 hown hK.1 hP 0 rfl rfl 7 (by decide) hfl_72 (fun _ h9 => h9) rfl dX7_readsSection_4 ?_
  refine lv_iconst (v := (nI 1)) hx hb dX7_readsSection_7 ic_1 ?_
  refine lv_isub hx hb dX7_readsSection_8 ?_
  refine lv_iload_n hx hb dX7_readsSection_9 rfl (lv_at hl 2 rfl) ?_
  obtain ⟨rv1, hrv1, hf⟩ := bd hf
  refine muI0 (wr := []) (va_runV (As := [.int x1, .int (nI 0), .int (k_to - (nI 1)), .int x2]) (rest := []) ⟨hx, hb, hml, hown, hts⟩ (c_X7_reads l D cI cZ cM k0 k1 k2 k3 k4 k5 k6 k7 _ k_un k_len k_fi k_be k_to k_cl k_do k_ro k_ke k_te k_nu k_na k_no k_tu x1 (nI 0) (k_to - (nI 1)) x2 fu rv1.1 rv1.2.1 rv1.2.2.1 rv1.2.2.2 hrv1) (cwV 4 hts gX7_readsSection_X7_reads rfl rfl rfl ⟨rfl, hdc_X7_reads⟩ ⟨Nat.le_of_ble_eq_true rfl, Nat.le_of_ble_eq_true rfl⟩) (pmV hK hP hD [0, 1, 2, 3, 4, 5, 6, 7] (by decide) rfl rfl (ci := 7) (q0 := 0) rfl rfl) rfl rfl hl.1 rfl (lv_room (Nat.le_of_ble_eq_true rfl)) dX7_readsSection_10 ⟨Nat.zero_le _, Nat.zero_le _⟩) hP hD hS hA [0, 1, 2, 3, 4, 5, 6, 7] [] rfl rfl (by decide) (by decide) (fun H locs hP hD hS => ?_)
  have hP : va_P D vwCl [(k0, .inr (7, [.ref k1, .int k_un, .ref k2, .ref k3, .int k_len, .int rv1.2.1, .int rv1.2.2.1, .int k_to, .int k_cl, .int k_do, .ref k4, .ref k5, .ref k6, .ref k7])), (k1, .inl (cI, 583, .inl k_ro)), (k2, .inl (cZ, 2, .inl k_ke)), (k3, .inl (cI, 200, .inl k_te)), (k4, .inl (cI, 10, .inl rv1.2.2.2)), (k5, .inl (cI, 48, .inl k_na)), (k6, .inl (cI, 1024, .inl k_no)), (k7, .inl (cI, 1024, .inl k_tu))] H := hP
  have hD : va_D A [(k0, .inr (7, [.ref k1, .int k_un, .ref k2, .ref k3, .int k_len, .int rv1.2.1, .int rv1.2.2.1, .int k_to, .int k_cl, .int k_do, .ref k4, .ref k5, .ref k6, .ref k7])), (k1, .inl (cI, 583, .inl k_ro)), (k2, .inl (cZ, 2, .inl k_ke)), (k3, .inl (cI, 200, .inl k_te)), (k4, .inl (cI, 10, .inl rv1.2.2.2)), (k5, .inl (cI, 48, .inl k_na)), (k6, .inl (cI, 1024, .inl k_no)), (k7, .inl (cI, 1024, .inl k_tu))] := hD
  obtain ⟨hz, hf⟩ := zb_some hf
  cases hf
  exact W.zret hx hb hr hz.1 (fun t ht _ => ⟨⟨rfl, by rw [ht]; exact hP, hD⟩, hS.F ht⟩) hS.2.2 dX7_readsSection_13
theorem hdc_X7_termsHere : yX7_termsHere.cls ≠ "java/lang/invoke/MethodHandle" ∧ yX7_termsHere.cls ≠ "java/lang/invoke/VarHandle" ∧ (parseMethodDescriptor yX7_termsHere.desc).map (fun d => d.parameters.length) = some 1 := by decide +kernel
set_option maxHeartbeats 4000000 in
set_option maxRecDepth 100000 in
theorem c_X7_termsHere (l : Launch) (D : va_G) (cI cZ cM : ClassId) (k0 k1 k2 k3 k4 k5 k6 k7 : Nat) (k_un : Int32) (k_len : Int32) (k_fi : Int32) (k_be : Int32) (k_to : Int32) (k_cl : Int32) (k_do : Int32) (k_ro : Nat → Int32) (k_ke : Nat → Int32) (k_te : Nat → Int32) (k_nu : Nat → Int32) (k_na : Nat → Int32) (k_no : Nat → Int32) (k_tu : Nat → Int32) (x1 : Int32) (fu : Nat) (r : Int32) (hf : m_X7_termsHere fu k_len k_fi k_be k_te x1 = some r) : Met l yX7_termsHere wsX7_termsHere ({ frames := 1, cells := 0, slots := 0, locals := 25 }) (pR D cI cZ cM [(k0, .inr (7, [.ref k1, .int k_un, .ref k2, .ref k3, .int k_len, .int k_fi, .int k_be, .int k_to, .int k_cl, .int k_do, .ref k4, .ref k5, .ref k6, .ref k7])), (k1, .inl (cI, 583, .inl k_ro)), (k2, .inl (cZ, 2, .inl k_ke)), (k3, .inl (cI, 200, .inl k_te)), (k4, .inl (cI, 10, .inl k_nu)), (k5, .inl (cI, 48, .inl k_na)), (k6, .inl (cI, 1024, .inl k_no)), (k7, .inl (cI, 1024, .inl k_tu))] [.ref k0, .int x1]) (qR r) 0 0 (fun _ => False) := by
  refine Met.ofW (cc := cX7_termsHere) (maxL := 5) (ret := (some .int)) (by decide) rfl ?_
  intro p e s m args below meth c s₁ B hml hv
  obtain ⟨rfl, hP, hK⟩ := hv
  have hx := B.exec
  have hb := B.bytes
  have hr := B.returns
  have hts := atoms_spec (ws := wsX7_termsHere) B.pre
  have hown : s.vm.findClass RX7 = some m.cls := findClass_of_methodNamed B.named
  have hlocks := B.notSynchronized
  have hfl_17 := hts (.fieldLink RX7 17 "TermsFirstModel" "text" "[I") (List.mem_cons_of_mem _ (List.mem_append_left _ (List.mem_of_getElem? (i := 3) rfl)))
  have hfl_44 := hts (.fieldLink RX7 44 "TermsFirstModel" "length" "I") (List.mem_cons_of_mem _ (List.mem_append_left _ (List.mem_of_getElem? (i := 1) rfl)))
  have hfl_56 := hts (.fieldLink RX7 56 "TermsFirstModel" "behind" "I") (List.mem_cons_of_mem _ (List.mem_append_left _ (List.mem_of_getElem? (i := 2) rfl)))
  have hfl_59 := hts (.fieldLink RX7 59 "TermsFirstModel" "first" "I") (List.mem_cons_of_mem _ (List.mem_append_left _ (List.mem_of_getElem? (i := 0) rfl)))
  have hkl_48 := hts (.constantLong RX7 48 (97)) (List.mem_cons_of_mem _ (List.mem_append_left _ (List.mem_of_getElem? (i := 4) rfl)))
  have hkl_79 := hts (.constantLong RX7 79 (108)) (List.mem_cons_of_mem _ (List.mem_append_left _ (List.mem_of_getElem? (i := 5) rfl)))
  have hiX7 : ∀ w ∈ u_ws RX7 TX7 14, w ∈ wsX7_termsHere := fun _ h => (List.mem_cons_of_mem _ (List.mem_append_right _ h))
  have hB_98 : ∀ (x2 : Int32) (x3 : Int32), m_X7_termsHere_98 x2 x3 = some r → ∀ ls : Array Slot, lv_has ls 5 [(2, .int x2), (3, .int x3)] → W p l e (headSpec wsX7_termsHere { frames := 1, cells := 0, slots := 0, locals := 25 }).room s m ([.ref k0, .int x1] : List Value).toArray below meth c s.heap [] 0 0 (MQ below (qR r) ([.ref k0, .int x1] : List Value).toArray s 0 0 (fun _ => False)) (F0 m 98 ls []) := by
    intro x2 x3 hf ls hl
    unfold m_X7_termsHere_98 at hf
    refine lv_iload_n hx hb dX7_termsHere_98 rfl (lv_at hl 1 rfl) ?_
    refine lv_if_eq (tgt := 106) hx hb dX7_termsHere_99 (by decide) (fun hc => ?_) (fun hc => ?_)
    · have hf := ifp hc hf
      refine lv_iconst (v := (nI 0)) hx hb dX7_termsHere_106 ic_0 ?_
      cases hf
      exact W.iret hx hb hr (fun t ht _ => ⟨rfl, ht⟩) (fun _ h => nomatch h) dX7_termsHere_107
    · have hf := ifn hc hf
      refine lv_iload_n hx hb dX7_termsHere_102 rfl (lv_at hl 0 rfl) ?_
      refine lv_goto (tgt := 107) hx hb dX7_termsHere_103 (by decide) ?_
      cases hf
      exact W.iret hx hb hr (fun t ht _ => ⟨rfl, ht⟩) (fun _ h => nomatch h) dX7_termsHere_107
  have hB_38 : ∀ (fn : Nat) (x2 : Int32) (x3 : Int32) (x4 : Int32), m_X7_termsHere_38 k_be k_te fn x2 x3 x4 = some r → ∀ ls : Array Slot, lv_has ls 5 [(0, .ref k0), (2, .int x2), (3, .int x3), (4, .int x4)] → W p l e (headSpec wsX7_termsHere { frames := 1, cells := 0, slots := 0, locals := 25 }).room s m ([.ref k0, .int x1] : List Value).toArray below meth c s.heap [] 0 0 (MQ below (qR r) ([.ref k0, .int x1] : List Value).toArray s 0 0 (fun _ => False)) (F0 m 38 ls []) := by
    intro fn
    induction fn with
    | zero => intro x2 x3 x4 hf; rw [m_X7_termsHere_38] at hf; cases hf
    | succ fn ih =>
      intro x2 x3 x4 hf ls hl
      rw [m_X7_termsHere_38] at hf
      refine lv_iload hx hb dX7_termsHere_38 (lv_at hl 3 rfl) ?_
      refine lv_aload_n hx hb dX7_termsHere_40 rfl (lv_at hl 0 rfl) ?_
      refine va_get (D := D) (ci := 7) (v := .int k_be) (C := RX7) (T := TX7) (N := 14) hx hb hts hiX7 hown hK.1 hP 0 rfl rfl 6 (by decide) hfl_56 (fun _ h9 => h9) rfl dX7_termsHere_41 ?_
      refine lv_icmp_ge (tgt := 98) hx hb dX7_termsHere_44 (by decide) (fun hc => ?_) (fun hc => ?_)
      · have hf := ifp hc hf
        exact hB_98 x2 x3 hf  ls (lv_sub hl [1, 2] rfl)
      · have hf := ifn hc hf
        refine lv_iload_n hx hb dX7_termsHere_47 rfl (lv_at hl 2 rfl) ?_
        refine lv_if_eq (tgt := 98) hx hb dX7_termsHere_48 (by decide) (fun hc => ?_) (fun hc => ?_)
        · have hf := ifp hc hf
          exact hB_98 x2 x3 hf  ls (lv_sub hl [1, 2] rfl)
        · have hf := ifn hc hf
          refine lv_aload_n hx hb dX7_termsHere_51 rfl (lv_at hl 0 rfl) ?_
          refine va_get (D := D) (ci := 7) (v := .ref k3) (C := RX7) (T := TX7) (N := 14) hx hb hts hiX7 hown hK.1 hP 0 rfl rfl 3 (by decide) hfl_17 (fun _ h9 => h9) rfl dX7_termsHere_52 ?_
          refine lv_iload hx hb dX7_termsHere_55 (lv_at hl 3 rfl) ?_
          obtain ⟨hi, hf⟩ := gd_some hf
          refine va_iald hx hb hK.1 hP 3 0 rfl rfl hi dX7_termsHere_57 ?_
          refine lv_i2l (v := (k_te x4.toNatClampNeg).toInt64) hx hb dX7_termsHere_58 rfl ?_
          refine lv_ldc2 (v := (lN 97)) hx hb hown hkl_48 dX7_termsHere_59 ?_
          refine lv_ldc2 (v := (lN 108)) hx hb hown hkl_79 dX7_termsHere_62 ?_
          obtain ⟨rv1, hrv1, hf⟩ := bd hf
          refine roI (va_runS (As := [.long ((k_te x4.toNatClampNeg).toInt64), .long (lN 97), .long (lN 108)]) (rest := []) ⟨hx, hb, hml, hown, hts⟩ (c_X7_in l D cI cZ cM ((k_te x4.toNatClampNeg).toInt64) (lN 97) (lN 108) rv1 hrv1) (va_cwS 3 hts gX7_termsHere_X7_in rfl rfl rfl hdc_X7_in ⟨Nat.le_of_ble_eq_true rfl, Nat.le_of_ble_eq_true rfl⟩) (prS hK hP [] rfl) rfl rfl hl.1 rfl (lv_room (Nat.le_of_ble_eq_true rfl)) dX7_termsHere_65 ⟨Nat.zero_le _, Nat.zero_le _⟩) ?_
          refine lv_istore_n (lv' := [(3, .int rv1), (0, .ref k0), (2, .int x2), (4, .int x4)]) hx hb dX7_termsHere_68 rfl hl (by decide) rfl (fun ls hl => ?_)
          refine lv_iload_n hx hb dX7_termsHere_69 rfl (lv_at hl 2 rfl) ?_
          refine lv_iload_n hx hb dX7_termsHere_70 rfl (lv_at hl 0 rfl) ?_
          refine lv_if_eq (tgt := 89) hx hb dX7_termsHere_71 (by decide) (fun hc => ?_) (fun hc => ?_)
          · have hf := ifp hc hf
            refine lv_iconst (v := (nI 0)) hx hb dX7_termsHere_89 ic_0 ?_
            refine lv_ior hx hb dX7_termsHere_90 ?_
            refine lv_istore_n (lv' := [(2, .int (x2 ||| (nI 0))), (3, .int rv1), (0, .ref k0), (4, .int x4)]) hx hb dX7_termsHere_91 rfl hl (by decide) rfl (fun ls hl => ?_)
            refine lv_iinc (v := (x4 + (nI 1))) (lv' := [(4, .int (x4 + (nI 1))), (2, .int (x2 ||| (nI 0))), (3, .int rv1), (0, .ref k0)]) hx hb dX7_termsHere_92 hl (k := 3) rfl (ii_1 _) (by decide) rfl (fun ls hl => ?_)
            refine lv_goto (tgt := 38) hx hb dX7_termsHere_95 (by decide) ?_
            exact ih (x2 ||| (nI 0)) rv1 (x4 + (nI 1)) hf  ls (lv_sub hl [3, 1, 2, 0] rfl)
          · have hf := ifn hc hf
            refine lv_iconst (v := (nI 1)) hx hb dX7_termsHere_74 ic_1 ?_
            refine lv_aload_n hx hb dX7_termsHere_75 rfl (lv_at hl 1 rfl) ?_
            refine va_get (D := D) (ci := 7) (v := .ref k3) (C := RX7) (T := TX7) (N := 14) hx hb hts hiX7 hown hK.1 hP 0 rfl rfl 3 (by decide) hfl_17 (fun _ h9 => h9) rfl dX7_termsHere_76 ?_
            refine lv_iload hx hb dX7_termsHere_79 (lv_at hl 3 rfl) ?_
            obtain ⟨hi, hf⟩ := gd_some hf
            refine va_iald hx hb hK.1 hP 3 0 rfl rfl hi dX7_termsHere_81 ?_
            refine lv_bipush (v := (nI 97)) hx hb dX7_termsHere_82 bp_97 ?_
            refine lv_isub hx hb dX7_termsHere_84 ?_
            refine lv_ishl hx hb dX7_termsHere_85 ?_
            refine lv_goto (tgt := 90) hx hb dX7_termsHere_86 (by decide) ?_
            refine lv_ior hx hb dX7_termsHere_90 ?_
            refine lv_istore_n (lv' := [(2, .int (x2 ||| ((nI 1) <<< (((k_te x4.toNatClampNeg) - (nI 97)) &&& 31)))), (3, .int rv1), (0, .ref k0), (4, .int x4)]) hx hb dX7_termsHere_91 rfl hl (by decide) rfl (fun ls hl => ?_)
            refine lv_iinc (v := (x4 + (nI 1))) (lv' := [(4, .int (x4 + (nI 1))), (2, .int (x2 ||| ((nI 1) <<< (((k_te x4.toNatClampNeg) - (nI 97)) &&& 31)))), (3, .int rv1), (0, .ref k0)]) hx hb dX7_termsHere_92 hl (k := 3) rfl (ii_1 _) (by decide) rfl (fun ls hl => ?_)
            refine lv_goto (tgt := 38) hx hb dX7_termsHere_95 (by decide) ?_
            exact ih (x2 ||| ((nI 1) <<< (((k_te x4.toNatClampNeg) - (nI 97)) &&& 31))) rv1 (x4 + (nI 1)) hf  ls (lv_sub hl [3, 1, 2, 0] rfl)
  have hl := lv_entry ([.ref k0, .int x1]) (n := 5) (Nat.le_of_ble_eq_true rfl)
  rw [lg_entry_eq]
  generalize (lg_sl ([.ref k0, .int x1]) ++ List.replicate (5 - (lg_sl ([.ref k0, .int x1])).length) Slot.unset).toArray = ls at hl ⊢
  have hl : lv_has ls 5 [(0, .ref k0), (1, .int x1)] := hl
  unfold m_X7_termsHere at hf
  refine lv_iconst (v := (nI 0)) hx hb dX7_termsHere_0 ic_0 ?_
  refine lv_istore_n (lv' := [(2, .int (nI 0)), (0, .ref k0), (1, .int x1)]) hx hb dX7_termsHere_1 rfl hl (by decide) rfl (fun ls hl => ?_)
  refine lv_aload_n hx hb dX7_termsHere_2 rfl (lv_at hl 1 rfl) ?_
  refine va_get (D := D) (ci := 7) (v := .int k_fi) (C := RX7) (T := TX7) (N := 14) hx hb hts hiX7 hown hK.1 hP 0 rfl rfl 5 (by decide) hfl_59 (fun _ h9 => h9) rfl dX7_termsHere_3 ?_
  refine lv_aload_n hx hb dX7_termsHere_6 rfl (lv_at hl 1 rfl) ?_
  refine va_get (D := D) (ci := 7) (v := .int k_len) (C := RX7) (T := TX7) (N := 14) hx hb hts hiX7 hown hK.1 hP 0 rfl rfl 4 (by decide) hfl_44 (fun _ h9 => h9) rfl dX7_termsHere_7 ?_
  refine lv_icmp_ge (tgt := 30) hx hb dX7_termsHere_10 (by decide) (fun hc => ?_) (fun hc => ?_)
  · have hf := ifp hc hf
    refine lv_iconst (v := (nI 0)) hx hb dX7_termsHere_30 ic_0 ?_
    refine lv_istore_n (lv' := [(3, .int (nI 0)), (2, .int (nI 0)), (0, .ref k0), (1, .int x1)]) hx hb dX7_termsHere_31 rfl hl (by decide) rfl (fun ls hl => ?_)
    refine lv_aload_n hx hb dX7_termsHere_32 rfl (lv_at hl 2 rfl) ?_
    refine va_get (D := D) (ci := 7) (v := .int k_fi) (C := RX7) (T := TX7) (N := 14) hx hb hts hiX7 hown hK.1 hP 0 rfl rfl 5 (by decide) hfl_59 (fun _ h9 => h9) rfl dX7_termsHere_33 ?_
    refine lv_istore (lv' := [(4, .int k_fi), (3, .int (nI 0)), (2, .int (nI 0)), (0, .ref k0), (1, .int x1)]) hx hb dX7_termsHere_36 hl (by decide) rfl (fun ls hl => ?_)
    exact hB_38 fu (nI 0) (nI 0) k_fi hf  ls (lv_sub hl [3, 2, 1, 0] rfl)
  · have hf := ifn hc hf
    refine lv_aload_n hx hb dX7_termsHere_13 rfl (lv_at hl 1 rfl) ?_
    refine va_get (D := D) (ci := 7) (v := .int k_be) (C := RX7) (T := TX7) (N := 14) hx hb hts hiX7 hown hK.1 hP 0 rfl rfl 6 (by decide) hfl_56 (fun _ h9 => h9) rfl dX7_termsHere_14 ?_
    refine lv_aload_n hx hb dX7_termsHere_17 rfl (lv_at hl 1 rfl) ?_
    refine va_get (D := D) (ci := 7) (v := .int k_fi) (C := RX7) (T := TX7) (N := 14) hx hb hts hiX7 hown hK.1 hP 0 rfl rfl 5 (by decide) hfl_59 (fun _ h9 => h9) rfl dX7_termsHere_18 ?_
    refine lv_isub hx hb dX7_termsHere_21 ?_
    refine lv_iload_n hx hb dX7_termsHere_22 rfl (lv_at hl 2 rfl) ?_
    refine lv_icmp_gt (tgt := 30) hx hb dX7_termsHere_23 (by decide) (fun hc => ?_) (fun hc => ?_)
    · have hf := ifp hc hf
      refine lv_iconst (v := (nI 0)) hx hb dX7_termsHere_30 ic_0 ?_
      refine lv_istore_n (lv' := [(3, .int (nI 0)), (2, .int (nI 0)), (0, .ref k0), (1, .int x1)]) hx hb dX7_termsHere_31 rfl hl (by decide) rfl (fun ls hl => ?_)
      refine lv_aload_n hx hb dX7_termsHere_32 rfl (lv_at hl 2 rfl) ?_
      refine va_get (D := D) (ci := 7) (v := .int k_fi) (C := RX7) (T := TX7) (N := 14) hx hb hts hiX7 hown hK.1 hP 0 rfl rfl 5 (by decide) hfl_59 (fun _ h9 => h9) rfl dX7_termsHere_33 ?_
      refine lv_istore (lv' := [(4, .int k_fi), (3, .int (nI 0)), (2, .int (nI 0)), (0, .ref k0), (1, .int x1)]) hx hb dX7_termsHere_36 hl (by decide) rfl (fun ls hl => ?_)
      exact hB_38 fu (nI 0) (nI 0) k_fi hf  ls (lv_sub hl [3, 2, 1, 0] rfl)
    · have hf := ifn hc hf
      refine lv_iconst (v := (nI 1)) hx hb dX7_termsHere_26 ic_1 ?_
      refine lv_goto (tgt := 31) hx hb dX7_termsHere_27 (by decide) ?_
      refine lv_istore_n (lv' := [(3, .int (nI 1)), (2, .int (nI 0)), (0, .ref k0), (1, .int x1)]) hx hb dX7_termsHere_31 rfl hl (by decide) rfl (fun ls hl => ?_)
      refine lv_aload_n hx hb dX7_termsHere_32 rfl (lv_at hl 2 rfl) ?_
      refine va_get (D := D) (ci := 7) (v := .int k_fi) (C := RX7) (T := TX7) (N := 14) hx hb hts hiX7 hown hK.1 hP 0 rfl rfl 5 (by decide) hfl_59 (fun _ h9 => h9) rfl dX7_termsHere_33 ?_
      refine lv_istore (lv' := [(4, .int k_fi), (3, .int (nI 1)), (2, .int (nI 0)), (0, .ref k0), (1, .int x1)]) hx hb dX7_termsHere_36 hl (by decide) rfl (fun ls hl => ?_)
      exact hB_38 fu (nI 0) (nI 1) k_fi hf  ls (lv_sub hl [3, 2, 1, 0] rfl)
theorem hdc_X7_readsHome : yX7_readsHome.cls ≠ "java/lang/invoke/MethodHandle" ∧ yX7_readsHome.cls ≠ "java/lang/invoke/VarHandle" ∧ (parseMethodDescriptor yX7_readsHome.desc).map (fun d => d.parameters.length) = some 0 := by decide +kernel
set_option maxHeartbeats 4000000 in
set_option maxRecDepth 100000 in
theorem c_X7_readsHome (l : Launch) (D : va_G) (cI cZ cM : ClassId) (k0 k1 k2 k3 k4 k5 k6 k7 : Nat) (sz : Nat) (k_un : Int32) (k_len : Int32) (k_fi : Int32) (k_be : Int32) (k_to : Int32) (k_cl : Int32) (k_do : Int32) (k_ro : Nat → Int32) (k_ke : Nat → Int32) (k_te : Nat → Int32) (k_nu : Nat → Int32) (k_na : Nat → Int32) (k_no : Nat → Int32) (k_tu : Nat → Int32) (fu : Nat) (r : Int32) (k_fi' : Int32) (k_be' : Int32) (k_ro' : Nat → Int32) (k_nu' : Nat → Int32) (hf : m_X7_readsHome fu k_len k_fi k_be k_to k_do k_ro k_te k_nu = some (r, k_fi', k_be', k_ro', k_nu')) : Met l yX7_readsHome wsX7_readsHome ({ frames := 5, cells := 0, slots := 0, locals := 115 }) (pM D cI cZ cM sz [(k0, .inr (7, [.ref k1, .int k_un, .ref k2, .ref k3, .int k_len, .int k_fi, .int k_be, .int k_to, .int k_cl, .int k_do, .ref k4, .ref k5, .ref k6, .ref k7])), (k1, .inl (cI, 583, .inl k_ro)), (k2, .inl (cZ, 2, .inl k_ke)), (k3, .inl (cI, 200, .inl k_te)), (k4, .inl (cI, 10, .inl k_nu)), (k5, .inl (cI, 48, .inl k_na)), (k6, .inl (cI, 1024, .inl k_no)), (k7, .inl (cI, 1024, .inl k_tu))] [.ref k0]) (qI D r [(k0, .inr (7, [.ref k1, .int k_un, .ref k2, .ref k3, .int k_len, .int k_fi', .int k_be', .int k_to, .int k_cl, .int k_do, .ref k4, .ref k5, .ref k6, .ref k7])), (k1, .inl (cI, 583, .inl k_ro')), (k2, .inl (cZ, 2, .inl k_ke)), (k3, .inl (cI, 200, .inl k_te)), (k4, .inl (cI, 10, .inl k_nu')), (k5, .inl (cI, 48, .inl k_na)), (k6, .inl (cI, 1024, .inl k_no)), (k7, .inl (cI, 1024, .inl k_tu))] (va_A [(k0, .inr (7, [.ref k1, .int k_un, .ref k2, .ref k3, .int k_len, .int k_fi, .int k_be, .int k_to, .int k_cl, .int k_do, .ref k4, .ref k5, .ref k6, .ref k7])), (k1, .inl (cI, 583, .inl k_ro)), (k2, .inl (cZ, 2, .inl k_ke)), (k3, .inl (cI, 200, .inl k_te)), (k4, .inl (cI, 10, .inl k_nu)), (k5, .inl (cI, 48, .inl k_na)), (k6, .inl (cI, 1024, .inl k_no)), (k7, .inl (cI, 1024, .inl k_tu))] sz)) 0 0 (va_A [(k0, .inr (7, [.ref k1, .int k_un, .ref k2, .ref k3, .int k_len, .int k_fi, .int k_be, .int k_to, .int k_cl, .int k_do, .ref k4, .ref k5, .ref k6, .ref k7])), (k1, .inl (cI, 583, .inl k_ro)), (k2, .inl (cZ, 2, .inl k_ke)), (k3, .inl (cI, 200, .inl k_te)), (k4, .inl (cI, 10, .inl k_nu)), (k5, .inl (cI, 48, .inl k_na)), (k6, .inl (cI, 1024, .inl k_no)), (k7, .inl (cI, 1024, .inl k_tu))] sz) := by
  refine Met.ofW (cc := cX7_readsHome) (maxL := 3) (ret := (some .boolean)) (by decide) rfl ?_
  intro p e s m args below meth c s₁ B hml hv
  obtain ⟨rfl, hsz, hP, hK, hD0⟩ := hv
  have hx := B.exec
  have hb := B.bytes
  have hr := B.returns
  have hts := atoms_spec (ws := wsX7_readsHome) B.pre
  have hown : s.vm.findClass RX7 = some m.cls := findClass_of_methodNamed B.named
  have hlocks := B.notSynchronized
  subst hsz
  have hD := hD0.self (sz := s.heap.size)
  generalize hAe : va_A [(k0, .inr (7, [.ref k1, .int k_un, .ref k2, .ref k3, .int k_len, .int k_fi, .int k_be, .int k_to, .int k_cl, .int k_do, .ref k4, .ref k5, .ref k6, .ref k7])), (k1, .inl (cI, 583, .inl k_ro)), (k2, .inl (cZ, 2, .inl k_ke)), (k3, .inl (cI, 200, .inl k_te)), (k4, .inl (cI, 10, .inl k_nu)), (k5, .inl (cI, 48, .inl k_na)), (k6, .inl (cI, 1024, .inl k_no)), (k7, .inl (cI, 1024, .inl k_tu))] s.heap.size = A at hD ⊢
  have hA : ∀ q : Nat, s.heap.size ≤ q → A q := fun q h => by rw [← hAe]; exact Or.inr h
  clear hAe hD0
  have hfl_7 := hts (.fieldLink RX7 7 "TermsFirstModel" "rows" "[I") (List.mem_cons_of_mem _ (List.mem_append_left _ (List.mem_append_left _ (List.mem_of_getElem? (i := 1) rfl))))
  have hfl_20 := hts (.fieldLink RX7 20 "TermsFirstModel" "numbers" "[I") (List.mem_cons_of_mem _ (List.mem_append_left _ (List.mem_append_left _ (List.mem_of_getElem? (i := 2) rfl))))
  have hfl_89 := hts (.fieldLink RX7 89 "TermsFirstModel" "doing" "Z") (List.mem_cons_of_mem _ (List.mem_append_left _ (List.mem_append_left _ (List.mem_of_getElem? (i := 0) rfl))))
  have hiX7 : ∀ w ∈ u_ws RX7 TX7 14, w ∈ wsX7_readsHome := fun _ h => (List.mem_cons_of_mem _ (List.mem_append_right _ h))
  have hB_29 : ∀ (x1 : Int32) (k_fi : Int32) (k_be : Int32) (k_nu : Nat → Int32) (fn : Nat) (x2 : Int32) (k_ro : Nat → Int32), m_X7_readsHome_29 k_fi k_be k_do k_nu x1 fn k_ro x2 = some (r, k_fi', k_be', k_ro', k_nu') → ∀ (H : Heap) (locs : List Loc), va_P D vwCl [(k0, .inr (7, [.ref k1, .int k_un, .ref k2, .ref k3, .int k_len, .int k_fi, .int k_be, .int k_to, .int k_cl, .int k_do, .ref k4, .ref k5, .ref k6, .ref k7])), (k1, .inl (cI, 583, .inl k_ro)), (k2, .inl (cZ, 2, .inl k_ke)), (k3, .inl (cI, 200, .inl k_te)), (k4, .inl (cI, 10, .inl k_nu)), (k5, .inl (cI, 48, .inl k_na)), (k6, .inl (cI, 1024, .inl k_no)), (k7, .inl (cI, 1024, .inl k_tu))] H → va_D A [(k0, .inr (7, [.ref k1, .int k_un, .ref k2, .ref k3, .int k_len, .int k_fi, .int k_be, .int k_to, .int k_cl, .int k_do, .ref k4, .ref k5, .ref k6, .ref k7])), (k1, .inl (cI, 583, .inl k_ro)), (k2, .inl (cZ, 2, .inl k_ke)), (k3, .inl (cI, 200, .inl k_te)), (k4, .inl (cI, 10, .inl k_nu)), (k5, .inl (cI, 48, .inl k_na)), (k6, .inl (cI, 1024, .inl k_no)), (k7, .inl (cI, 1024, .inl k_tu))] → va_S A s.heap H locs → ∀ ls : Array Slot, lv_has ls 3 [(0, .ref k0), (1, .int x1), (2, .int x2)] → W p l e (headSpec wsX7_readsHome { frames := 5, cells := 0, slots := 0, locals := 115 }).room s m ([.ref k0] : List Value).toArray below meth c H locs 0 0 (MQ below (qI D r [(k0, .inr (7, [.ref k1, .int k_un, .ref k2, .ref k3, .int k_len, .int k_fi', .int k_be', .int k_to, .int k_cl, .int k_do, .ref k4, .ref k5, .ref k6, .ref k7])), (k1, .inl (cI, 583, .inl k_ro')), (k2, .inl (cZ, 2, .inl k_ke)), (k3, .inl (cI, 200, .inl k_te)), (k4, .inl (cI, 10, .inl k_nu')), (k5, .inl (cI, 48, .inl k_na)), (k6, .inl (cI, 1024, .inl k_no)), (k7, .inl (cI, 1024, .inl k_tu))] A) ([.ref k0] : List Value).toArray s 0 0 A) (F0 m 29 ls []) := by
    intro x1 k_fi k_be k_nu fn
    induction fn with
    | zero => intro x2 k_ro hf; rw [m_X7_readsHome_29] at hf; cases hf
    | succ fn ih =>
      intro x2 k_ro hf H locs hP hD hS ls hl
      rw [m_X7_readsHome_29] at hf
      refine lv_iload_n hx hb dX7_readsHome_29 rfl (lv_at hl 2 rfl) ?_
      refine lv_bipush (v := (nI 12)) hx hb dX7_readsHome_30 bp_12 ?_
      refine lv_icmp_ge (tgt := 83) hx hb dX7_readsHome_32 (by decide) (fun hc => ?_) (fun hc => ?_)
      · have hf := ifp hc hf
        refine lv_iconst (v := (nI 1)) hx hb dX7_readsHome_83 ic_1 ?_
        cases hf
        exact W.zret hx hb hr zbl_1.1 (fun t ht _ => ⟨⟨rfl, by rw [ht]; exact hP, hD⟩, hS.F ht⟩) hS.2.2 dX7_readsHome_84
      · have hf := ifn hc hf
        refine lv_aload_n hx hb dX7_readsHome_35 rfl (lv_at hl 0 rfl) ?_
        refine va_get (D := D) (ci := 7) (v := .int k_do) (C := RX7) (T := TX7) (N := 14) hx hb hts hiX7 hown hK.1 hP 0 rfl rfl 9 (by decide) hfl_89 (fun _ h9 => h9) rfl dX7_readsHome_36 ?_
        refine lv_if_eq (tgt := 83) hx hb dX7_readsHome_39 (by decide) (fun hc => ?_) (fun hc => ?_)
        · have hf := ifp hc hf
          refine lv_iconst (v := (nI 1)) hx hb dX7_readsHome_83 ic_1 ?_
          cases hf
          exact W.zret hx hb hr zbl_1.1 (fun t ht _ => ⟨⟨rfl, by rw [ht]; exact hP, hD⟩, hS.F ht⟩) hS.2.2 dX7_readsHome_84
        · have hf := ifn hc hf
          refine lv_aload_n hx hb dX7_readsHome_42 rfl (lv_at hl 0 rfl) ?_
          refine va_get (D := D) (ci := 7) (v := .ref k1) (C := RX7) (T := TX7) (N := 14) hx hb hts hiX7 hown hK.1 hP 0 rfl rfl 0 (by decide) hfl_7 (fun _ h9 => h9) rfl dX7_readsHome_43 ?_
          refine lv_bipush (v := (nI 11)) hx hb dX7_readsHome_46 bp_11 ?_
          refine lv_iload_n hx hb dX7_readsHome_48 rfl (lv_at hl 2 rfl) ?_
          refine lv_iadd hx hb dX7_readsHome_49 ?_
          refine lv_iload_n hx hb dX7_readsHome_50 rfl (lv_at hl 1 rfl) ?_
          refine lv_iload_n hx hb dX7_readsHome_51 rfl (lv_at hl 2 rfl) ?_
          obtain ⟨rv4, hrv4, hf⟩ := bd hf
          refine roI (va_runS (As := [.int x1, .int x2]) (rest := [.int ((nI 11) + x2), .ref k1]) ⟨hx, hb, hml, hown, hts⟩ (c_X7_has l D cI cZ cM x1 x2 rv4 hrv4) (va_cwS 2 hts gX7_readsHome_X7_has rfl rfl rfl hdc_X7_has ⟨Nat.le_of_ble_eq_true rfl, Nat.le_of_ble_eq_true rfl⟩) (prS hK hP [] rfl) rfl rfl hl.1 rfl (lv_room (Nat.le_of_ble_eq_true rfl)) dX7_readsHome_52 ⟨Nat.zero_le _, Nat.zero_le _⟩) ?_
          refine lv_if_eq (tgt := 67) hx hb dX7_readsHome_55 (by decide) (fun hc => ?_) (fun hc => ?_)
          · have hf := ifp hc hf
            refine lv_aload_n hx hb dX7_readsHome_67 rfl (lv_at hl 0 rfl) ?_
            refine va_get (D := D) (ci := 7) (v := .ref k1) (C := RX7) (T := TX7) (N := 14) hx hb hts hiX7 hown hK.1 hP 0 rfl rfl 0 (by decide) hfl_7 (fun _ h9 => h9) rfl dX7_readsHome_68 ?_
            refine lv_bipush (v := (nI 11)) hx hb dX7_readsHome_71 bp_11 ?_
            refine lv_iload_n hx hb dX7_readsHome_73 rfl (lv_at hl 2 rfl) ?_
            refine lv_iadd hx hb dX7_readsHome_74 ?_
            obtain ⟨hi, hf⟩ := gd_some hf
            refine va_iald hx hb hK.1 hP 1 0 rfl rfl hi dX7_readsHome_75 ?_
            obtain ⟨hi, hf⟩ := gd_some hf
            refine va_iast hx hb hK.1 hP hD hS 1 0 rfl rfl hi dX7_readsHome_76 (fun H locs hP hD hS => ?_)
            have hP : va_P D vwCl [(k0, .inr (7, [.ref k1, .int k_un, .ref k2, .ref k3, .int k_len, .int k_fi, .int k_be, .int k_to, .int k_cl, .int k_do, .ref k4, .ref k5, .ref k6, .ref k7])), (k1, .inl (cI, 583, .inl (upd k_ro ((nI 11) + x2).toNatClampNeg (k_ro ((nI 11) + x2).toNatClampNeg)))), (k2, .inl (cZ, 2, .inl k_ke)), (k3, .inl (cI, 200, .inl k_te)), (k4, .inl (cI, 10, .inl k_nu)), (k5, .inl (cI, 48, .inl k_na)), (k6, .inl (cI, 1024, .inl k_no)), (k7, .inl (cI, 1024, .inl k_tu))] H := hP
            have hD : va_D A [(k0, .inr (7, [.ref k1, .int k_un, .ref k2, .ref k3, .int k_len, .int k_fi, .int k_be, .int k_to, .int k_cl, .int k_do, .ref k4, .ref k5, .ref k6, .ref k7])), (k1, .inl (cI, 583, .inl (upd k_ro ((nI 11) + x2).toNatClampNeg (k_ro ((nI 11) + x2).toNatClampNeg)))), (k2, .inl (cZ, 2, .inl k_ke)), (k3, .inl (cI, 200, .inl k_te)), (k4, .inl (cI, 10, .inl k_nu)), (k5, .inl (cI, 48, .inl k_na)), (k6, .inl (cI, 1024, .inl k_no)), (k7, .inl (cI, 1024, .inl k_tu))] := hD
            refine lv_iinc (v := (x2 + (nI 1))) (lv' := [(2, .int (x2 + (nI 1))), (0, .ref k0), (1, .int x1)]) hx hb dX7_readsHome_77 hl (k := 2) rfl (ii_1 _) (by decide) rfl (fun ls hl => ?_)
            refine lv_goto (tgt := 29) hx hb dX7_readsHome_80 (by decide) ?_
            exact ih (x2 + (nI 1)) (upd k_ro ((nI 11) + x2).toNatClampNeg (k_ro ((nI 11) + x2).toNatClampNeg)) hf _ _ hP hD hS ls (lv_sub hl [1, 2, 0] rfl)
          · have hf := ifn hc hf
            refine lv_aload_n hx hb dX7_readsHome_58 rfl (lv_at hl 0 rfl) ?_
            refine va_get (D := D) (ci := 7) (v := .ref k4) (C := RX7) (T := TX7) (N := 14) hx hb hts hiX7 hown hK.1 hP 0 rfl rfl 10 (by decide) hfl_20 (fun _ h9 => h9) rfl dX7_readsHome_59 ?_
            refine lv_iconst (v := (nI 0)) hx hb dX7_readsHome_62 ic_0 ?_
            obtain ⟨hi, hf⟩ := gd_some hf
            refine va_iald hx hb hK.1 hP 4 0 rfl rfl hi dX7_readsHome_63 ?_
            refine lv_goto (tgt := 76) hx hb dX7_readsHome_64 (by decide) ?_
            obtain ⟨hi, hf⟩ := gd_some hf
            refine va_iast hx hb hK.1 hP hD hS 1 0 rfl rfl hi dX7_readsHome_76 (fun H locs hP hD hS => ?_)
            have hP : va_P D vwCl [(k0, .inr (7, [.ref k1, .int k_un, .ref k2, .ref k3, .int k_len, .int k_fi, .int k_be, .int k_to, .int k_cl, .int k_do, .ref k4, .ref k5, .ref k6, .ref k7])), (k1, .inl (cI, 583, .inl (upd k_ro ((nI 11) + x2).toNatClampNeg (k_nu (nI 0).toNatClampNeg)))), (k2, .inl (cZ, 2, .inl k_ke)), (k3, .inl (cI, 200, .inl k_te)), (k4, .inl (cI, 10, .inl k_nu)), (k5, .inl (cI, 48, .inl k_na)), (k6, .inl (cI, 1024, .inl k_no)), (k7, .inl (cI, 1024, .inl k_tu))] H := hP
            have hD : va_D A [(k0, .inr (7, [.ref k1, .int k_un, .ref k2, .ref k3, .int k_len, .int k_fi, .int k_be, .int k_to, .int k_cl, .int k_do, .ref k4, .ref k5, .ref k6, .ref k7])), (k1, .inl (cI, 583, .inl (upd k_ro ((nI 11) + x2).toNatClampNeg (k_nu (nI 0).toNatClampNeg)))), (k2, .inl (cZ, 2, .inl k_ke)), (k3, .inl (cI, 200, .inl k_te)), (k4, .inl (cI, 10, .inl k_nu)), (k5, .inl (cI, 48, .inl k_na)), (k6, .inl (cI, 1024, .inl k_no)), (k7, .inl (cI, 1024, .inl k_tu))] := hD
            refine lv_iinc (v := (x2 + (nI 1))) (lv' := [(2, .int (x2 + (nI 1))), (0, .ref k0), (1, .int x1)]) hx hb dX7_readsHome_77 hl (k := 2) rfl (ii_1 _) (by decide) rfl (fun ls hl => ?_)
            refine lv_goto (tgt := 29) hx hb dX7_readsHome_80 (by decide) ?_
            exact ih (x2 + (nI 1)) (upd k_ro ((nI 11) + x2).toNatClampNeg (k_nu (nI 0).toNatClampNeg)) hf _ _ hP hD hS ls (lv_sub hl [1, 2, 0] rfl)
  have hl := lv_entry ([.ref k0]) (n := 3) (Nat.le_of_ble_eq_true rfl)
  rw [lg_entry_eq]
  generalize (lg_sl ([.ref k0]) ++ List.replicate (3 - (lg_sl ([.ref k0])).length) Slot.unset).toArray = ls at hl ⊢
  have hl : lv_has ls 3 [(0, .ref k0)] := hl
  have hS : va_S A s.heap s.heap [] := va_S.rf
  unfold m_X7_readsHome at hf
  refine lv_aload_n hx hb dX7_readsHome_0 rfl (lv_at hl 0 rfl) ?_
  refine lv_iconst (v := (nI 1)) hx hb dX7_readsHome_1 ic_1 ?_
  obtain ⟨rv1, hrv1, hf⟩ := bd hf
  refine roI (va_runV (As := [.int (nI 1)]) (rest := []) ⟨hx, hb, hml, hown, hts⟩ (c_X7_termsHere l D cI cZ cM k0 k1 k2 k3 k4 k5 k6 k7 k_un k_len k_fi k_be k_to k_cl k_do k_ro k_ke k_te k_nu k_na k_no k_tu (nI 1) fu rv1 hrv1) (cwV 1 hts gX7_readsHome_X7_termsHere rfl rfl rfl ⟨rfl, hdc_X7_termsHere⟩ ⟨Nat.le_of_ble_eq_true rfl, Nat.le_of_ble_eq_true rfl⟩) (prV hK hP [0, 1, 2, 3, 4, 5, 6, 7] rfl (ci := 7) (q0 := 0) rfl rfl) rfl rfl hl.1 rfl (lv_room (Nat.le_of_ble_eq_true rfl)) dX7_readsHome_2 ⟨Nat.zero_le _, Nat.zero_le _⟩) ?_
  refine lv_istore_n (lv' := [(1, .int rv1), (0, .ref k0)]) hx hb dX7_readsHome_5 rfl hl (by decide) rfl (fun ls hl => ?_)
  refine lv_iload_n hx hb dX7_readsHome_6 rfl (lv_at hl 0 rfl) ?_
  refine lv_if_ne (tgt := 12) hx hb dX7_readsHome_7 (by decide) (fun hc => ?_) (fun hc => ?_)
  · have hf := ifn hc hf
    refine lv_aload_n hx hb dX7_readsHome_12 rfl (lv_at hl 1 rfl) ?_
    obtain ⟨rv2, hrv2, hf⟩ := bd hf
    refine muV0 (wr := []) (va_runV (As := []) (rest := []) ⟨hx, hb, hml, hown, hts⟩ (c_X7_next l D cI cZ cM k0 k1 k2 k3 k4 k5 k6 k7 _ k_un k_len k_fi k_be k_to k_cl k_do k_ro k_ke k_te k_nu k_na k_no k_tu fu rv2.1 rv2.2 hrv2) (cwV 0 hts gX7_readsHome_X7_next rfl rfl rfl ⟨rfl, hdc_X7_next⟩ ⟨Nat.le_of_ble_eq_true rfl, Nat.le_of_ble_eq_true rfl⟩) (pmV hK hP hD [0, 1, 2, 3, 4, 5, 6, 7] (by decide) rfl rfl (ci := 7) (q0 := 0) rfl rfl) rfl rfl hl.1 rfl (lv_room (Nat.le_of_ble_eq_true rfl)) dX7_readsHome_13 ⟨Nat.zero_le _, Nat.zero_le _⟩) hP hD hS hA [0, 1, 2, 3, 4, 5, 6, 7] [] rfl rfl (by decide) (by decide) (fun H locs hP hD hS => ?_)
    have hP : va_P D vwCl [(k0, .inr (7, [.ref k1, .int k_un, .ref k2, .ref k3, .int k_len, .int rv2.1, .int rv2.2, .int k_to, .int k_cl, .int k_do, .ref k4, .ref k5, .ref k6, .ref k7])), (k1, .inl (cI, 583, .inl k_ro)), (k2, .inl (cZ, 2, .inl k_ke)), (k3, .inl (cI, 200, .inl k_te)), (k4, .inl (cI, 10, .inl k_nu)), (k5, .inl (cI, 48, .inl k_na)), (k6, .inl (cI, 1024, .inl k_no)), (k7, .inl (cI, 1024, .inl k_tu))] H := hP
    have hD : va_D A [(k0, .inr (7, [.ref k1, .int k_un, .ref k2, .ref k3, .int k_len, .int rv2.1, .int rv2.2, .int k_to, .int k_cl, .int k_do, .ref k4, .ref k5, .ref k6, .ref k7])), (k1, .inl (cI, 583, .inl k_ro)), (k2, .inl (cZ, 2, .inl k_ke)), (k3, .inl (cI, 200, .inl k_te)), (k4, .inl (cI, 10, .inl k_nu)), (k5, .inl (cI, 48, .inl k_na)), (k6, .inl (cI, 1024, .inl k_no)), (k7, .inl (cI, 1024, .inl k_tu))] := hD
    refine lv_aload_n hx hb dX7_readsHome_16 rfl (lv_at hl 1 rfl) ?_
    refine lv_iconst (v := (nI 0)) hx hb dX7_readsHome_17 ic_0 ?_
    refine lv_iconst (v := (-1 : Int32)) hx hb dX7_readsHome_18 ic_m1 ?_
    obtain ⟨rv3, hrv3, hf⟩ := bd hf
    refine muI0 (wr := []) (va_runV (As := [.int (nI 0), .int (-1 : Int32)]) (rest := []) ⟨hx, hb, hml, hown, hts⟩ (c_X7_readsSection l D cI cZ cM k0 k1 k2 k3 k4 k5 k6 k7 _ k_un k_len rv2.1 rv2.2 k_to k_cl k_do k_ro k_ke k_te k_nu k_na k_no k_tu (nI 0) (-1 : Int32) fu rv3.1 rv3.2.1 rv3.2.2.1 rv3.2.2.2 hrv3) (cwV 2 hts gX7_readsHome_X7_readsSection rfl rfl rfl ⟨rfl, hdc_X7_readsSection⟩ ⟨Nat.le_of_ble_eq_true rfl, Nat.le_of_ble_eq_true rfl⟩) (pmV hK hP hD [0, 1, 2, 3, 4, 5, 6, 7] (by decide) rfl rfl (ci := 7) (q0 := 0) rfl rfl) rfl rfl hl.1 rfl (lv_room (Nat.le_of_ble_eq_true rfl)) dX7_readsHome_19 ⟨Nat.zero_le _, Nat.zero_le _⟩) hP hD hS hA [0, 1, 2, 3, 4, 5, 6, 7] [] rfl rfl (by decide) (by decide) (fun H locs hP hD hS => ?_)
    have hP : va_P D vwCl [(k0, .inr (7, [.ref k1, .int k_un, .ref k2, .ref k3, .int k_len, .int rv3.2.1, .int rv3.2.2.1, .int k_to, .int k_cl, .int k_do, .ref k4, .ref k5, .ref k6, .ref k7])), (k1, .inl (cI, 583, .inl k_ro)), (k2, .inl (cZ, 2, .inl k_ke)), (k3, .inl (cI, 200, .inl k_te)), (k4, .inl (cI, 10, .inl rv3.2.2.2)), (k5, .inl (cI, 48, .inl k_na)), (k6, .inl (cI, 1024, .inl k_no)), (k7, .inl (cI, 1024, .inl k_tu))] H := hP
    have hD : va_D A [(k0, .inr (7, [.ref k1, .int k_un, .ref k2, .ref k3, .int k_len, .int rv3.2.1, .int rv3.2.2.1, .int k_to, .int k_cl, .int k_do, .ref k4, .ref k5, .ref k6, .ref k7])), (k1, .inl (cI, 583, .inl k_ro)), (k2, .inl (cZ, 2, .inl k_ke)), (k3, .inl (cI, 200, .inl k_te)), (k4, .inl (cI, 10, .inl rv3.2.2.2)), (k5, .inl (cI, 48, .inl k_na)), (k6, .inl (cI, 1024, .inl k_no)), (k7, .inl (cI, 1024, .inl k_tu))] := hD
    refine lv_if_ne (tgt := 27) hx hb dX7_readsHome_22 (by decide) (fun hc => ?_) (fun hc => ?_)
    · have hf := ifn hc hf
      refine lv_iconst (v := (nI 0)) hx hb dX7_readsHome_27 ic_0 ?_
      refine lv_istore_n (lv' := [(2, .int (nI 0)), (1, .int rv1), (0, .ref k0)]) hx hb dX7_readsHome_28 rfl hl (by decide) rfl (fun ls hl => ?_)
      exact hB_29 rv1 rv3.2.1 rv3.2.2.1 rv3.2.2.2 fu (nI 0) k_ro hf _ _ hP hD hS ls (lv_sub hl [2, 1, 0] rfl)
    · have hf := ifp hc hf
      refine lv_iconst (v := (nI 0)) hx hb dX7_readsHome_25 ic_0 ?_
      cases hf
      exact W.zret hx hb hr zbl_0.1 (fun t ht _ => ⟨⟨rfl, by rw [ht]; exact hP, hD⟩, hS.F ht⟩) hS.2.2 dX7_readsHome_26
  · have hf := ifp hc hf
    refine lv_iconst (v := (nI 0)) hx hb dX7_readsHome_10 ic_0 ?_
    cases hf
    exact W.zret hx hb hr zbl_0.1 (fun t ht _ => ⟨⟨rfl, by rw [ht]; exact hP, hD⟩, hS.F ht⟩) hS.2.2 dX7_readsHome_11
