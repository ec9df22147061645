theorem hdc_X7_readsUses : yX7_readsUses.cls ≠ "java/lang/invoke/MethodHandle" ∧ yX7_readsUses.cls ≠ "java/lang/invoke/VarHandle" ∧ (parseMethodDescriptor yX7_readsUses.desc).map (fun d => d.parameters.length) = some 0 := by decide +kernel
set_option maxHeartbeats 4000000 in
set_option maxRecDepth 100000 in
theorem c_X7_readsUses (l : Launch) (D : va_G) (cI cZ cM : ClassId) (k0 k1 k2 k3 k4 k5 k6 k7 : Nat) (sz : Nat) (k_un : Int32) (k_len : Int32) (k_fi : Int32) (k_be : Int32) (k_to : Int32) (k_cl : Int32) (k_do : Int32) (k_ro : Nat → Int32) (k_ke : Nat → Int32) (k_te : Nat → Int32) (k_nu : Nat → Int32) (k_na : Nat → Int32) (k_no : Nat → Int32) (k_tu : Nat → Int32) (fu : Nat) (r : Int32) (k_fi' : Int32) (k_be' : Int32) (k_ro' : Nat → Int32) (k_nu' : Nat → Int32) (hf : m_X7_readsUses fu k_len k_fi k_be k_to k_do k_ro k_te k_nu = some (r, k_fi', k_be', k_ro', k_nu')) : Met l yX7_readsUses wsX7_readsUses ({ frames := 5, cells := 0, slots := 0, locals := 115 }) (pM D cI cZ cM sz [(k0, .inr (7, [.ref k1, .int k_un, .ref k2, .ref k3, .int k_len, .int k_fi, .int k_be, .int k_to, .int k_cl, .int k_do, .ref k4, .ref k5, .ref k6, .ref k7])), (k1, .inl (cI, 583, .inl k_ro)), (k2, .inl (cZ, 2, .inl k_ke)), (k3, .inl (cI, 200, .inl k_te)), (k4, .inl (cI, 10, .inl k_nu)), (k5, .inl (cI, 48, .inl k_na)), (k6, .inl (cI, 1024, .inl k_no)), (k7, .inl (cI, 1024, .inl k_tu))] [.ref k0]) (qI D r [(k0, .inr (7, [.ref k1, .int k_un, .ref k2, .ref k3, .int k_len, .int k_fi', .int k_be', .int k_to, .int k_cl, .int k_do, .ref k4, .ref k5, .ref k6, .ref k7])), (k1, .inl (cI, 583, .inl k_ro')), (k2, .inl (cZ, 2, .inl k_ke)), (k3, .inl (cI, 200, .inl k_te)), (k4, .inl (cI, 10, .inl k_nu')), (k5, .inl (cI, 48, .inl k_na)), (k6, .inl (cI, 1024, .inl k_no)), (k7, .inl (cI, 1024, .inl k_tu))] (va_A [(k0, .inr (7, [.ref k1, .int k_un, .ref k2, .ref k3, .int k_len, .int k_fi, .int k_be, .int k_to, .int k_cl, .int k_do, .ref k4, .ref k5, .ref k6, .ref k7])), (k1, .inl (cI, 583, .inl k_ro)), (k2, .inl (cZ, 2, .inl k_ke)), (k3, .inl (cI, 200, .inl k_te)), (k4, .inl (cI, 10, .inl k_nu)), (k5, .inl (cI, 48, .inl k_na)), (k6, .inl (cI, 1024, .inl k_no)), (k7, .inl (cI, 1024, .inl k_tu))] sz)) 0 0 (va_A [(k0, .inr (7, [.ref k1, .int k_un, .ref k2, .ref k3, .int k_len, .int k_fi, .int k_be, .int k_to, .int k_cl, .int k_do, .ref k4, .ref k5, .ref k6, .ref k7])), (k1, .inl (cI, 583, .inl k_ro)), (k2, .inl (cZ, 2, .inl k_ke)), (k3, .inl (cI, 200, .inl k_te)), (k4, .inl (cI, 10, .inl k_nu)), (k5, .inl (cI, 48, .inl k_na)), (k6, .inl (cI, 1024, .inl k_no)), (k7, .inl (cI, 1024, .inl k_tu))] sz) := by
  refine Met.ofW (cc := cX7_readsUses) (maxL := 2) (ret := (some .boolean)) (by decide) rfl ?_
  intro p e s m args below meth c s₁ B hml hv
  obtain ⟨rfl, hsz, hP, hK, hD0⟩ := hv
  have hx := B.exec
  have hb := B.bytes
  have hr := B.returns
  have hts := atoms_spec (ws := wsX7_readsUses) B.pre
  have hown : s.vm.findClass RX7 = some m.cls := findClass_of_methodNamed B.named
  have hlocks := B.notSynchronized
  subst hsz
  have hD := hD0.self (sz := s.heap.size)
  generalize hAe : va_A [(k0, .inr (7, [.ref k1, .int k_un, .ref k2, .ref k3, .int k_len, .int k_fi, .int k_be, .int k_to, .int k_cl, .int k_do, .ref k4, .ref k5, .ref k6, .ref k7])), (k1, .inl (cI, 583, .inl k_ro)), (k2, .inl (cZ, 2, .inl k_ke)), (k3, .inl (cI, 200, .inl k_te)), (k4, .inl (cI, 10, .inl k_nu)), (k5, .inl (cI, 48, .inl k_na)), (k6, .inl (cI, 1024, .inl k_no)), (k7, .inl (cI, 1024, .inl k_tu))] s.heap.size = A at hD ⊢
  have hA : ∀ q : Nat, s.heap.size ≤ q → A q := fun q h => by rw [← hAe]; exact Or.inr h
  clear hAe hD0
  have hfl_7 := hts (.fieldLink RX7 7 "TermsFirstModel" "rows" "[I") (List.mem_cons_of_mem _ (List.mem_append_left _ (List.mem_append_left _ (List.mem_of_getElem? (i := 1) rfl))))
  have hfl_20 := hts (.fieldLink RX7 20 "TermsFirstModel" "numbers" "[I") (List.mem_cons_of_mem _ (List.mem_append_left _ (List.mem_append_left _ (List.mem_of_getElem? (i := 2) rfl))))
  have hfl_89 := hts (.fieldLink RX7 89 "TermsFirstModel" "doing" "Z") (List.mem_cons_of_mem _ (List.mem_append_left _ (List.mem_append_left _ (List.mem_of_getElem? (i := 0) rfl))))
  have hiX7 : ∀ w ∈ u_ws RX7 TX7 14, w ∈ wsX7_readsUses := fun _ h => (List.mem_cons_of_mem _ (List.mem_append_right _ h))
  have hl := lv_entry ([.ref k0]) (n := 2) (Nat.le_of_ble_eq_true rfl)
  rw [lg_entry_eq]
  generalize (lg_sl ([.ref k0]) ++ List.replicate (2 - (lg_sl ([.ref k0])).length) Slot.unset).toArray = ls at hl ⊢
  have hl : lv_has ls 2 [(0, .ref k0)] := hl
  have hS : va_S A s.heap s.heap [] := va_S.rf
  unfold m_X7_readsUses at hf
  refine lv_aload_n hx hb dX7_readsUses_0 rfl (lv_at hl 0 rfl) ?_
  refine lv_iconst (v := (nI 0)) hx hb dX7_readsUses_1 ic_0 ?_
  refine lv_iconst (v := (-1 : Int32)) hx hb dX7_readsUses_2 ic_m1 ?_
  obtain ⟨rv1, hrv1, hf⟩ := bd hf
  refine muI0 (wr := []) (va_runV (As := [.int (nI 0), .int (-1 : Int32)]) (rest := []) ⟨hx, hb, hml, hown, hts⟩ (c_X7_readsSection l D cI cZ cM k0 k1 k2 k3 k4 k5 k6 k7 _ k_un k_len k_fi k_be k_to k_cl k_do k_ro k_ke k_te k_nu k_na k_no k_tu (nI 0) (-1 : Int32) fu rv1.1 rv1.2.1 rv1.2.2.1 rv1.2.2.2 hrv1) (cwV 2 hts gX7_readsUses_X7_readsSection rfl rfl rfl ⟨rfl, hdc_X7_readsSection⟩ ⟨Nat.le_of_ble_eq_true rfl, Nat.le_of_ble_eq_true rfl⟩) (pmV hK hP hD [0, 1, 2, 3, 4, 5, 6, 7] (by decide) rfl rfl (ci := 7) (q0 := 0) rfl rfl) rfl rfl hl.1 rfl (lv_room (Nat.le_of_ble_eq_true rfl)) dX7_readsUses_3 ⟨Nat.zero_le _, Nat.zero_le _⟩) hP hD hS hA [0, 1, 2, 3, 4, 5, 6, 7] [] rfl rfl (by decide) (by decide) (fun H locs hP hD hS => ?_)
  have hP : va_P D vwCl [(k0, .inr (7, [.ref k1, .int k_un, .ref k2, .ref k3, .int k_len, .int rv1.2.1, .int rv1.2.2.1, .int k_to, .int k_cl, .int k_do, .ref k4, .ref k5, .ref k6, .ref k7])), (k1, .inl (cI, 583, .inl k_ro)), (k2, .inl (cZ, 2, .inl k_ke)), (k3, .inl (cI, 200, .inl k_te)), (k4, .inl (cI, 10, .inl rv1.2.2.2)), (k5, .inl (cI, 48, .inl k_na)), (k6, .inl (cI, 1024, .inl k_no)), (k7, .inl (cI, 1024, .inl k_tu))] H := hP
  have hD : va_D A [(k0, .inr (7, [.ref k1, .int k_un, .ref k2, .ref k3, .int k_len, .int rv1.2.1, .int rv1.2.2.1, .int k_to, .int k_cl, .int k_do, .ref k4, .ref k5, .ref k6, .ref k7])), (k1, .inl (cI, 583, .inl k_ro)), (k2, .inl (cZ, 2, .inl k_ke)), (k3, .inl (cI, 200, .inl k_te)), (k4, .inl (cI, 10, .inl rv1.2.2.2)), (k5, .inl (cI, 48, .inl k_na)), (k6, .inl (cI, 1024, .inl k_no)), (k7, .inl (cI, 1024, .inl k_tu))] := hD
  refine lv_if_ne (tgt := 11) hx hb dX7_readsUses_6 (by decide) (fun hc => ?_) (fun hc => ?_)
  · have hf := ifn hc hf
    refine lv_aload_n hx hb dX7_readsUses_11 rfl (lv_at hl 0 rfl) ?_
    refine lv_bipush (v := (nI 12)) hx hb dX7_readsUses_12 bp_12 ?_
    obtain ⟨rv2, hrv2, hf⟩ := bd hf
    refine roI (va_runV (As := [.int (nI 12)]) (rest := []) ⟨hx, hb, hml, hown, hts⟩ (c_X7_termsHere l D cI cZ cM k0 k1 k2 k3 k4 k5 k6 k7 k_un k_len rv1.2.1 rv1.2.2.1 k_to k_cl k_do k_ro k_ke k_te rv1.2.2.2 k_na k_no k_tu (nI 12) fu rv2 hrv2) (cwV 1 hts gX7_readsUses_X7_termsHere rfl rfl rfl ⟨rfl, hdc_X7_termsHere⟩ ⟨Nat.le_of_ble_eq_true rfl, Nat.le_of_ble_eq_true rfl⟩) (prV hK hP [0, 1, 2, 3, 4, 5, 6, 7] rfl (ci := 7) (q0 := 0) rfl rfl) rfl rfl hl.1 rfl (lv_room (Nat.le_of_ble_eq_true rfl)) dX7_readsUses_14 ⟨Nat.zero_le _, Nat.zero_le _⟩) ?_
    refine lv_istore_n (lv' := [(1, .int rv2), (0, .ref k0)]) hx hb dX7_readsUses_17 rfl hl (by decide) rfl (fun ls hl => ?_)
    refine lv_iload_n hx hb dX7_readsUses_18 rfl (lv_at hl 0 rfl) ?_
    refine lv_if_ne (tgt := 24) hx hb dX7_readsUses_19 (by decide) (fun hc => ?_) (fun hc => ?_)
    · have hf := ifn hc hf
      refine lv_aload_n hx hb dX7_readsUses_24 rfl (lv_at hl 1 rfl) ?_
      refine va_get (D := D) (ci := 7) (v := .int k_do) (C := RX7) (T := TX7) (N := 14) hx hb hts hiX7 hown hK.1 hP 0 rfl rfl 9 (by decide) hfl_89 (fun _ h9 => h9) rfl dX7_readsUses_25 ?_
      refine lv_if_eq (tgt := 49) hx hb dX7_readsUses_28 (by decide) (fun hc => ?_) (fun hc => ?_)
      · have hf := ifp hc hf
        refine lv_aload_n hx hb dX7_readsUses_49 rfl (lv_at hl 1 rfl) ?_
        obtain ⟨rv3, hrv3, hf⟩ := bd hf
        refine muV0 (wr := []) (va_runV (As := []) (rest := []) ⟨hx, hb, hml, hown, hts⟩ (c_X7_next l D cI cZ cM k0 k1 k2 k3 k4 k5 k6 k7 _ k_un k_len rv1.2.1 rv1.2.2.1 k_to k_cl k_do k_ro k_ke k_te rv1.2.2.2 k_na k_no k_tu fu rv3.1 rv3.2 hrv3) (cwV 0 hts gX7_readsUses_X7_next rfl rfl rfl ⟨rfl, hdc_X7_next⟩ ⟨Nat.le_of_ble_eq_true rfl, Nat.le_of_ble_eq_true rfl⟩) (pmV hK hP hD [0, 1, 2, 3, 4, 5, 6, 7] (by decide) rfl rfl (ci := 7) (q0 := 0) rfl rfl) rfl rfl hl.1 rfl (lv_room (Nat.le_of_ble_eq_true rfl)) dX7_readsUses_50 ⟨Nat.zero_le _, Nat.zero_le _⟩) hP hD hS hA [0, 1, 2, 3, 4, 5, 6, 7] [] rfl rfl (by decide) (by decide) (fun H locs hP hD hS => ?_)
        have hP : va_P D vwCl [(k0, .inr (7, [.ref k1, .int k_un, .ref k2, .ref k3, .int k_len, .int rv3.1, .int rv3.2, .int k_to, .int k_cl, .int k_do, .ref k4, .ref k5, .ref k6, .ref k7])), (k1, .inl (cI, 583, .inl k_ro)), (k2, .inl (cZ, 2, .inl k_ke)), (k3, .inl (cI, 200, .inl k_te)), (k4, .inl (cI, 10, .inl rv1.2.2.2)), (k5, .inl (cI, 48, .inl k_na)), (k6, .inl (cI, 1024, .inl k_no)), (k7, .inl (cI, 1024, .inl k_tu))] H := hP
        have hD : va_D A [(k0, .inr (7, [.ref k1, .int k_un, .ref k2, .ref k3, .int k_len, .int rv3.1, .int rv3.2, .int k_to, .int k_cl, .int k_do, .ref k4, .ref k5, .ref k6, .ref k7])), (k1, .inl (cI, 583, .inl k_ro)), (k2, .inl (cZ, 2, .inl k_ke)), (k3, .inl (cI, 200, .inl k_te)), (k4, .inl (cI, 10, .inl rv1.2.2.2)), (k5, .inl (cI, 48, .inl k_na)), (k6, .inl (cI, 1024, .inl k_no)), (k7, .inl (cI, 1024, .inl k_tu))] := hD
        refine lv_iconst (v := (nI 1)) hx hb dX7_readsUses_53 ic_1 ?_
        cases hf
        exact W.zret hx hb hr zbl_1.1 (fun t ht _ => ⟨⟨rfl, by rw [ht]; exact hP, hD⟩, hS.F ht⟩) hS.2.2 dX7_readsUses_54
      · have hf := ifn hc hf
        refine lv_aload_n hx hb dX7_readsUses_31 rfl (lv_at hl 1 rfl) ?_
        refine va_get (D := D) (ci := 7) (v := .ref k1) (C := RX7) (T := TX7) (N := 14) hx hb hts hiX7 hown hK.1 hP 0 rfl rfl 0 (by decide) hfl_7 (fun _ h9 => h9) rfl dX7_readsUses_32 ?_
        refine lv_bipush (v := (nI 23)) hx hb dX7_readsUses_35 bp_23 ?_
        refine lv_aload_n hx hb dX7_readsUses_37 rfl (lv_at hl 1 rfl) ?_
        refine va_get (D := D) (ci := 7) (v := .ref k4) (C := RX7) (T := TX7) (N := 14) hx hb hts hiX7 hown hK.1 hP 0 rfl rfl 10 (by decide) hfl_20 (fun _ h9 => h9) rfl dX7_readsUses_38 ?_
        refine lv_iconst (v := (nI 0)) hx hb dX7_readsUses_41 ic_0 ?_
        obtain ⟨hi, hf⟩ := gd_some hf
        refine va_iald hx hb hK.1 hP 4 0 rfl rfl hi dX7_readsUses_42 ?_
        refine lv_iadd hx hb dX7_readsUses_43 ?_
        refine lv_dup2_11 hx hb dX7_readsUses_44 rfl rfl ?_
        obtain ⟨hi, hf⟩ := gd_some hf
        refine va_iald hx hb hK.1 hP 1 0 rfl rfl hi dX7_readsUses_45 ?_
        refine lv_iload_n hx hb dX7_readsUses_46 rfl (lv_at hl 0 rfl) ?_
        refine lv_ior hx hb dX7_readsUses_47 ?_
        obtain ⟨hi, hf⟩ := gd_some hf
        refine va_iast hx hb hK.1 hP hD hS 1 0 rfl rfl hi dX7_readsUses_48 (fun H locs hP hD hS => ?_)
        have hP : va_P D vwCl [(k0, .inr (7, [.ref k1, .int k_un, .ref k2, .ref k3, .int k_len, .int rv1.2.1, .int rv1.2.2.1, .int k_to, .int k_cl, .int k_do, .ref k4, .ref k5, .ref k6, .ref k7])), (k1, .inl (cI, 583, .inl (upd k_ro ((nI 23) + (rv1.2.2.2 (nI 0).toNatClampNeg)).toNatClampNeg ((k_ro ((nI 23) + (rv1.2.2.2 (nI 0).toNatClampNeg)).toNatClampNeg) ||| rv2)))), (k2, .inl (cZ, 2, .inl k_ke)), (k3, .inl (cI, 200, .inl k_te)), (k4, .inl (cI, 10, .inl rv1.2.2.2)), (k5, .inl (cI, 48, .inl k_na)), (k6, .inl (cI, 1024, .inl k_no)), (k7, .inl (cI, 1024, .inl k_tu))] H := hP
        have hD : va_D A [(k0, .inr (7, [.ref k1, .int k_un, .ref k2, .ref k3, .int k_len, .int rv1.2.1, .int rv1.2.2.1, .int k_to, .int k_cl, .int k_do, .ref k4, .ref k5, .ref k6, .ref k7])), (k1, .inl (cI, 583, .inl (upd k_ro ((nI 23) + (rv1.2.2.2 (nI 0).toNatClampNeg)).toNatClampNeg ((k_ro ((nI 23) + (rv1.2.2.2 (nI 0).toNatClampNeg)).toNatClampNeg) ||| rv2)))), (k2, .inl (cZ, 2, .inl k_ke)), (k3, .inl (cI, 200, .inl k_te)), (k4, .inl (cI, 10, .inl rv1.2.2.2)), (k5, .inl (cI, 48, .inl k_na)), (k6, .inl (cI, 1024, .inl k_no)), (k7, .inl (cI, 1024, .inl k_tu))] := hD
        refine lv_aload_n hx hb dX7_readsUses_49 rfl (lv_at hl 1 rfl) ?_
        obtain ⟨rv4, hrv4, hf⟩ := bd hf
        refine muV0 (wr := []) (va_runV (As := []) (rest := []) ⟨hx, hb, hml, hown, hts⟩ (c_X7_next l D cI cZ cM k0 k1 k2 k3 k4 k5 k6 k7 _ k_un k_len rv1.2.1 rv1.2.2.1 k_to k_cl k_do (upd k_ro ((nI 23) + (rv1.2.2.2 (nI 0).toNatClampNeg)).toNatClampNeg ((k_ro ((nI 23) + (rv1.2.2.2 (nI 0).toNatClampNeg)).toNatClampNeg) ||| rv2)) k_ke k_te rv1.2.2.2 k_na k_no k_tu fu rv4.1 rv4.2 hrv4) (cwV 0 hts gX7_readsUses_X7_next rfl rfl rfl ⟨rfl, hdc_X7_next⟩ ⟨Nat.le_of_ble_eq_true rfl, Nat.le_of_ble_eq_true rfl⟩) (pmV hK hP hD [0, 1, 2, 3, 4, 5, 6, 7] (by decide) rfl rfl (ci := 7) (q0 := 0) rfl rfl) rfl rfl hl.1 rfl (lv_room (Nat.le_of_ble_eq_true rfl)) dX7_readsUses_50 ⟨Nat.zero_le _, Nat.zero_le _⟩) hP hD hS hA [0, 1, 2, 3, 4, 5, 6, 7] [] rfl rfl (by decide) (by decide) (fun H locs hP hD hS => ?_)
        have hP : va_P D vwCl [(k0, .inr (7, [.ref k1, .int k_un, .ref k2, .ref k3, .int k_len, .int rv4.1, .int rv4.2, .int k_to, .int k_cl, .int k_do, .ref k4, .ref k5, .ref k6, .ref k7])), (k1, .inl (cI, 583, .inl (upd k_ro ((nI 23) + (rv1.2.2.2 (nI 0).toNatClampNeg)).toNatClampNeg ((k_ro ((nI 23) + (rv1.2.2.2 (nI 0).toNatClampNeg)).toNatClampNeg) ||| rv2)))), (k2, .inl (cZ, 2, .inl k_ke)), (k3, .inl (cI, 200, .inl k_te)), (k4, .inl (cI, 10, .inl rv1.2.2.2)), (k5, .inl (cI, 48, .inl k_na)), (k6, .inl (cI, 1024, .inl k_no)), (k7, .inl (cI, 1024, .inl k_tu))] H := hP
        have hD : va_D A [(k0, .inr (7, [.ref k1, .int k_un, .ref k2, .ref k3, .int k_len, .int rv4.1, .int rv4.2, .int k_to, .int k_cl, .int k_do, .ref k4, .ref k5, .ref k6, .ref k7])), (k1, .inl (cI, 583, .inl (upd k_ro ((nI 23) + (rv1.2.2.2 (nI 0).toNatClampNeg)).toNatClampNeg ((k_ro ((nI 23) + (rv1.2.2.2 (nI 0).toNatClampNeg)).toNatClampNeg) ||| rv2)))), (k2, .inl (cZ, 2, .inl k_ke)), (k3, .inl (cI, 200, .inl k_te)), (k4, .inl (cI, 10, .inl rv1.2.2.2)), (k5, .inl (cI, 48, .inl k_na)), (k6, .inl (cI, 1024, .inl k_no)), (k7, .inl (cI, 1024, .inl k_tu))] := hD
        refine lv_iconst (v := (nI 1)) hx hb dX7_readsUses_53 ic_1 ?_
        cases hf
        exact W.zret hx hb hr zbl_1.1 (fun t ht _ => ⟨⟨rfl, by rw [ht]; exact hP, hD⟩, hS.F ht⟩) hS.2.2 dX7_readsUses_54
    · have hf := ifp hc hf
      refine lv_iconst (v := (nI 0)) hx hb dX7_readsUses_22 ic_0 ?_
      cases hf
      exact W.zret hx hb hr zbl_0.1 (fun t ht _ => ⟨⟨rfl, by rw [ht]; exact hP, hD⟩, hS.F ht⟩) hS.2.2 dX7_readsUses_23
  · have hf := ifp hc hf
    refine lv_iconst (v := (nI 0)) hx hb dX7_readsUses_9 ic_0 ?_
    cases hf
    exact W.zret hx hb hr zbl_0.1 (fun t ht _ => ⟨⟨rfl, by rw [ht]; exact hP, hD⟩, hS.F ht⟩) hS.2.2 dX7_readsUses_10
theorem hdc_X7_isKeeping : yX7_isKeeping.cls ≠ "java/lang/invoke/MethodHandle" ∧ yX7_isKeeping.cls ≠ "java/lang/invoke/VarHandle" ∧ (parseMethodDescriptor yX7_isKeeping.desc).map (fun d => d.parameters.length) = some 0 := by decide +kernel
set_option maxHeartbeats 4000000 in
set_option maxRecDepth 100000 in
theorem c_X7_isKeeping (l : Launch) (D : va_G) (cI cZ cM : ClassId) (k0 k1 k2 k3 k4 k5 k6 k7 : Nat) (k_un : Int32) (k_len : Int32) (k_fi : Int32) (k_be : Int32) (k_to : Int32) (k_cl : Int32) (k_do : Int32) (k_ro : Nat → Int32) (k_ke : Nat → Int32) (k_te : Nat → Int32) (k_nu : Nat → Int32) (k_na : Nat → Int32) (k_no : Nat → Int32) (k_tu : Nat → Int32) (fu : Nat) (r : Int32) (hf : m_X7_isKeeping fu k_ro k_nu = some r) : Met l yX7_isKeeping wsX7_isKeeping ({ frames := 0, cells := 0, slots := 0, locals := 0 }) (pR D cI cZ cM [(k0, .inr (7, [.ref k1, .int k_un, .ref k2, .ref k3, .int k_len, .int k_fi, .int k_be, .int k_to, .int k_cl, .int k_do, .ref k4, .ref k5, .ref k6, .ref k7])), (k1, .inl (cI, 583, .inl k_ro)), (k2, .inl (cZ, 2, .inl k_ke)), (k3, .inl (cI, 200, .inl k_te)), (k4, .inl (cI, 10, .inl k_nu)), (k5, .inl (cI, 48, .inl k_na)), (k6, .inl (cI, 1024, .inl k_no)), (k7, .inl (cI, 1024, .inl k_tu))] [.ref k0]) (qR r) 0 0 (fun _ => False) := by
  refine Met.ofW (cc := cX7_isKeeping) (maxL := 4) (ret := (some .boolean)) (by decide) rfl ?_
  intro p e s m args below meth c s₁ B hml hv
  obtain ⟨rfl, hP, hK⟩ := hv
  have hx := B.exec
  have hb := B.bytes
  have hr := B.returns
  have hts := atoms_spec (ws := wsX7_isKeeping) B.pre
  have hown : s.vm.findClass RX7 = some m.cls := findClass_of_methodNamed B.named
  have hlocks := B.notSynchronized
  have hfl_7 := hts (.fieldLink RX7 7 "TermsFirstModel" "rows" "[I") (List.mem_cons_of_mem _ (List.mem_append_left _ (List.mem_of_getElem? (i := 0) rfl)))
  have hfl_20 := hts (.fieldLink RX7 20 "TermsFirstModel" "numbers" "[I") (List.mem_cons_of_mem _ (List.mem_append_left _ (List.mem_of_getElem? (i := 1) rfl)))
  have hiX7 : ∀ w ∈ u_ws RX7 TX7 14, w ∈ wsX7_isKeeping := fun _ h => (List.mem_cons_of_mem _ (List.mem_append_right _ h))
  have hB_46 : ∀ (x1 : Int32) (x3 : Int32) (s0 : Int32) (kt6 : Int32 → Int32 → Int32 → Option (Int32)) (hkt6 : ∀ (x1 : Int32) (x2 : Int32) (x3 : Int32), kt6 x1 x2 x3 = some r → ∀ ls : Array Slot, lv_has ls 4 [(0, .ref k0), (1, .int x1), (2, .int x2), (3, .int x3)] → W p l e (headSpec wsX7_isKeeping { frames := 0, cells := 0, slots := 0, locals := 0 }).room s m ([.ref k0] : List Value).toArray below meth c s.heap [] 0 0 (MQ below (qR r) ([.ref k0] : List Value).toArray s 0 0 (fun _ => False)) (F0 m 6 ls [])), m_X7_isKeeping_46 k_nu s0 x1 x3 kt6 = some r → ∀ ls : Array Slot, lv_has ls 4 [(0, .ref k0), (1, .int x1), (3, .int x3)] → W p l e (headSpec wsX7_isKeeping { frames := 0, cells := 0, slots := 0, locals := 0 }).room s m ([.ref k0] : List Value).toArray below meth c s.heap [] 0 0 (MQ below (qR r) ([.ref k0] : List Value).toArray s 0 0 (fun _ => False)) (F0 m 46 ls [.int s0]) := by
    intro x1 x3 s0 kt6 hkt6 hf ls hl
    unfold m_X7_isKeeping_46 at hf
    refine lv_istore_n (lv' := [(2, .int s0), (0, .ref k0), (1, .int x1), (3, .int x3)]) hx hb dX7_isKeeping_46 rfl hl (by decide) rfl (fun ls hl => ?_)
    refine lv_iload_n hx hb dX7_isKeeping_47 rfl (lv_at hl 2 rfl) ?_
    refine lv_iconst (v := (nI 1)) hx hb dX7_isKeeping_48 ic_1 ?_
    refine lv_aload_n hx hb dX7_isKeeping_49 rfl (lv_at hl 1 rfl) ?_
    refine va_get (D := D) (ci := 7) (v := .ref k4) (C := RX7) (T := TX7) (N := 14) hx hb hts hiX7 hown hK.1 hP 0 rfl rfl 10 (by decide) hfl_20 (fun _ h9 => h9) rfl dX7_isKeeping_50 ?_
    refine lv_iload_n hx hb dX7_isKeeping_53 rfl (lv_at hl 3 rfl) ?_
    obtain ⟨hi, hf⟩ := gd_some hf
    refine va_iald hx hb hK.1 hP 4 0 rfl rfl hi dX7_isKeeping_54 ?_
    refine lv_ishl hx hb dX7_isKeeping_55 ?_
    refine lv_ior hx hb dX7_isKeeping_56 ?_
    refine lv_istore_n (lv' := [(1, .int (x1 ||| ((nI 1) <<< ((k_nu x3.toNatClampNeg) &&& 31)))), (2, .int s0), (0, .ref k0), (3, .int x3)]) hx hb dX7_isKeeping_57 rfl hl (by decide) rfl (fun ls hl => ?_)
    refine lv_iinc (v := (x3 + (nI 1))) (lv' := [(3, .int (x3 + (nI 1))), (1, .int (x1 ||| ((nI 1) <<< ((k_nu x3.toNatClampNeg) &&& 31)))), (2, .int s0), (0, .ref k0)]) hx hb dX7_isKeeping_58 hl (k := 3) rfl (ii_1 _) (by decide) rfl (fun ls hl => ?_)
    refine lv_goto (tgt := 6) hx hb dX7_isKeeping_61 (by decide) ?_
    exact hkt6 (x1 ||| ((nI 1) <<< ((k_nu x3.toNatClampNeg) &&& 31))) s0 (x3 + (nI 1)) hf  ls (lv_sub hl [3, 1, 2, 0] rfl)
  have hB_6 : ∀ (fn : Nat) (x1 : Int32) (x2 : Int32) (x3 : Int32), m_X7_isKeeping_6 k_ro k_nu fn x1 x2 x3 = some r → ∀ ls : Array Slot, lv_has ls 4 [(0, .ref k0), (1, .int x1), (2, .int x2), (3, .int x3)] → W p l e (headSpec wsX7_isKeeping { frames := 0, cells := 0, slots := 0, locals := 0 }).room s m ([.ref k0] : List Value).toArray below meth c s.heap [] 0 0 (MQ below (qR r) ([.ref k0] : List Value).toArray s 0 0 (fun _ => False)) (F0 m 6 ls []) := by
    intro fn
    induction fn with
    | zero => intro x1 x2 x3 hf; rw [m_X7_isKeeping_6] at hf; cases hf
    | succ fn ih =>
      intro x1 x2 x3 hf ls hl
      rw [m_X7_isKeeping_6] at hf
      refine lv_iload_n hx hb dX7_isKeeping_6 rfl (lv_at hl 3 rfl) ?_
      refine lv_aload_n hx hb dX7_isKeeping_7 rfl (lv_at hl 0 rfl) ?_
      refine va_get (D := D) (ci := 7) (v := .ref k1) (C := RX7) (T := TX7) (N := 14) hx hb hts hiX7 hown hK.1 hP 0 rfl rfl 0 (by decide) hfl_7 (fun _ h9 => h9) rfl dX7_isKeeping_8 ?_
      refine lv_iconst (v := (nI 0)) hx hb dX7_isKeeping_11 ic_0 ?_
      obtain ⟨hi, hf⟩ := gd_some hf
      refine va_iald hx hb hK.1 hP 1 0 rfl rfl hi dX7_isKeeping_12 ?_
      refine lv_icmp_ge (tgt := 64) hx hb dX7_isKeeping_13 (by decide) (fun hc => ?_) (fun hc => ?_)
      · have hf := ifp hc hf
        refine lv_iload_n hx hb dX7_isKeeping_64 rfl (lv_at hl 2 rfl) ?_
        obtain ⟨hz, hf⟩ := zb_some hf
        cases hf
        exact W.zret hx hb hr hz.1 (fun t ht _ => ⟨rfl, ht⟩) (fun _ h => nomatch h) dX7_isKeeping_65
      · have hf := ifn hc hf
        refine lv_iload_n hx hb dX7_isKeeping_16 rfl (lv_at hl 2 rfl) ?_
        refine lv_if_eq (tgt := 45) hx hb dX7_isKeeping_17 (by decide) (fun hc => ?_) (fun hc => ?_)
        · have hf := ifp hc hf
          refine lv_iconst (v := (nI 0)) hx hb dX7_isKeeping_45 ic_0 ?_
          exact hB_46 x1 x3 (nI 0) _ ih hf  ls (lv_sub hl [0, 1, 3] rfl)
        · have hf := ifn hc hf
          refine lv_aload_n hx hb dX7_isKeeping_20 rfl (lv_at hl 0 rfl) ?_
          refine va_get (D := D) (ci := 7) (v := .ref k1) (C := RX7) (T := TX7) (N := 14) hx hb hts hiX7 hown hK.1 hP 0 rfl rfl 0 (by decide) hfl_7 (fun _ h9 => h9) rfl dX7_isKeeping_21 ?_
          refine lv_bipush (v := (nI 43)) hx hb dX7_isKeeping_24 bp_43 ?_
          refine lv_aload_n hx hb dX7_isKeeping_26 rfl (lv_at hl 0 rfl) ?_
          refine va_get (D := D) (ci := 7) (v := .ref k4) (C := RX7) (T := TX7) (N := 14) hx hb hts hiX7 hown hK.1 hP 0 rfl rfl 10 (by decide) hfl_20 (fun _ h9 => h9) rfl dX7_isKeeping_27 ?_
          refine lv_iload_n hx hb dX7_isKeeping_30 rfl (lv_at hl 3 rfl) ?_
          obtain ⟨hi, hf⟩ := gd_some hf
          refine va_iald hx hb hK.1 hP 4 0 rfl rfl hi dX7_isKeeping_31 ?_
          refine lv_iadd hx hb dX7_isKeeping_32 ?_
          obtain ⟨hi, hf⟩ := gd_some hf
          refine va_iald hx hb hK.1 hP 1 0 rfl rfl hi dX7_isKeeping_33 ?_
          refine lv_iload_n hx hb dX7_isKeeping_34 rfl (lv_at hl 1 rfl) ?_
          refine lv_iconst (v := (-1 : Int32)) hx hb dX7_isKeeping_35 ic_m1 ?_
          refine lv_ixor hx hb dX7_isKeeping_36 ?_
          refine lv_iand hx hb dX7_isKeeping_37 ?_
          refine lv_if_ne (tgt := 45) hx hb dX7_isKeeping_38 (by decide) (fun hc => ?_) (fun hc => ?_)
          · have hf := ifn hc hf
            refine lv_iconst (v := (nI 0)) hx hb dX7_isKeeping_45 ic_0 ?_
            exact hB_46 x1 x3 (nI 0) _ ih hf  ls (lv_sub hl [0, 1, 3] rfl)
          · have hf := ifp hc hf
            refine lv_iconst (v := (nI 1)) hx hb dX7_isKeeping_41 ic_1 ?_
            refine lv_goto (tgt := 46) hx hb dX7_isKeeping_42 (by decide) ?_
            exact hB_46 x1 x3 (nI 1) _ ih hf  ls (lv_sub hl [0, 1, 3] rfl)
  have hl := lv_entry ([.ref k0]) (n := 4) (Nat.le_of_ble_eq_true rfl)
  rw [lg_entry_eq]
  generalize (lg_sl ([.ref k0]) ++ List.replicate (4 - (lg_sl ([.ref k0])).length) Slot.unset).toArray = ls at hl ⊢
  have hl : lv_has ls 4 [(0, .ref k0)] := hl
  unfold m_X7_isKeeping at hf
  refine lv_iconst (v := (nI 0)) hx hb dX7_isKeeping_0 ic_0 ?_
  refine lv_istore_n (lv' := [(1, .int (nI 0)), (0, .ref k0)]) hx hb dX7_isKeeping_1 rfl hl (by decide) rfl (fun ls hl => ?_)
  refine lv_iconst (v := (nI 1)) hx hb dX7_isKeeping_2 ic_1 ?_
  refine lv_istore_n (lv' := [(2, .int (nI 1)), (1, .int (nI 0)), (0, .ref k0)]) hx hb dX7_isKeeping_3 rfl hl (by decide) rfl (fun ls hl => ?_)
  refine lv_iconst (v := (nI 0)) hx hb dX7_isKeeping_4 ic_0 ?_
  refine lv_istore_n (lv' := [(3, .int (nI 0)), (2, .int (nI 1)), (1, .int (nI 0)), (0, .ref k0)]) hx hb dX7_isKeeping_5 rfl hl (by decide) rfl (fun ls hl => ?_)
  exact hB_6 fu (nI 0) (nI 1) (nI 0) hf  ls (lv_sub hl [3, 2, 1, 0] rfl)
theorem hdc_X7_valueHere : yX7_valueHere.cls ≠ "java/lang/invoke/MethodHandle" ∧ yX7_valueHere.cls ≠ "java/lang/invoke/VarHandle" ∧ (parseMethodDescriptor yX7_valueHere.desc).map (fun d => d.parameters.length) = some 0 := by decide +kernel
set_option maxHeartbeats 4000000 in
set_option maxRecDepth 100000 in
theorem c_X7_valueHere (l : Launch) (D : va_G) (cI cZ cM : ClassId) (k0 k1 k2 k3 k4 k5 k6 k7 : Nat) (k_un : Int32) (k_len : Int32) (k_fi : Int32) (k_be : Int32) (k_to : Int32) (k_cl : Int32) (k_do : Int32) (k_ro : Nat → Int32) (k_ke : Nat → Int32) (k_te : Nat → Int32) (k_nu : Nat → Int32) (k_na : Nat → Int32) (k_no : Nat → Int32) (k_tu : Nat → Int32) (fu : Nat) (r : Int32) (hf : m_X7_valueHere fu k_fi k_be k_te = some r) : Met l yX7_valueHere wsX7_valueHere ({ frames := 0, cells := 0, slots := 0, locals := 0 }) (pR D cI cZ cM [(k0, .inr (7, [.ref k1, .int k_un, .ref k2, .ref k3, .int k_len, .int k_fi, .int k_be, .int k_to, .int k_cl, .int k_do, .ref k4, .ref k5, .ref k6, .ref k7])), (k1, .inl (cI, 583, .inl k_ro)), (k2, .inl (cZ, 2, .inl k_ke)), (k3, .inl (cI, 200, .inl k_te)), (k4, .inl (cI, 10, .inl k_nu)), (k5, .inl (cI, 48, .inl k_na)), (k6, .inl (cI, 1024, .inl k_no)), (k7, .inl (cI, 1024, .inl k_tu))] [.ref k0]) (qR r) 0 0 (fun _ => False) := by
  refine Met.ofW (cc := cX7_valueHere) (maxL := 3) (ret := (some .int)) (by decide) rfl ?_
  intro p e s m args below meth c s₁ B hml hv
  obtain ⟨rfl, hP, hK⟩ := hv
  have hx := B.exec
  have hb := B.bytes
  have hr := B.returns
  have hts := atoms_spec (ws := wsX7_valueHere) B.pre
  have hown : s.vm.findClass RX7 = some m.cls := findClass_of_methodNamed B.named
  have hlocks := B.notSynchronized
  have hfl_17 := hts (.fieldLink RX7 17 "TermsFirstModel" "text" "[I") (List.mem_cons_of_mem _ (List.mem_append_left _ (List.mem_of_getElem? (i := 2) rfl)))
  have hfl_56 := hts (.fieldLink RX7 56 "TermsFirstModel" "behind" "I") (List.mem_cons_of_mem _ (List.mem_append_left _ (List.mem_of_getElem? (i := 1) rfl)))
  have hfl_59 := hts (.fieldLink RX7 59 "TermsFirstModel" "first" "I") (List.mem_cons_of_mem _ (List.mem_append_left _ (List.mem_of_getElem? (i := 0) rfl)))
  have hiX7 : ∀ w ∈ u_ws RX7 TX7 14, w ∈ wsX7_valueHere := fun _ h => (List.mem_cons_of_mem _ (List.mem_append_right _ h))
  have hB_7 : ∀ (fn : Nat) (x1 : Int32) (x2 : Int32), m_X7_valueHere_7 k_be k_te fn x1 x2 = some r → ∀ ls : Array Slot, lv_has ls 3 [(0, .ref k0), (1, .int x1), (2, .int x2)] → W p l e (headSpec wsX7_valueHere { frames := 0, cells := 0, slots := 0, locals := 0 }).room s m ([.ref k0] : List Value).toArray below meth c s.heap [] 0 0 (MQ below (qR r) ([.ref k0] : List Value).toArray s 0 0 (fun _ => False)) (F0 m 7 ls []) := by
    intro fn
    induction fn with
    | zero => intro x1 x2 hf; rw [m_X7_valueHere_7] at hf; cases hf
    | succ fn ih =>
      intro x1 x2 hf ls hl
      rw [m_X7_valueHere_7] at hf
      refine lv_iload_n hx hb dX7_valueHere_7 rfl (lv_at hl 2 rfl) ?_
      refine lv_aload_n hx hb dX7_valueHere_8 rfl (lv_at hl 0 rfl) ?_
      refine va_get (D := D) (ci := 7) (v := .int k_be) (C := RX7) (T := TX7) (N := 14) hx hb hts hiX7 hown hK.1 hP 0 rfl rfl 6 (by decide) hfl_56 (fun _ h9 => h9) rfl dX7_valueHere_9 ?_
      refine lv_icmp_ge (tgt := 36) hx hb dX7_valueHere_12 (by decide) (fun hc => ?_) (fun hc => ?_)
      · have hf := ifp hc hf
        refine lv_iload_n hx hb dX7_valueHere_36 rfl (lv_at hl 1 rfl) ?_
        cases hf
        exact W.iret hx hb hr (fun t ht _ => ⟨rfl, ht⟩) (fun _ h => nomatch h) dX7_valueHere_37
      · have hf := ifn hc hf
        refine lv_bipush (v := (nI 10)) hx hb dX7_valueHere_15 bp_10 ?_
        refine lv_iload_n hx hb dX7_valueHere_17 rfl (lv_at hl 1 rfl) ?_
        refine lv_imul hx hb dX7_valueHere_18 ?_
        refine lv_aload_n hx hb dX7_valueHere_19 rfl (lv_at hl 0 rfl) ?_
        refine va_get (D := D) (ci := 7) (v := .ref k3) (C := RX7) (T := TX7) (N := 14) hx hb hts hiX7 hown hK.1 hP 0 rfl rfl 3 (by decide) hfl_17 (fun _ h9 => h9) rfl dX7_valueHere_20 ?_
        refine lv_iload_n hx hb dX7_valueHere_23 rfl (lv_at hl 2 rfl) ?_
        obtain ⟨hi, hf⟩ := gd_some hf
        refine va_iald hx hb hK.1 hP 3 0 rfl rfl hi dX7_valueHere_24 ?_
        refine lv_iadd hx hb dX7_valueHere_25 ?_
        refine lv_bipush (v := (nI 48)) hx hb dX7_valueHere_26 bp_48 ?_
        refine lv_isub hx hb dX7_valueHere_28 ?_
        refine lv_istore_n (lv' := [(1, .int ((((nI 10) * x1) + (k_te x2.toNatClampNeg)) - (nI 48))), (0, .ref k0), (2, .int x2)]) hx hb dX7_valueHere_29 rfl hl (by decide) rfl (fun ls hl => ?_)
        refine lv_iinc (v := (x2 + (nI 1))) (lv' := [(2, .int (x2 + (nI 1))), (1, .int ((((nI 10) * x1) + (k_te x2.toNatClampNeg)) - (nI 48))), (0, .ref k0)]) hx hb dX7_valueHere_30 hl (k := 2) rfl (ii_1 _) (by decide) rfl (fun ls hl => ?_)
        refine lv_goto (tgt := 7) hx hb dX7_valueHere_33 (by decide) ?_
        exact ih ((((nI 10) * x1) + (k_te x2.toNatClampNeg)) - (nI 48)) (x2 + (nI 1)) hf  ls (lv_sub hl [2, 1, 0] rfl)
  have hl := lv_entry ([.ref k0]) (n := 3) (Nat.le_of_ble_eq_true rfl)
  rw [lg_entry_eq]
  generalize (lg_sl ([.ref k0]) ++ List.replicate (3 - (lg_sl ([.ref k0])).length) Slot.unset).toArray = ls at hl ⊢
  have hl : lv_has ls 3 [(0, .ref k0)] := hl
  unfold m_X7_valueHere at hf
  refine lv_iconst (v := (nI 0)) hx hb dX7_valueHere_0 ic_0 ?_
  refine lv_istore_n (lv' := [(1, .int (nI 0)), (0, .ref k0)]) hx hb dX7_valueHere_1 rfl hl (by decide) rfl (fun ls hl => ?_)
  refine lv_aload_n hx hb dX7_valueHere_2 rfl (lv_at hl 1 rfl) ?_
  refine va_get (D := D) (ci := 7) (v := .int k_fi) (C := RX7) (T := TX7) (N := 14) hx hb hts hiX7 hown hK.1 hP 0 rfl rfl 5 (by decide) hfl_59 (fun _ h9 => h9) rfl dX7_valueHere_3 ?_
  refine lv_istore_n (lv' := [(2, .int k_fi), (1, .int (nI 0)), (0, .ref k0)]) hx hb dX7_valueHere_6 rfl hl (by decide) rfl (fun ls hl => ?_)
  exact hB_7 fu (nI 0) k_fi hf  ls (lv_sub hl [2, 1, 0] rfl)
theorem hdc_X7_readsOrder : yX7_readsOrder.cls ≠ "java/lang/invoke/MethodHandle" ∧ yX7_readsOrder.cls ≠ "java/lang/invoke/VarHandle" ∧ (parseMethodDescriptor yX7_readsOrder.desc).map (fun d => d.parameters.length) = some 0 := by decide +kernel
set_option maxHeartbeats 4000000 in
set_option maxRecDepth 100000 in
theorem c_X7_readsOrder (l : Launch) (D : va_G) (cI cZ cM : ClassId) (k0 k1 k2 k3 k4 k5 k6 k7 : Nat) (sz : Nat) (k_un : Int32) (k_len : Int32) (k_fi : Int32) (k_be : Int32) (k_to : Int32) (k_cl : Int32) (k_do : Int32) (k_ro : Nat → Int32) (k_ke : Nat → Int32) (k_te : Nat → Int32) (k_nu : Nat → Int32) (k_na : Nat → Int32) (k_no : Nat → Int32) (k_tu : Nat → Int32) (fu : Nat) (r : Int32) (k_fi' : Int32) (k_be' : Int32) (k_ro' : Nat → Int32) (k_nu' : Nat → Int32) (hf : m_X7_readsOrder fu k_len k_fi k_be k_to k_do k_ro k_te k_nu = some (r, k_fi', k_be', k_ro', k_nu')) : Met l yX7_readsOrder wsX7_readsOrder ({ frames := 5, cells := 0, slots := 0, locals := 115 }) (pM D cI cZ cM sz [(k0, .inr (7, [.ref k1, .int k_un, .ref k2, .ref k3, .int k_len, .int k_fi, .int k_be, .int k_to, .int k_cl, .int k_do, .ref k4, .ref k5, .ref k6, .ref k7])), (k1, .inl (cI, 583, .inl k_ro)), (k2, .inl (cZ, 2, .inl k_ke)), (k3, .inl (cI, 200, .inl k_te)), (k4, .inl (cI, 10, .inl k_nu)), (k5, .inl (cI, 48, .inl k_na)), (k6, .inl (cI, 1024, .inl k_no)), (k7, .inl (cI, 1024, .inl k_tu))] [.ref k0]) (qI D r [(k0, .inr (7, [.ref k1, .int k_un, .ref k2, .ref k3, .int k_len, .int k_fi', .int k_be', .int k_to, .int k_cl, .int k_do, .ref k4, .ref k5, .ref k6, .ref k7])), (k1, .inl (cI, 583, .inl k_ro')), (k2, .inl (cZ, 2, .inl k_ke)), (k3, .inl (cI, 200, .inl k_te)), (k4, .inl (cI, 10, .inl k_nu')), (k5, .inl (cI, 48, .inl k_na)), (k6, .inl (cI, 1024, .inl k_no)), (k7, .inl (cI, 1024, .inl k_tu))] (va_A [(k0, .inr (7, [.ref k1, .int k_un, .ref k2, .ref k3, .int k_len, .int k_fi, .int k_be, .int k_to, .int k_cl, .int k_do, .ref k4, .ref k5, .ref k6, .ref k7])), (k1, .inl (cI, 583, .inl k_ro)), (k2, .inl (cZ, 2, .inl k_ke)), (k3, .inl (cI, 200, .inl k_te)), (k4, .inl (cI, 10, .inl k_nu)), (k5, .inl (cI, 48, .inl k_na)), (k6, .inl (cI, 1024, .inl k_no)), (k7, .inl (cI, 1024, .inl k_tu))] sz)) 0 0 (va_A [(k0, .inr (7, [.ref k1, .int k_un, .ref k2, .ref k3, .int k_len, .int k_fi, .int k_be, .int k_to, .int k_cl, .int k_do, .ref k4, .ref k5, .ref k6, .ref k7])), (k1, .inl (cI, 583, .inl k_ro)), (k2, .inl (cZ, 2, .inl k_ke)), (k3, .inl (cI, 200, .inl k_te)), (k4, .inl (cI, 10, .inl k_nu)), (k5, .inl (cI, 48, .inl k_na)), (k6, .inl (cI, 1024, .inl k_no)), (k7, .inl (cI, 1024, .inl k_tu))] sz) := by
  refine Met.ofW (cc := cX7_readsOrder) (maxL := 4) (ret := (some .boolean)) (by decide) rfl ?_
  intro p e s m args below meth c s₁ B hml hv
  obtain ⟨rfl, hsz, hP, hK, hD0⟩ := hv
  have hx := B.exec
  have hb := B.bytes
  have hr := B.returns
  have hts := atoms_spec (ws := wsX7_readsOrder) B.pre
  have hown : s.vm.findClass RX7 = some m.cls := findClass_of_methodNamed B.named
  have hlocks := B.notSynchronized
  subst hsz
  have hD := hD0.self (sz := s.heap.size)
  generalize hAe : va_A [(k0, .inr (7, [.ref k1, .int k_un, .ref k2, .ref k3, .int k_len, .int k_fi, .int k_be, .int k_to, .int k_cl, .int k_do, .ref k4, .ref k5, .ref k6, .ref k7])), (k1, .inl (cI, 583, .inl k_ro)), (k2, .inl (cZ, 2, .inl k_ke)), (k3, .inl (cI, 200, .inl k_te)), (k4, .inl (cI, 10, .inl k_nu)), (k5, .inl (cI, 48, .inl k_na)), (k6, .inl (cI, 1024, .inl k_no)), (k7, .inl (cI, 1024, .inl k_tu))] s.heap.size = A at hD ⊢
  have hA : ∀ q : Nat, s.heap.size ≤ q → A q := fun q h => by rw [← hAe]; exact Or.inr h
  clear hAe hD0
  have hfl_7 := hts (.fieldLink RX7 7 "TermsFirstModel" "rows" "[I") (List.mem_cons_of_mem _ (List.mem_append_left _ (List.mem_append_left _ (List.mem_of_getElem? (i := 7) rfl))))
  have hfl_17 := hts (.fieldLink RX7 17 "TermsFirstModel" "text" "[I") (List.mem_cons_of_mem _ (List.mem_append_left _ (List.mem_append_left _ (List.mem_of_getElem? (i := 3) rfl))))
  have hfl_20 := hts (.fieldLink RX7 20 "TermsFirstModel" "numbers" "[I") (List.mem_cons_of_mem _ (List.mem_append_left _ (List.mem_append_left _ (List.mem_of_getElem? (i := 5) rfl))))
  have hfl_44 := hts (.fieldLink RX7 44 "TermsFirstModel" "length" "I") (List.mem_cons_of_mem _ (List.mem_append_left _ (List.mem_append_left _ (List.mem_of_getElem? (i := 2) rfl))))
  have hfl_56 := hts (.fieldLink RX7 56 "TermsFirstModel" "behind" "I") (List.mem_cons_of_mem _ (List.mem_append_left _ (List.mem_append_left _ (List.mem_of_getElem? (i := 4) rfl))))
  have hfl_59 := hts (.fieldLink RX7 59 "TermsFirstModel" "first" "I") (List.mem_cons_of_mem _ (List.mem_append_left _ (List.mem_append_left _ (List.mem_of_getElem? (i := 1) rfl))))
  have hfl_72 := hts (.fieldLink RX7 72 "TermsFirstModel" "told" "I") (List.mem_cons_of_mem _ (List.mem_append_left _ (List.mem_append_left _ (List.mem_of_getElem? (i := 0) rfl))))
  have hfl_89 := hts (.fieldLink RX7 89 "TermsFirstModel" "doing" "Z") (List.mem_cons_of_mem _ (List.mem_append_left _ (List.mem_append_left _ (List.mem_of_getElem? (i := 6) rfl))))
  have hiX7 : ∀ w ∈ u_ws RX7 TX7 14, w ∈ wsX7_readsOrder := fun _ h => (List.mem_cons_of_mem _ (List.mem_append_right _ h))
  have hB_125 : ∀ (k_fi : Int32) (k_be : Int32) (k_nu : Nat → Int32) (fn : Nat) (x2 : Int32) (k_ro : Nat → Int32), m_X7_readsOrder_125 k_fi k_be k_to k_nu fn k_ro x2 = some (r, k_fi', k_be', k_ro', k_nu') → ∀ (H : Heap) (locs : List Loc), va_P D vwCl [(k0, .inr (7, [.ref k1, .int k_un, .ref k2, .ref k3, .int k_len, .int k_fi, .int k_be, .int k_to, .int k_cl, .int k_do, .ref k4, .ref k5, .ref k6, .ref k7])), (k1, .inl (cI, 583, .inl k_ro)), (k2, .inl (cZ, 2, .inl k_ke)), (k3, .inl (cI, 200, .inl k_te)), (k4, .inl (cI, 10, .inl k_nu)), (k5, .inl (cI, 48, .inl k_na)), (k6, .inl (cI, 1024, .inl k_no)), (k7, .inl (cI, 1024, .inl k_tu))] H → va_D A [(k0, .inr (7, [.ref k1, .int k_un, .ref k2, .ref k3, .int k_len, .int k_fi, .int k_be, .int k_to, .int k_cl, .int k_do, .ref k4, .ref k5, .ref k6, .ref k7])), (k1, .inl (cI, 583, .inl k_ro)), (k2, .inl (cZ, 2, .inl k_ke)), (k3, .inl (cI, 200, .inl k_te)), (k4, .inl (cI, 10, .inl k_nu)), (k5, .inl (cI, 48, .inl k_na)), (k6, .inl (cI, 1024, .inl k_no)), (k7, .inl (cI, 1024, .inl k_tu))] → va_S A s.heap H locs → ∀ ls : Array Slot, lv_has ls 4 [(0, .ref k0), (2, .int x2)] → W p l e (headSpec wsX7_readsOrder { frames := 5, cells := 0, slots := 0, locals := 115 }).room s m ([.ref k0] : List Value).toArray below meth c H locs 0 0 (MQ below (qI D r [(k0, .inr (7, [.ref k1, .int k_un, .ref k2, .ref k3, .int k_len, .int k_fi', .int k_be', .int k_to, .int k_cl, .int k_do, .ref k4, .ref k5, .ref k6, .ref k7])), (k1, .inl (cI, 583, .inl k_ro')), (k2, .inl (cZ, 2, .inl k_ke)), (k3, .inl (cI, 200, .inl k_te)), (k4, .inl (cI, 10, .inl k_nu')), (k5, .inl (cI, 48, .inl k_na)), (k6, .inl (cI, 1024, .inl k_no)), (k7, .inl (cI, 1024, .inl k_tu))] A) ([.ref k0] : List Value).toArray s 0 0 A) (F0 m 125 ls []) := by
    intro k_fi k_be k_nu fn
    induction fn with
    | zero => intro x2 k_ro hf; rw [m_X7_readsOrder_125] at hf; cases hf
    | succ fn ih =>
      intro x2 k_ro hf H locs hP hD hS ls hl
      rw [m_X7_readsOrder_125] at hf
      refine lv_iload_n hx hb dX7_readsOrder_125 rfl (lv_at hl 1 rfl) ?_
      refine lv_aload_n hx hb dX7_readsOrder_126 rfl (lv_at hl 0 rfl) ?_
      refine va_get (D := D) (ci := 7) (v := .int k_to) (C := RX7) (T := TX7) (N := 14) hx hb hts hiX7 hown hK.1 hP 0 rfl rfl 7 (by decide) hfl_72 (fun _ h9 => h9) rfl dX7_readsOrder_127 ?_
      refine lv_icmp_ge (tgt := 154) hx hb dX7_readsOrder_130 (by decide) (fun hc => ?_) (fun hc => ?_)
      · have hf := ifp hc hf
        refine lv_iconst (v := (nI 1)) hx hb dX7_readsOrder_154 ic_1 ?_
        cases hf
        exact W.zret hx hb hr zbl_1.1 (fun t ht _ => ⟨⟨rfl, by rw [ht]; exact hP, hD⟩, hS.F ht⟩) hS.2.2 dX7_readsOrder_155
      · have hf := ifn hc hf
        refine lv_aload_n hx hb dX7_readsOrder_133 rfl (lv_at hl 0 rfl) ?_
        refine va_get (D := D) (ci := 7) (v := .ref k1) (C := RX7) (T := TX7) (N := 14) hx hb hts hiX7 hown hK.1 hP 0 rfl rfl 0 (by decide) hfl_7 (fun _ h9 => h9) rfl dX7_readsOrder_134 ?_
        refine lv_bipush (v := (nI 33)) hx hb dX7_readsOrder_137 bp_33 ?_
        refine lv_iload_n hx hb dX7_readsOrder_139 rfl (lv_at hl 1 rfl) ?_
        refine lv_iadd hx hb dX7_readsOrder_140 ?_
        refine lv_aload_n hx hb dX7_readsOrder_141 rfl (lv_at hl 0 rfl) ?_
        refine va_get (D := D) (ci := 7) (v := .ref k4) (C := RX7) (T := TX7) (N := 14) hx hb hts hiX7 hown hK.1 hP 0 rfl rfl 10 (by decide) hfl_20 (fun _ h9 => h9) rfl dX7_readsOrder_142 ?_
        refine lv_iload_n hx hb dX7_readsOrder_145 rfl (lv_at hl 1 rfl) ?_
        obtain ⟨hi, hf⟩ := gd_some hf
        refine va_iald hx hb hK.1 hP 4 0 rfl rfl hi dX7_readsOrder_146 ?_
        obtain ⟨hi, hf⟩ := gd_some hf
        refine va_iast hx hb hK.1 hP hD hS 1 0 rfl rfl hi dX7_readsOrder_147 (fun H locs hP hD hS => ?_)
        have hP : va_P D vwCl [(k0, .inr (7, [.ref k1, .int k_un, .ref k2, .ref k3, .int k_len, .int k_fi, .int k_be, .int k_to, .int k_cl, .int k_do, .ref k4, .ref k5, .ref k6, .ref k7])), (k1, .inl (cI, 583, .inl (upd k_ro ((nI 33) + x2).toNatClampNeg (k_nu x2.toNatClampNeg)))), (k2, .inl (cZ, 2, .inl k_ke)), (k3, .inl (cI, 200, .inl k_te)), (k4, .inl (cI, 10, .inl k_nu)), (k5, .inl (cI, 48, .inl k_na)), (k6, .inl (cI, 1024, .inl k_no)), (k7, .inl (cI, 1024, .inl k_tu))] H := hP
        have hD : va_D A [(k0, .inr (7, [.ref k1, .int k_un, .ref k2, .ref k3, .int k_len, .int k_fi, .int k_be, .int k_to, .int k_cl, .int k_do, .ref k4, .ref k5, .ref k6, .ref k7])), (k1, .inl (cI, 583, .inl (upd k_ro ((nI 33) + x2).toNatClampNeg (k_nu x2.toNatClampNeg)))), (k2, .inl (cZ, 2, .inl k_ke)), (k3, .inl (cI, 200, .inl k_te)), (k4, .inl (cI, 10, .inl k_nu)), (k5, .inl (cI, 48, .inl k_na)), (k6, .inl (cI, 1024, .inl k_no)), (k7, .inl (cI, 1024, .inl k_tu))] := hD
        refine lv_iinc (v := (x2 + (nI 1))) (lv' := [(2, .int (x2 + (nI 1))), (0, .ref k0)]) hx hb dX7_readsOrder_148 hl (k := 1) rfl (ii_1 _) (by decide) rfl (fun ls hl => ?_)
        refine lv_goto (tgt := 125) hx hb dX7_readsOrder_151 (by decide) ?_
        exact ih (x2 + (nI 1)) (upd k_ro ((nI 33) + x2).toNatClampNeg (k_nu x2.toNatClampNeg)) hf _ _ hP hD hS ls (lv_sub hl [1, 0] rfl)
  have hB_59 : ∀ (x1 : Int32) (x2 : Int32) (s0 : Int32) (k_fi : Int32) (k_be : Int32) (k_nu : Nat → Int32) (kt4 : Int32 → Int32 → (Nat → Int32) → Int32 → Int32 → Option (Int32 × Int32 × Int32 × (Nat → Int32) × (Nat → Int32))) (hkt4 : ∀ (x1 : Int32) (x2 : Int32) (k_fi : Int32) (k_be : Int32) (k_nu : Nat → Int32), kt4 k_fi k_be k_nu x1 x2 = some (r, k_fi', k_be', k_ro', k_nu') → ∀ (H : Heap) (locs : List Loc), va_P D vwCl [(k0, .inr (7, [.ref k1, .int k_un, .ref k2, .ref k3, .int k_len, .int k_fi, .int k_be, .int k_to, .int k_cl, .int k_do, .ref k4, .ref k5, .ref k6, .ref k7])), (k1, .inl (cI, 583, .inl k_ro)), (k2, .inl (cZ, 2, .inl k_ke)), (k3, .inl (cI, 200, .inl k_te)), (k4, .inl (cI, 10, .inl k_nu)), (k5, .inl (cI, 48, .inl k_na)), (k6, .inl (cI, 1024, .inl k_no)), (k7, .inl (cI, 1024, .inl k_tu))] H → va_D A [(k0, .inr (7, [.ref k1, .int k_un, .ref k2, .ref k3, .int k_len, .int k_fi, .int k_be, .int k_to, .int k_cl, .int k_do, .ref k4, .ref k5, .ref k6, .ref k7])), (k1, .inl (cI, 583, .inl k_ro)), (k2, .inl (cZ, 2, .inl k_ke)), (k3, .inl (cI, 200, .inl k_te)), (k4, .inl (cI, 10, .inl k_nu)), (k5, .inl (cI, 48, .inl k_na)), (k6, .inl (cI, 1024, .inl k_no)), (k7, .inl (cI, 1024, .inl k_tu))] → va_S A s.heap H locs → ∀ ls : Array Slot, lv_has ls 4 [(0, .ref k0), (1, .int x1), (2, .int x2)] → W p l e (headSpec wsX7_readsOrder { frames := 5, cells := 0, slots := 0, locals := 115 }).room s m ([.ref k0] : List Value).toArray below meth c H locs 0 0 (MQ below (qI D r [(k0, .inr (7, [.ref k1, .int k_un, .ref k2, .ref k3, .int k_len, .int k_fi', .int k_be', .int k_to, .int k_cl, .int k_do, .ref k4, .ref k5, .ref k6, .ref k7])), (k1, .inl (cI, 583, .inl k_ro')), (k2, .inl (cZ, 2, .inl k_ke)), (k3, .inl (cI, 200, .inl k_te)), (k4, .inl (cI, 10, .inl k_nu')), (k5, .inl (cI, 48, .inl k_na)), (k6, .inl (cI, 1024, .inl k_no)), (k7, .inl (cI, 1024, .inl k_tu))] A) ([.ref k0] : List Value).toArray s 0 0 A) (F0 m 4 ls [])), m_X7_readsOrder_59 fu k_len k_fi k_be k_to k_ro k_te k_nu s0 x1 x2 kt4 = some (r, k_fi', k_be', k_ro', k_nu') → ∀ (H : Heap) (locs : List Loc), va_P D vwCl [(k0, .inr (7, [.ref k1, .int k_un, .ref k2, .ref k3, .int k_len, .int k_fi, .int k_be, .int k_to, .int k_cl, .int k_do, .ref k4, .ref k5, .ref k6, .ref k7])), (k1, .inl (cI, 583, .inl k_ro)), (k2, .inl (cZ, 2, .inl k_ke)), (k3, .inl (cI, 200, .inl k_te)), (k4, .inl (cI, 10, .inl k_nu)), (k5, .inl (cI, 48, .inl k_na)), (k6, .inl (cI, 1024, .inl k_no)), (k7, .inl (cI, 1024, .inl k_tu))] H → va_D A [(k0, .inr (7, [.ref k1, .int k_un, .ref k2, .ref k3, .int k_len, .int k_fi, .int k_be, .int k_to, .int k_cl, .int k_do, .ref k4, .ref k5, .ref k6, .ref k7])), (k1, .inl (cI, 583, .inl k_ro)), (k2, .inl (cZ, 2, .inl k_ke)), (k3, .inl (cI, 200, .inl k_te)), (k4, .inl (cI, 10, .inl k_nu)), (k5, .inl (cI, 48, .inl k_na)), (k6, .inl (cI, 1024, .inl k_no)), (k7, .inl (cI, 1024, .inl k_tu))] → va_S A s.heap H locs → ∀ ls : Array Slot, lv_has ls 4 [(0, .ref k0), (1, .int x1), (2, .int x2)] → W p l e (headSpec wsX7_readsOrder { frames := 5, cells := 0, slots := 0, locals := 115 }).room s m ([.ref k0] : List Value).toArray below meth c H locs 0 0 (MQ below (qI D r [(k0, .inr (7, [.ref k1, .int k_un, .ref k2, .ref k3, .int k_len, .int k_fi', .int k_be', .int k_to, .int k_cl, .int k_do, .ref k4, .ref k5, .ref k6, .ref k7])), (k1, .inl (cI, 583, .inl k_ro')), (k2, .inl (cZ, 2, .inl k_ke)), (k3, .inl (cI, 200, .inl k_te)), (k4, .inl (cI, 10, .inl k_nu')), (k5, .inl (cI, 48, .inl k_na)), (k6, .inl (cI, 1024, .inl k_no)), (k7, .inl (cI, 1024, .inl k_tu))] A) ([.ref k0] : List Value).toArray s 0 0 A) (F0 m 59 ls [.int s0]) := by
    intro x1 x2 s0 k_fi k_be k_nu kt4 hkt4 hf H locs hP hD hS ls hl
    unfold m_X7_readsOrder_59 at hf
    refine lv_istore_n (lv' := [(3, .int s0), (0, .ref k0), (1, .int x1), (2, .int x2)]) hx hb dX7_readsOrder_59 rfl hl (by decide) rfl (fun ls hl => ?_)
    refine lv_iload_n hx hb dX7_readsOrder_60 rfl (lv_at hl 0 rfl) ?_
    refine lv_iconst (v := (-1 : Int32)) hx hb dX7_readsOrder_61 ic_m1 ?_
    refine lv_icmp_eq (tgt := 90) hx hb dX7_readsOrder_62 (by decide) (fun hc => ?_) (fun hc => ?_)
    · have hf := ifp hc hf
      refine lv_iconst (v := (nI 0)) hx hb dX7_readsOrder_90 ic_0 ?_
      cases hf
      exact W.zret hx hb hr zbl_0.1 (fun t ht _ => ⟨⟨rfl, by rw [ht]; exact hP, hD⟩, hS.F ht⟩) hS.2.2 dX7_readsOrder_91
    · have hf := ifn hc hf
      refine lv_iload_n hx hb dX7_readsOrder_65 rfl (lv_at hl 0 rfl) ?_
      refine lv_aload_n hx hb dX7_readsOrder_66 rfl (lv_at hl 1 rfl) ?_
      refine va_get (D := D) (ci := 7) (v := .int k_to) (C := RX7) (T := TX7) (N := 14) hx hb hts hiX7 hown hK.1 hP 0 rfl rfl 7 (by decide) hfl_72 (fun _ h9 => h9) rfl dX7_readsOrder_67 ?_
      refine lv_icmp_ge (tgt := 90) hx hb dX7_readsOrder_70 (by decide) (fun hc => ?_) (fun hc => ?_)
      · have hf := ifp hc hf
        refine lv_iconst (v := (nI 0)) hx hb dX7_readsOrder_90 ic_0 ?_
        cases hf
        exact W.zret hx hb hr zbl_0.1 (fun t ht _ => ⟨⟨rfl, by rw [ht]; exact hP, hD⟩, hS.F ht⟩) hS.2.2 dX7_readsOrder_91
      · have hf := ifn hc hf
        refine lv_iload_n hx hb dX7_readsOrder_73 rfl (lv_at hl 2 rfl) ?_
        refine lv_iload_n hx hb dX7_readsOrder_74 rfl (lv_at hl 0 rfl) ?_
        obtain ⟨rv4, hrv4, hf⟩ := bd hf
        refine roI (va_runS (As := [.int x1, .int s0]) (rest := []) ⟨hx, hb, hml, hown, hts⟩ (c_X7_has l D cI cZ cM x1 s0 rv4 hrv4) (va_cwS 2 hts gX7_readsOrder_X7_has rfl rfl rfl hdc_X7_has ⟨Nat.le_of_ble_eq_true rfl, Nat.le_of_ble_eq_true rfl⟩) (prS hK hP [] rfl) rfl rfl hl.1 rfl (lv_room (Nat.le_of_ble_eq_true rfl)) dX7_readsOrder_75 ⟨Nat.zero_le _, Nat.zero_le _⟩) ?_
        refine lv_if_ne (tgt := 90) hx hb dX7_readsOrder_78 (by decide) (fun hc => ?_) (fun hc => ?_)
        · have hf := ifn hc hf
          refine lv_iconst (v := (nI 0)) hx hb dX7_readsOrder_90 ic_0 ?_
          cases hf
          exact W.zret hx hb hr zbl_0.1 (fun t ht _ => ⟨⟨rfl, by rw [ht]; exact hP, hD⟩, hS.F ht⟩) hS.2.2 dX7_readsOrder_91
        · have hf := ifp hc hf
          refine lv_aload_n hx hb dX7_readsOrder_81 rfl (lv_at hl 1 rfl) ?_
          refine lv_iload_n hx hb dX7_readsOrder_82 rfl (lv_at hl 3 rfl) ?_
          refine lv_iconst (v := (-1 : Int32)) hx hb dX7_readsOrder_83 ic_m1 ?_
          obtain ⟨rv5, hrv5, hf⟩ := bd hf
          refine muI0 (wr := []) (va_runV (As := [.int x2, .int (-1 : Int32)]) (rest := []) ⟨hx, hb, hml, hown, hts⟩ (c_X7_readsSection l D cI cZ cM k0 k1 k2 k3 k4 k5 k6 k7 _ k_un k_len k_fi k_be k_to k_cl k_do k_ro k_ke k_te k_nu k_na k_no k_tu x2 (-1 : Int32) fu rv5.1 rv5.2.1 rv5.2.2.1 rv5.2.2.2 hrv5) (cwV 2 hts gX7_readsOrder_X7_readsSection rfl rfl rfl ⟨rfl, hdc_X7_readsSection⟩ ⟨Nat.le_of_ble_eq_true rfl, Nat.le_of_ble_eq_true rfl⟩) (pmV hK hP hD [0, 1, 2, 3, 4, 5, 6, 7] (by decide) rfl rfl (ci := 7) (q0 := 0) rfl rfl) rfl rfl hl.1 rfl (lv_room (Nat.le_of_ble_eq_true rfl)) dX7_readsOrder_84 ⟨Nat.zero_le _, Nat.zero_le _⟩) hP hD hS hA [0, 1, 2, 3, 4, 5, 6, 7] [] rfl rfl (by decide) (by decide) (fun H locs hP hD hS => ?_)
          have hP : va_P D vwCl [(k0, .inr (7, [.ref k1, .int k_un, .ref k2, .ref k3, .int k_len, .int rv5.2.1, .int rv5.2.2.1, .int k_to, .int k_cl, .int k_do, .ref k4, .ref k5, .ref k6, .ref k7])), (k1, .inl (cI, 583, .inl k_ro)), (k2, .inl (cZ, 2, .inl k_ke)), (k3, .inl (cI, 200, .inl k_te)), (k4, .inl (cI, 10, .inl rv5.2.2.2)), (k5, .inl (cI, 48, .inl k_na)), (k6, .inl (cI, 1024, .inl k_no)), (k7, .inl (cI, 1024, .inl k_tu))] H := hP
          have hD : va_D A [(k0, .inr (7, [.ref k1, .int k_un, .ref k2, .ref k3, .int k_len, .int rv5.2.1, .int rv5.2.2.1, .int k_to, .int k_cl, .int k_do, .ref k4, .ref k5, .ref k6, .ref k7])), (k1, .inl (cI, 583, .inl k_ro)), (k2, .inl (cZ, 2, .inl k_ke)), (k3, .inl (cI, 200, .inl k_te)), (k4, .inl (cI, 10, .inl rv5.2.2.2)), (k5, .inl (cI, 48, .inl k_na)), (k6, .inl (cI, 1024, .inl k_no)), (k7, .inl (cI, 1024, .inl k_tu))] := hD
          refine lv_if_ne (tgt := 92) hx hb dX7_readsOrder_87 (by decide) (fun hc => ?_) (fun hc => ?_)
          · have hf := ifn hc hf
            refine lv_iload_n hx hb dX7_readsOrder_92 rfl (lv_at hl 2 rfl) ?_
            refine lv_iconst (v := (nI 1)) hx hb dX7_readsOrder_93 ic_1 ?_
            refine lv_aload_n hx hb dX7_readsOrder_94 rfl (lv_at hl 1 rfl) ?_
            refine va_get (D := D) (ci := 7) (v := .ref k4) (C := RX7) (T := TX7) (N := 14) hx hb hts hiX7 hown hK.1 hP 0 rfl rfl 10 (by decide) hfl_20 (fun _ h9 => h9) rfl dX7_readsOrder_95 ?_
            refine lv_iload_n hx hb dX7_readsOrder_98 rfl (lv_at hl 3 rfl) ?_
            obtain ⟨hi, hf⟩ := gd_some hf
            refine va_iald hx hb hK.1 hP 4 0 rfl rfl hi dX7_readsOrder_99 ?_
            refine lv_ishl hx hb dX7_readsOrder_100 ?_
            refine lv_ior hx hb dX7_readsOrder_101 ?_
            refine lv_istore_n (lv' := [(1, .int (x1 ||| ((nI 1) <<< ((rv5.2.2.2 x2.toNatClampNeg) &&& 31)))), (3, .int s0), (0, .ref k0), (2, .int x2)]) hx hb dX7_readsOrder_102 rfl hl (by decide) rfl (fun ls hl => ?_)
            refine lv_iinc (v := (x2 + (nI 1))) (lv' := [(2, .int (x2 + (nI 1))), (1, .int (x1 ||| ((nI 1) <<< ((rv5.2.2.2 x2.toNatClampNeg) &&& 31)))), (3, .int s0), (0, .ref k0)]) hx hb dX7_readsOrder_103 hl (k := 3) rfl (ii_1 _) (by decide) rfl (fun ls hl => ?_)
            refine lv_goto (tgt := 4) hx hb dX7_readsOrder_106 (by decide) ?_
            exact hkt4 (x1 ||| ((nI 1) <<< ((rv5.2.2.2 x2.toNatClampNeg) &&& 31))) (x2 + (nI 1)) rv5.2.1 rv5.2.2.1 rv5.2.2.2 hf _ _ hP hD hS ls (lv_sub hl [3, 1, 0] rfl)
          · have hf := ifp hc hf
            refine lv_iconst (v := (nI 0)) hx hb dX7_readsOrder_90 ic_0 ?_
            cases hf
            exact W.zret hx hb hr zbl_0.1 (fun t ht _ => ⟨⟨rfl, by rw [ht]; exact hP, hD⟩, hS.F ht⟩) hS.2.2 dX7_readsOrder_91
  have hB_4 : ∀ (fn : Nat) (x1 : Int32) (x2 : Int32) (k_fi : Int32) (k_be : Int32) (k_nu : Nat → Int32), m_X7_readsOrder_4 fu k_len k_to k_do k_ro k_te fn k_fi k_be k_nu x1 x2 = some (r, k_fi', k_be', k_ro', k_nu') → ∀ (H : Heap) (locs : List Loc), va_P D vwCl [(k0, .inr (7, [.ref k1, .int k_un, .ref k2, .ref k3, .int k_len, .int k_fi, .int k_be, .int k_to, .int k_cl, .int k_do, .ref k4, .ref k5, .ref k6, .ref k7])), (k1, .inl (cI, 583, .inl k_ro)), (k2, .inl (cZ, 2, .inl k_ke)), (k3, .inl (cI, 200, .inl k_te)), (k4, .inl (cI, 10, .inl k_nu)), (k5, .inl (cI, 48, .inl k_na)), (k6, .inl (cI, 1024, .inl k_no)), (k7, .inl (cI, 1024, .inl k_tu))] H → va_D A [(k0, .inr (7, [.ref k1, .int k_un, .ref k2, .ref k3, .int k_len, .int k_fi, .int k_be, .int k_to, .int k_cl, .int k_do, .ref k4, .ref k5, .ref k6, .ref k7])), (k1, .inl (cI, 583, .inl k_ro)), (k2, .inl (cZ, 2, .inl k_ke)), (k3, .inl (cI, 200, .inl k_te)), (k4, .inl (cI, 10, .inl k_nu)), (k5, .inl (cI, 48, .inl k_na)), (k6, .inl (cI, 1024, .inl k_no)), (k7, .inl (cI, 1024, .inl k_tu))] → va_S A s.heap H locs → ∀ ls : Array Slot, lv_has ls 4 [(0, .ref k0), (1, .int x1), (2, .int x2)] → W p l e (headSpec wsX7_readsOrder { frames := 5, cells := 0, slots := 0, locals := 115 }).room s m ([.ref k0] : List Value).toArray below meth c H locs 0 0 (MQ below (qI D r [(k0, .inr (7, [.ref k1, .int k_un, .ref k2, .ref k3, .int k_len, .int k_fi', .int k_be', .int k_to, .int k_cl, .int k_do, .ref k4, .ref k5, .ref k6, .ref k7])), (k1, .inl (cI, 583, .inl k_ro')), (k2, .inl (cZ, 2, .inl k_ke)), (k3, .inl (cI, 200, .inl k_te)), (k4, .inl (cI, 10, .inl k_nu')), (k5, .inl (cI, 48, .inl k_na)), (k6, .inl (cI, 1024, .inl k_no)), (k7, .inl (cI, 1024, .inl k_tu))] A) ([.ref k0] : List Value).toArray s 0 0 A) (F0 m 4 ls []) := by
    intro fn
    induction fn with
    | zero => intro x1 x2 k_fi k_be k_nu hf; rw [m_X7_readsOrder_4] at hf; cases hf
    | succ fn ih =>
      intro x1 x2 k_fi k_be k_nu hf H locs hP hD hS ls hl
      rw [m_X7_readsOrder_4] at hf
      refine lv_iload_n hx hb dX7_readsOrder_4 rfl (lv_at hl 2 rfl) ?_
      refine lv_aload_n hx hb dX7_readsOrder_5 rfl (lv_at hl 0 rfl) ?_
      refine va_get (D := D) (ci := 7) (v := .int k_to) (C := RX7) (T := TX7) (N := 14) hx hb hts hiX7 hown hK.1 hP 0 rfl rfl 7 (by decide) hfl_72 (fun _ h9 => h9) rfl dX7_readsOrder_6 ?_
      refine lv_icmp_ge (tgt := 109) hx hb dX7_readsOrder_9 (by decide) (fun hc => ?_) (fun hc => ?_)
      · have hf := ifp hc hf
        refine lv_aload_n hx hb dX7_readsOrder_109 rfl (lv_at hl 0 rfl) ?_
        refine va_get (D := D) (ci := 7) (v := .int k_do) (C := RX7) (T := TX7) (N := 14) hx hb hts hiX7 hown hK.1 hP 0 rfl rfl 9 (by decide) hfl_89 (fun _ h9 => h9) rfl dX7_readsOrder_110 ?_
        refine lv_if_eq (tgt := 154) hx hb dX7_readsOrder_113 (by decide) (fun hc => ?_) (fun hc => ?_)
        · have hf := ifp hc hf
          refine lv_iconst (v := (nI 1)) hx hb dX7_readsOrder_154 ic_1 ?_
          cases hf
          exact W.zret hx hb hr zbl_1.1 (fun t ht _ => ⟨⟨rfl, by rw [ht]; exact hP, hD⟩, hS.F ht⟩) hS.2.2 dX7_readsOrder_155
        · have hf := ifn hc hf
          refine lv_aload_n hx hb dX7_readsOrder_116 rfl (lv_at hl 0 rfl) ?_
          obtain ⟨rv1, hrv1, hf⟩ := bd hf
          refine roI (va_runV (As := []) (rest := []) ⟨hx, hb, hml, hown, hts⟩ (c_X7_isKeeping l D cI cZ cM k0 k1 k2 k3 k4 k5 k6 k7 k_un k_len k_fi k_be k_to k_cl k_do k_ro k_ke k_te k_nu k_na k_no k_tu fu rv1 hrv1) (cwV 0 hts gX7_readsOrder_X7_isKeeping rfl rfl rfl ⟨rfl, hdc_X7_isKeeping⟩ ⟨Nat.le_of_ble_eq_true rfl, Nat.le_of_ble_eq_true rfl⟩) (prV hK hP [0, 1, 2, 3, 4, 5, 6, 7] rfl (ci := 7) (q0 := 0) rfl rfl) rfl rfl hl.1 rfl (lv_room (Nat.le_of_ble_eq_true rfl)) dX7_readsOrder_117 ⟨Nat.zero_le _, Nat.zero_le _⟩) ?_
          refine lv_if_eq (tgt := 154) hx hb dX7_readsOrder_120 (by decide) (fun hc => ?_) (fun hc => ?_)
          · have hf := ifp hc hf
            refine lv_iconst (v := (nI 1)) hx hb dX7_readsOrder_154 ic_1 ?_
            cases hf
            exact W.zret hx hb hr zbl_1.1 (fun t ht _ => ⟨⟨rfl, by rw [ht]; exact hP, hD⟩, hS.F ht⟩) hS.2.2 dX7_readsOrder_155
          · have hf := ifn hc hf
            refine lv_iconst (v := (nI 0)) hx hb dX7_readsOrder_123 ic_0 ?_
            refine lv_istore_n (lv' := [(2, .int (nI 0)), (0, .ref k0), (1, .int x1)]) hx hb dX7_readsOrder_124 rfl hl (by decide) rfl (fun ls hl => ?_)
            exact hB_125 k_fi k_be k_nu fu (nI 0) k_ro hf _ _ hP hD hS ls (lv_sub hl [1, 0] rfl)
      · have hf := ifn hc hf
        refine lv_aload_n hx hb dX7_readsOrder_12 rfl (lv_at hl 0 rfl) ?_
        refine va_get (D := D) (ci := 7) (v := .int k_fi) (C := RX7) (T := TX7) (N := 14) hx hb hts hiX7 hown hK.1 hP 0 rfl rfl 5 (by decide) hfl_59 (fun _ h9 => h9) rfl dX7_readsOrder_13 ?_
        refine lv_aload_n hx hb dX7_readsOrder_16 rfl (lv_at hl 0 rfl) ?_
        refine va_get (D := D) (ci := 7) (v := .int k_len) (C := RX7) (T := TX7) (N := 14) hx hb hts hiX7 hown hK.1 hP 0 rfl rfl 4 (by decide) hfl_44 (fun _ h9 => h9) rfl dX7_readsOrder_17 ?_
        refine lv_icmp_ge (tgt := 58) hx hb dX7_readsOrder_20 (by decide) (fun hc => ?_) (fun hc => ?_)
        · have hf := ifp hc hf
          refine lv_iconst (v := (-1 : Int32)) hx hb dX7_readsOrder_58 ic_m1 ?_
          exact hB_59 x1 x2 (-1 : Int32) k_fi k_be k_nu _ ih hf _ _ hP hD hS ls hl
        · have hf := ifn hc hf
          refine lv_aload_n hx hb dX7_readsOrder_23 rfl (lv_at hl 0 rfl) ?_
          refine va_get (D := D) (ci := 7) (v := .ref k3) (C := RX7) (T := TX7) (N := 14) hx hb hts hiX7 hown hK.1 hP 0 rfl rfl 3 (by decide) hfl_17 (fun _ h9 => h9) rfl dX7_readsOrder_24 ?_
          refine lv_aload_n hx hb dX7_readsOrder_27 rfl (lv_at hl 0 rfl) ?_
          refine va_get (D := D) (ci := 7) (v := .int k_fi) (C := RX7) (T := TX7) (N := 14) hx hb hts hiX7 hown hK.1 hP 0 rfl rfl 5 (by decide) hfl_59 (fun _ h9 => h9) rfl dX7_readsOrder_28 ?_
          obtain ⟨hi, hf⟩ := gd_some hf
          refine va_iald hx hb hK.1 hP 3 0 rfl rfl hi dX7_readsOrder_31 ?_
          obtain ⟨rv2, hrv2, hf⟩ := bd hf
          refine roI (va_runS (As := [.int (k_te k_fi.toNatClampNeg)]) (rest := []) ⟨hx, hb, hml, hown, hts⟩ (c_X7_isDigit l D cI cZ cM (k_te k_fi.toNatClampNeg) rv2 hrv2) (va_cwS 1 hts gX7_readsOrder_X7_isDigit rfl rfl rfl hdc_X7_isDigit ⟨Nat.le_of_ble_eq_true rfl, Nat.le_of_ble_eq_true rfl⟩) (prS hK hP [] rfl) rfl rfl hl.1 rfl (lv_room (Nat.le_of_ble_eq_true rfl)) dX7_readsOrder_32 ⟨Nat.zero_le _, Nat.zero_le _⟩) ?_
          refine lv_if_eq (tgt := 58) hx hb dX7_readsOrder_35 (by decide) (fun hc => ?_) (fun hc => ?_)
          · have hf := ifp hc hf
            refine lv_iconst (v := (-1 : Int32)) hx hb dX7_readsOrder_58 ic_m1 ?_
            exact hB_59 x1 x2 (-1 : Int32) k_fi k_be k_nu _ ih hf _ _ hP hD hS ls hl
          · have hf := ifn hc hf
            refine lv_aload_n hx hb dX7_readsOrder_38 rfl (lv_at hl 0 rfl) ?_
            refine va_get (D := D) (ci := 7) (v := .int k_be) (C := RX7) (T := TX7) (N := 14) hx hb hts hiX7 hown hK.1 hP 0 rfl rfl 6 (by decide) hfl_56 (fun _ h9 => h9) rfl dX7_readsOrder_39 ?_
            refine lv_aload_n hx hb dX7_readsOrder_42 rfl (lv_at hl 0 rfl) ?_
            refine va_get (D := D) (ci := 7) (v := .int k_fi) (C := RX7) (T := TX7) (N := 14) hx hb hts hiX7 hown hK.1 hP 0 rfl rfl 5 (by decide) hfl_59 (fun _ h9 => h9) rfl dX7_readsOrder_43 ?_
            refine lv_isub hx hb dX7_readsOrder_46 ?_
            refine lv_iconst (v := (nI 3)) hx hb dX7_readsOrder_47 ic_3 ?_
            refine lv_icmp_ge (tgt := 58) hx hb dX7_readsOrder_48 (by decide) (fun hc => ?_) (fun hc => ?_)
            · have hf := ifp hc hf
              refine lv_iconst (v := (-1 : Int32)) hx hb dX7_readsOrder_58 ic_m1 ?_
              exact hB_59 x1 x2 (-1 : Int32) k_fi k_be k_nu _ ih hf _ _ hP hD hS ls hl
            · have hf := ifn hc hf
              refine lv_aload_n hx hb dX7_readsOrder_51 rfl (lv_at hl 0 rfl) ?_
              obtain ⟨rv3, hrv3, hf⟩ := bd hf
              refine roI (va_runV (As := []) (rest := []) ⟨hx, hb, hml, hown, hts⟩ (c_X7_valueHere l D cI cZ cM k0 k1 k2 k3 k4 k5 k6 k7 k_un k_len k_fi k_be k_to k_cl k_do k_ro k_ke k_te k_nu k_na k_no k_tu fu rv3 hrv3) (cwV 0 hts gX7_readsOrder_X7_valueHere rfl rfl rfl ⟨rfl, hdc_X7_valueHere⟩ ⟨Nat.le_of_ble_eq_true rfl, Nat.le_of_ble_eq_true rfl⟩) (prV hK hP [0, 1, 2, 3, 4, 5, 6, 7] rfl (ci := 7) (q0 := 0) rfl rfl) rfl rfl hl.1 rfl (lv_room (Nat.le_of_ble_eq_true rfl)) dX7_readsOrder_52 ⟨Nat.zero_le _, Nat.zero_le _⟩) ?_
              refine lv_goto (tgt := 59) hx hb dX7_readsOrder_55 (by decide) ?_
              exact hB_59 x1 x2 rv3 k_fi k_be k_nu _ ih hf _ _ hP hD hS ls hl
  have hl := lv_entry ([.ref k0]) (n := 4) (Nat.le_of_ble_eq_true rfl)
  rw [lg_entry_eq]
  generalize (lg_sl ([.ref k0]) ++ List.replicate (4 - (lg_sl ([.ref k0])).length) Slot.unset).toArray = ls at hl ⊢
  have hl : lv_has ls 4 [(0, .ref k0)] := hl
  have hS : va_S A s.heap s.heap [] := va_S.rf
  unfold m_X7_readsOrder at hf
  refine lv_iconst (v := (nI 0)) hx hb dX7_readsOrder_0 ic_0 ?_
  refine lv_istore_n (lv' := [(1, .int (nI 0)), (0, .ref k0)]) hx hb dX7_readsOrder_1 rfl hl (by decide) rfl (fun ls hl => ?_)
  refine lv_iconst (v := (nI 0)) hx hb dX7_readsOrder_2 ic_0 ?_
  refine lv_istore_n (lv' := [(2, .int (nI 0)), (1, .int (nI 0)), (0, .ref k0)]) hx hb dX7_readsOrder_3 rfl hl (by decide) rfl (fun ls hl => ?_)
  exact hB_4 fu (nI 0) (nI 0) k_fi k_be k_nu hf _ _ hP hD hS ls (lv_sub hl [2, 1, 0] rfl)
theorem hdc_X7_canPair : yX7_canPair.cls ≠ "java/lang/invoke/MethodHandle" ∧ yX7_canPair.cls ≠ "java/lang/invoke/VarHandle" ∧ (parseMethodDescriptor yX7_canPair.desc).map (fun d => d.parameters.length) = some 2 := by decide +kernel
set_option maxHeartbeats 4000000 in
set_option maxRecDepth 100000 in
theorem c_X7_canPair (l : Launch) (D : va_G) (cI cZ cM : ClassId) (k0 k1 k2 k3 k4 k5 k6 k7 : Nat) (k_un : Int32) (k_len : Int32) (k_fi : Int32) (k_be : Int32) (k_to : Int32) (k_cl : Int32) (k_do : Int32) (k_ro : Nat → Int32) (k_ke : Nat → Int32) (k_te : Nat → Int32) (k_nu : Nat → Int32) (k_na : Nat → Int32) (k_no : Nat → Int32) (k_tu : Nat → Int32) (x1 : Int32) (x2 : Int32) (fu : Nat) (r : Int32) (hf : m_X7_canPair fu k_ro x1 x2 = some r) : Met l yX7_canPair wsX7_canPair ({ frames := 1, cells := 0, slots := 0, locals := 22 }) (pR D cI cZ cM [(k0, .inr (7, [.ref k1, .int k_un, .ref k2, .ref k3, .int k_len, .int k_fi, .int k_be, .int k_to, .int k_cl, .int k_do, .ref k4, .ref k5, .ref k6, .ref k7])), (k1, .inl (cI, 583, .inl k_ro)), (k2, .inl (cZ, 2, .inl k_ke)), (k3, .inl (cI, 200, .inl k_te)), (k4, .inl (cI, 10, .inl k_nu)), (k5, .inl (cI, 48, .inl k_na)), (k6, .inl (cI, 1024, .inl k_no)), (k7, .inl (cI, 1024, .inl k_tu))] [.ref k0, .int x1, .int x2]) (qR r) 0 0 (fun _ => False) := by
  refine Met.ofW (cc := cX7_canPair) (maxL := 3) (ret := (some .boolean)) (by decide) rfl ?_
  intro p e s m args below meth c s₁ B hml hv
  obtain ⟨rfl, hP, hK⟩ := hv
  have hx := B.exec
  have hb := B.bytes
  have hr := B.returns
  have hts := atoms_spec (ws := wsX7_canPair) B.pre
  have hown : s.vm.findClass RX7 = some m.cls := findClass_of_methodNamed B.named
  have hlocks := B.notSynchronized
  have hfl_7 := hts (.fieldLink RX7 7 "TermsFirstModel" "rows" "[I") (List.mem_cons_of_mem _ (List.mem_append_left _ (List.mem_of_getElem? (i := 0) rfl)))
  have hiX7 : ∀ w ∈ u_ws RX7 TX7 14, w ∈ wsX7_canPair := fun _ h => (List.mem_cons_of_mem _ (List.mem_append_right _ h))
  have hl := lv_entry ([.ref k0, .int x1, .int x2]) (n := 3) (Nat.le_of_ble_eq_true rfl)
  rw [lg_entry_eq]
  generalize (lg_sl ([.ref k0, .int x1, .int x2]) ++ List.replicate (3 - (lg_sl ([.ref k0, .int x1, .int x2])).length) Slot.unset).toArray = ls at hl ⊢
  have hl : lv_has ls 3 [(0, .ref k0), (1, .int x1), (2, .int x2)] := hl
  unfold m_X7_canPair at hf
  refine lv_aload_n hx hb dX7_canPair_0 rfl (lv_at hl 0 rfl) ?_
  refine lv_iload_n hx hb dX7_canPair_1 rfl (lv_at hl 1 rfl) ?_
  obtain ⟨rv1, hrv1, hf⟩ := bd hf
  refine roI (va_runV (As := [.int x1]) (rest := []) ⟨hx, hb, hml, hown, hts⟩ (c_X7_placeOf l D cI cZ cM k0 k1 k2 k3 k4 k5 k6 k7 k_un k_len k_fi k_be k_to k_cl k_do k_ro k_ke k_te k_nu k_na k_no k_tu x1 fu rv1 hrv1) (cwV 1 hts gX7_canPair_X7_placeOf rfl rfl rfl ⟨rfl, hdc_X7_placeOf⟩ ⟨Nat.le_of_ble_eq_true rfl, Nat.le_of_ble_eq_true rfl⟩) (prV hK hP [0, 1, 2, 3, 4, 5, 6, 7] rfl (ci := 7) (q0 := 0) rfl rfl) rfl rfl hl.1 rfl (lv_room (Nat.le_of_ble_eq_true rfl)) dX7_canPair_2 ⟨Nat.zero_le _, Nat.zero_le _⟩) ?_
  refine lv_aload_n hx hb dX7_canPair_5 rfl (lv_at hl 0 rfl) ?_
  refine lv_iload_n hx hb dX7_canPair_6 rfl (lv_at hl 2 rfl) ?_
  obtain ⟨rv2, hrv2, hf⟩ := bd hf
  refine roI (va_runV (As := [.int x2]) (rest := [.int rv1]) ⟨hx, hb, hml, hown, hts⟩ (c_X7_placeOf l D cI cZ cM k0 k1 k2 k3 k4 k5 k6 k7 k_un k_len k_fi k_be k_to k_cl k_do k_ro k_ke k_te k_nu k_na k_no k_tu x2 fu rv2 hrv2) (cwV 1 hts gX7_canPair_X7_placeOf rfl rfl rfl ⟨rfl, hdc_X7_placeOf⟩ ⟨Nat.le_of_ble_eq_true rfl, Nat.le_of_ble_eq_true rfl⟩) (prV hK hP [0, 1, 2, 3, 4, 5, 6, 7] rfl (ci := 7) (q0 := 0) rfl rfl) rfl rfl hl.1 rfl (lv_room (Nat.le_of_ble_eq_true rfl)) dX7_canPair_7 ⟨Nat.zero_le _, Nat.zero_le _⟩) ?_
  refine lv_icmp_ge (tgt := 33) hx hb dX7_canPair_10 (by decide) (fun hc => ?_) (fun hc => ?_)
  · have hf := ifp hc hf
    refine lv_iconst (v := (nI 0)) hx hb dX7_canPair_33 ic_0 ?_
    cases hf
    exact W.zret hx hb hr zbl_0.1 (fun t ht _ => ⟨rfl, ht⟩) (fun _ h => nomatch h) dX7_canPair_34
  · have hf := ifn hc hf
    refine lv_aload_n hx hb dX7_canPair_13 rfl (lv_at hl 0 rfl) ?_
    refine va_get (D := D) (ci := 7) (v := .ref k1) (C := RX7) (T := TX7) (N := 14) hx hb hts hiX7 hown hK.1 hP 0 rfl rfl 0 (by decide) hfl_7 (fun _ h9 => h9) rfl dX7_canPair_14 ?_
    refine lv_bipush (v := (nI 43)) hx hb dX7_canPair_17 bp_43 ?_
    refine lv_iload_n hx hb dX7_canPair_19 rfl (lv_at hl 2 rfl) ?_
    refine lv_iadd hx hb dX7_canPair_20 ?_
    obtain ⟨hi, hf⟩ := gd_some hf
    refine va_iald hx hb hK.1 hP 1 0 rfl rfl hi dX7_canPair_21 ?_
    refine lv_iload_n hx hb dX7_canPair_22 rfl (lv_at hl 1 rfl) ?_
    obtain ⟨rv3, hrv3, hf⟩ := bd hf
    refine roI (va_runS (As := [.int (k_ro ((nI 43) + x2).toNatClampNeg), .int x1]) (rest := []) ⟨hx, hb, hml, hown, hts⟩ (c_X7_has l D cI cZ cM (k_ro ((nI 43) + x2).toNatClampNeg) x1 rv3 hrv3) (va_cwS 2 hts gX7_canPair_X7_has rfl rfl rfl hdc_X7_has ⟨Nat.le_of_ble_eq_true rfl, Nat.le_of_ble_eq_true rfl⟩) (prS hK hP [] rfl) rfl rfl hl.1 rfl (lv_room (Nat.le_of_ble_eq_true rfl)) dX7_canPair_23 ⟨Nat.zero_le _, Nat.zero_le _⟩) ?_
    refine lv_if_ne (tgt := 33) hx hb dX7_canPair_26 (by decide) (fun hc => ?_) (fun hc => ?_)
    · have hf := ifn hc hf
      refine lv_iconst (v := (nI 0)) hx hb dX7_canPair_33 ic_0 ?_
      cases hf
      exact W.zret hx hb hr zbl_0.1 (fun t ht _ => ⟨rfl, ht⟩) (fun _ h => nomatch h) dX7_canPair_34
    · have hf := ifp hc hf
      refine lv_iconst (v := (nI 1)) hx hb dX7_canPair_29 ic_1 ?_
      refine lv_goto (tgt := 34) hx hb dX7_canPair_30 (by decide) ?_
      cases hf
      exact W.zret hx hb hr zbl_1.1 (fun t ht _ => ⟨rfl, ht⟩) (fun _ h => nomatch h) dX7_canPair_34
theorem hdc_X7_readsAfter : yX7_readsAfter.cls ≠ "java/lang/invoke/MethodHandle" ∧ yX7_readsAfter.cls ≠ "java/lang/invoke/VarHandle" ∧ (parseMethodDescriptor yX7_readsAfter.desc).map (fun d => d.parameters.length) = some 1 := by decide +kernel
set_option maxHeartbeats 4000000 in
set_option maxRecDepth 100000 in
theorem c_X7_readsAfter (l : Launch) (D : va_G) (cI cZ cM : ClassId) (k0 k1 k2 k3 k4 k5 k6 k7 : Nat) (sz : Nat) (k_un : Int32) (k_len : Int32) (k_fi : Int32) (k_be : Int32) (k_to : Int32) (k_cl : Int32) (k_do : Int32) (k_ro : Nat → Int32) (k_ke : Nat → Int32) (k_te : Nat → Int32) (k_nu : Nat → Int32) (k_na : Nat → Int32) (k_no : Nat → Int32) (k_tu : Nat → Int32) (x1 : Int32) (fu : Nat) (r : Int32) (k_fi' : Int32) (k_be' : Int32) (k_to' : Int32) (k_ro' : Nat → Int32) (k_nu' : Nat → Int32) (hf : m_X7_readsAfter fu k_len k_fi k_be k_to k_do k_ro k_te k_nu x1 = some (r, k_fi', k_be', k_to', k_ro', k_nu')) : Met l yX7_readsAfter wsX7_readsAfter ({ frames := 6, cells := 0, slots := 0, locals := 138 }) (pM D cI cZ cM sz [(k0, .inr (7, [.ref k1, .int k_un, .ref k2, .ref k3, .int k_len, .int k_fi, .int k_be, .int k_to, .int k_cl, .int k_do, .ref k4, .ref k5, .ref k6, .ref k7])), (k1, .inl (cI, 583, .inl k_ro)), (k2, .inl (cZ, 2, .inl k_ke)), (k3, .inl (cI, 200, .inl k_te)), (k4, .inl (cI, 10, .inl k_nu)), (k5, .inl (cI, 48, .inl k_na)), (k6, .inl (cI, 1024, .inl k_no)), (k7, .inl (cI, 1024, .inl k_tu))] [.ref k0, .int x1]) (qI D r [(k0, .inr (7, [.ref k1, .int k_un, .ref k2, .ref k3, .int k_len, .int k_fi', .int k_be', .int k_to', .int k_cl, .int k_do, .ref k4, .ref k5, .ref k6, .ref k7])), (k1, .inl (cI, 583, .inl k_ro')), (k2, .inl (cZ, 2, .inl k_ke)), (k3, .inl (cI, 200, .inl k_te)), (k4, .inl (cI, 10, .inl k_nu')), (k5, .inl (cI, 48, .inl k_na)), (k6, .inl (cI, 1024, .inl k_no)), (k7, .inl (cI, 1024, .inl k_tu))] (va_A [(k0, .inr (7, [.ref k1, .int k_un, .ref k2, .ref k3, .int k_len, .int k_fi, .int k_be, .int k_to, .int k_cl, .int k_do, .ref k4, .ref k5, .ref k6, .ref k7])), (k1, .inl (cI, 583, .inl k_ro)), (k2, .inl (cZ, 2, .inl k_ke)), (k3, .inl (cI, 200, .inl k_te)), (k4, .inl (cI, 10, .inl k_nu)), (k5, .inl (cI, 48, .inl k_na)), (k6, .inl (cI, 1024, .inl k_no)), (k7, .inl (cI, 1024, .inl k_tu))] sz)) 0 0 (va_A [(k0, .inr (7, [.ref k1, .int k_un, .ref k2, .ref k3, .int k_len, .int k_fi, .int k_be, .int k_to, .int k_cl, .int k_do, .ref k4, .ref k5, .ref k6, .ref k7])), (k1, .inl (cI, 583, .inl k_ro)), (k2, .inl (cZ, 2, .inl k_ke)), (k3, .inl (cI, 200, .inl k_te)), (k4, .inl (cI, 10, .inl k_nu)), (k5, .inl (cI, 48, .inl k_na)), (k6, .inl (cI, 1024, .inl k_no)), (k7, .inl (cI, 1024, .inl k_tu))] sz) := by
  refine Met.ofW (cc := cX7_readsAfter) (maxL := 2) (ret := (some .boolean)) (by decide) rfl ?_
  intro p e s m args below meth c s₁ B hml hv
  obtain ⟨rfl, hsz, hP, hK, hD0⟩ := hv
  have hx := B.exec
  have hb := B.bytes
  have hr := B.returns
  have hts := atoms_spec (ws := wsX7_readsAfter) B.pre
  have hown : s.vm.findClass RX7 = some m.cls := findClass_of_methodNamed B.named
  have hlocks := B.notSynchronized
  subst hsz
  have hD := hD0.self (sz := s.heap.size)
  generalize hAe : va_A [(k0, .inr (7, [.ref k1, .int k_un, .ref k2, .ref k3, .int k_len, .int k_fi, .int k_be, .int k_to, .int k_cl, .int k_do, .ref k4, .ref k5, .ref k6, .ref k7])), (k1, .inl (cI, 583, .inl k_ro)), (k2, .inl (cZ, 2, .inl k_ke)), (k3, .inl (cI, 200, .inl k_te)), (k4, .inl (cI, 10, .inl k_nu)), (k5, .inl (cI, 48, .inl k_na)), (k6, .inl (cI, 1024, .inl k_no)), (k7, .inl (cI, 1024, .inl k_tu))] s.heap.size = A at hD ⊢
  have hA : ∀ q : Nat, s.heap.size ≤ q → A q := fun q h => by rw [← hAe]; exact Or.inr h
  clear hAe hD0
  have hfl_7 := hts (.fieldLink RX7 7 "TermsFirstModel" "rows" "[I") (List.mem_cons_of_mem _ (List.mem_append_left _ (List.mem_append_left _ (List.mem_of_getElem? (i := 3) rfl))))
  have hfl_20 := hts (.fieldLink RX7 20 "TermsFirstModel" "numbers" "[I") (List.mem_cons_of_mem _ (List.mem_append_left _ (List.mem_append_left _ (List.mem_of_getElem? (i := 0) rfl))))
  have hfl_72 := hts (.fieldLink RX7 72 "TermsFirstModel" "told" "I") (List.mem_cons_of_mem _ (List.mem_append_left _ (List.mem_append_left _ (List.mem_of_getElem? (i := 1) rfl))))
  have hfl_89 := hts (.fieldLink RX7 89 "TermsFirstModel" "doing" "Z") (List.mem_cons_of_mem _ (List.mem_append_left _ (List.mem_append_left _ (List.mem_of_getElem? (i := 2) rfl))))
  have hiX7 : ∀ w ∈ u_ws RX7 TX7 14, w ∈ wsX7_readsAfter := fun _ h => (List.mem_cons_of_mem _ (List.mem_append_right _ h))
  have hl := lv_entry ([.ref k0, .int x1]) (n := 2) (Nat.le_of_ble_eq_true rfl)
  rw [lg_entry_eq]
  generalize (lg_sl ([.ref k0, .int x1]) ++ List.replicate (2 - (lg_sl ([.ref k0, .int x1])).length) Slot.unset).toArray = ls at hl ⊢
  have hl : lv_has ls 2 [(0, .ref k0), (1, .int x1)] := hl
  have hS : va_S A s.heap s.heap [] := va_S.rf
  unfold m_X7_readsAfter at hf
  refine lv_iload_n hx hb dX7_readsAfter_0 rfl (lv_at hl 1 rfl) ?_
  by_cases hk0 : x1 = (nI 0)
  · have hf := ifp hk0 hf
    refine lv_tableIn (off := 35) (tgt := 36) hx hb dX7_readsAfter_1 (by rw [hk0]; decide +kernel) (by rw [hk0]; decide +kernel) (by rw [hk0]; decide +kernel) (by decide) ?_
    refine lv_aload_n hx hb dX7_readsAfter_36 rfl (lv_at hl 0 rfl) ?_
    refine lv_iconst (v := (nI 0)) hx hb dX7_readsAfter_37 ic_0 ?_
    refine lv_iconst (v := (nI 2)) hx hb dX7_readsAfter_38 ic_2 ?_
    refine lv_bipush (v := (nI 10)) hx hb dX7_readsAfter_39 bp_10 ?_
    refine lv_iconst (v := (-1 : Int32)) hx hb dX7_readsAfter_41 ic_m1 ?_
    obtain ⟨rv1, hrv1, hf⟩ := bd hf
    refine muI0 (wr := []) (va_runV (As := [.int (nI 0), .int (nI 2), .int (nI 10), .int (-1 : Int32)]) (rest := []) ⟨hx, hb, hml, hown, hts⟩ (c_X7_reads l D cI cZ cM k0 k1 k2 k3 k4 k5 k6 k7 _ k_un k_len k_fi k_be k_to k_cl k_do k_ro k_ke k_te k_nu k_na k_no k_tu (nI 0) (nI 2) (nI 10) (-1 : Int32) fu rv1.1 rv1.2.1 rv1.2.2.1 rv1.2.2.2 hrv1) (cwV 4 hts gX7_readsAfter_X7_reads rfl rfl rfl ⟨rfl, hdc_X7_reads⟩ ⟨Nat.le_of_ble_eq_true rfl, Nat.le_of_ble_eq_true rfl⟩) (pmV hK hP hD [0, 1, 2, 3, 4, 5, 6, 7] (by decide) rfl rfl (ci := 7) (q0 := 0) rfl rfl) rfl rfl hl.1 rfl (lv_room (Nat.le_of_ble_eq_true rfl)) dX7_readsAfter_42 ⟨Nat.zero_le _, Nat.zero_le _⟩) hP hD hS hA [0, 1, 2, 3, 4, 5, 6, 7] [] rfl rfl (by decide) (by decide) (fun H locs hP hD hS => ?_)
    have hP : va_P D vwCl [(k0, .inr (7, [.ref k1, .int k_un, .ref k2, .ref k3, .int k_len, .int rv1.2.1, .int rv1.2.2.1, .int k_to, .int k_cl, .int k_do, .ref k4, .ref k5, .ref k6, .ref k7])), (k1, .inl (cI, 583, .inl k_ro)), (k2, .inl (cZ, 2, .inl k_ke)), (k3, .inl (cI, 200, .inl k_te)), (k4, .inl (cI, 10, .inl rv1.2.2.2)), (k5, .inl (cI, 48, .inl k_na)), (k6, .inl (cI, 1024, .inl k_no)), (k7, .inl (cI, 1024, .inl k_tu))] H := hP
    have hD : va_D A [(k0, .inr (7, [.ref k1, .int k_un, .ref k2, .ref k3, .int k_len, .int rv1.2.1, .int rv1.2.2.1, .int k_to, .int k_cl, .int k_do, .ref k4, .ref k5, .ref k6, .ref k7])), (k1, .inl (cI, 583, .inl k_ro)), (k2, .inl (cZ, 2, .inl k_ke)), (k3, .inl (cI, 200, .inl k_te)), (k4, .inl (cI, 10, .inl rv1.2.2.2)), (k5, .inl (cI, 48, .inl k_na)), (k6, .inl (cI, 1024, .inl k_no)), (k7, .inl (cI, 1024, .inl k_tu))] := hD
    refine lv_if_ne (tgt := 50) hx hb dX7_readsAfter_45 (by decide) (fun hc => ?_) (fun hc => ?_)
    · have hf := ifn hc hf
      refine lv_aload_n hx hb dX7_readsAfter_50 rfl (lv_at hl 0 rfl) ?_
      refine lv_aload_n hx hb dX7_readsAfter_51 rfl (lv_at hl 0 rfl) ?_
      refine va_get (D := D) (ci := 7) (v := .ref k4) (C := RX7) (T := TX7) (N := 14) hx hb hts hiX7 hown hK.1 hP 0 rfl rfl 10 (by decide) hfl_20 (fun _ h9 => h9) rfl dX7_readsAfter_52 ?_
      refine lv_iconst (v := (nI 0)) hx hb dX7_readsAfter_55 ic_0 ?_
      obtain ⟨hi, hf⟩ := gd_some hf
      refine va_iald hx hb hK.1 hP 4 0 rfl rfl hi dX7_readsAfter_56 ?_
      refine va_put (D := D) (ci := 7) (v := .int (rv1.2.2.2 (nI 0).toNatClampNeg)) (ty := .int) (C := RX7) (T := TX7) (N := 14) hx hb hts hiX7 tyX7 tyX7_ok nmX7 hown hK.1 hP hD hS 0 rfl rfl 7 (by decide) hfl_72 (fun _ h9 => h9) rfl (tyX7_ok 7 (by decide)) rfl rfl (Nat.le_of_ble_eq_true rfl) dX7_readsAfter_57 (fun H locs hP hD hS => ?_)
      have hP : va_P D vwCl [(k0, .inr (7, [.ref k1, .int k_un, .ref k2, .ref k3, .int k_len, .int rv1.2.1, .int rv1.2.2.1, .int (rv1.2.2.2 (nI 0).toNatClampNeg), .int k_cl, .int k_do, .ref k4, .ref k5, .ref k6, .ref k7])), (k1, .inl (cI, 583, .inl k_ro)), (k2, .inl (cZ, 2, .inl k_ke)), (k3, .inl (cI, 200, .inl k_te)), (k4, .inl (cI, 10, .inl rv1.2.2.2)), (k5, .inl (cI, 48, .inl k_na)), (k6, .inl (cI, 1024, .inl k_no)), (k7, .inl (cI, 1024, .inl k_tu))] H := hP
      have hD : va_D A [(k0, .inr (7, [.ref k1, .int k_un, .ref k2, .ref k3, .int k_len, .int rv1.2.1, .int rv1.2.2.1, .int (rv1.2.2.2 (nI 0).toNatClampNeg), .int k_cl, .int k_do, .ref k4, .ref k5, .ref k6, .ref k7])), (k1, .inl (cI, 583, .inl k_ro)), (k2, .inl (cZ, 2, .inl k_ke)), (k3, .inl (cI, 200, .inl k_te)), (k4, .inl (cI, 10, .inl rv1.2.2.2)), (k5, .inl (cI, 48, .inl k_na)), (k6, .inl (cI, 1024, .inl k_no)), (k7, .inl (cI, 1024, .inl k_tu))] := hD
      refine lv_aload_n hx hb dX7_readsAfter_60 rfl (lv_at hl 0 rfl) ?_
      refine va_get (D := D) (ci := 7) (v := .int k_do) (C := RX7) (T := TX7) (N := 14) hx hb hts hiX7 hown hK.1 hP 0 rfl rfl 9 (by decide) hfl_89 (fun _ h9 => h9) rfl dX7_readsAfter_61 ?_
      refine lv_if_eq (tgt := 75) hx hb dX7_readsAfter_64 (by decide) (fun hc => ?_) (fun hc => ?_)
      · have hf := ifp hc hf
        refine lv_iconst (v := (nI 1)) hx hb dX7_readsAfter_75 ic_1 ?_
        cases hf
        exact W.zret hx hb hr zbl_1.1 (fun t ht _ => ⟨⟨rfl, by rw [ht]; exact hP, hD⟩, hS.F ht⟩) hS.2.2 dX7_readsAfter_76
      · have hf := ifn hc hf
        refine lv_aload_n hx hb dX7_readsAfter_67 rfl (lv_at hl 0 rfl) ?_
        refine lv_aload_n hx hb dX7_readsAfter_68 rfl (lv_at hl 0 rfl) ?_
        refine va_get (D := D) (ci := 7) (v := .int (rv1.2.2.2 (nI 0).toNatClampNeg)) (C := RX7) (T := TX7) (N := 14) hx hb hts hiX7 hown hK.1 hP 0 rfl rfl 7 (by decide) hfl_72 (fun _ h9 => h9) rfl dX7_readsAfter_69 ?_
        obtain ⟨rv2, hrv2, hf⟩ := bd hf
        refine muV0 (wr := []) (va_runV (As := [.int (rv1.2.2.2 (nI 0).toNatClampNeg)]) (rest := []) ⟨hx, hb, hml, hown, hts⟩ (c_X7_begins l D cI cZ cM k0 k1 k2 k3 k4 k5 k6 k7 _ k_un k_len rv1.2.1 rv1.2.2.1 (rv1.2.2.2 (nI 0).toNatClampNeg) k_cl k_do k_ro k_ke k_te rv1.2.2.2 k_na k_no k_tu (rv1.2.2.2 (nI 0).toNatClampNeg) fu rv2 hrv2) (cwV 1 hts gX7_readsAfter_X7_begins rfl rfl rfl ⟨rfl, hdc_X7_begins⟩ ⟨Nat.le_of_ble_eq_true rfl, Nat.le_of_ble_eq_true rfl⟩) (pmV hK hP hD [0, 1, 2, 3, 4, 5, 6, 7] (by decide) rfl rfl (ci := 7) (q0 := 0) rfl rfl) rfl rfl hl.1 rfl (lv_room (Nat.le_of_ble_eq_true rfl)) dX7_readsAfter_72 ⟨Nat.zero_le _, Nat.zero_le _⟩) hP hD hS hA [0, 1, 2, 3, 4, 5, 6, 7] [] rfl rfl (by decide) (by decide) (fun H locs hP hD hS => ?_)
        have hP : va_P D vwCl [(k0, .inr (7, [.ref k1, .int k_un, .ref k2, .ref k3, .int k_len, .int rv1.2.1, .int rv1.2.2.1, .int (rv1.2.2.2 (nI 0).toNatClampNeg), .int k_cl, .int k_do, .ref k4, .ref k5, .ref k6, .ref k7])), (k1, .inl (cI, 583, .inl rv2)), (k2, .inl (cZ, 2, .inl k_ke)), (k3, .inl (cI, 200, .inl k_te)), (k4, .inl (cI, 10, .inl rv1.2.2.2)), (k5, .inl (cI, 48, .inl k_na)), (k6, .inl (cI, 1024, .inl k_no)), (k7, .inl (cI, 1024, .inl k_tu))] H := hP
        have hD : va_D A [(k0, .inr (7, [.ref k1, .int k_un, .ref k2, .ref k3, .int k_len, .int rv1.2.1, .int rv1.2.2.1, .int (rv1.2.2.2 (nI 0).toNatClampNeg), .int k_cl, .int k_do, .ref k4, .ref k5, .ref k6, .ref k7])), (k1, .inl (cI, 583, .inl rv2)), (k2, .inl (cZ, 2, .inl k_ke)), (k3, .inl (cI, 200, .inl k_te)), (k4, .inl (cI, 10, .inl rv1.2.2.2)), (k5, .inl (cI, 48, .inl k_na)), (k6, .inl (cI, 1024, .inl k_no)), (k7, .inl (cI, 1024, .inl k_tu))] := hD
        refine lv_iconst (v := (nI 1)) hx hb dX7_readsAfter_75 ic_1 ?_
        cases hf
        exact W.zret hx hb hr zbl_1.1 (fun t ht _ => ⟨⟨rfl, by rw [ht]; exact hP, hD⟩, hS.F ht⟩) hS.2.2 dX7_readsAfter_76
    · have hf := ifp hc hf
      refine lv_iconst (v := (nI 0)) hx hb dX7_readsAfter_48 ic_0 ?_
      cases hf
      exact W.zret hx hb hr zbl_0.1 (fun t ht _ => ⟨⟨rfl, by rw [ht]; exact hP, hD⟩, hS.F ht⟩) hS.2.2 dX7_readsAfter_49
  · have hf := ifn hk0 hf
    by_cases hk1 : x1 = (nI 1)
    · have hf := ifp hk1 hf
      refine lv_tableIn (off := 76) (tgt := 77) hx hb dX7_readsAfter_1 (by rw [hk1]; decide +kernel) (by rw [hk1]; decide +kernel) (by rw [hk1]; decide +kernel) (by decide) ?_
      refine lv_aload_n hx hb dX7_readsAfter_77 rfl (lv_at hl 0 rfl) ?_
      refine lv_iconst (v := (nI 0)) hx hb dX7_readsAfter_78 ic_0 ?_
      refine lv_iconst (v := (-1 : Int32)) hx hb dX7_readsAfter_79 ic_m1 ?_
      obtain ⟨rv3, hrv3, hf⟩ := bd hf
      refine muI0 (wr := []) (va_runV (As := [.int (nI 0), .int (-1 : Int32)]) (rest := []) ⟨hx, hb, hml, hown, hts⟩ (c_X7_readsSection l D cI cZ cM k0 k1 k2 k3 k4 k5 k6 k7 _ k_un k_len k_fi k_be k_to k_cl k_do k_ro k_ke k_te k_nu k_na k_no k_tu (nI 0) (-1 : Int32) fu rv3.1 rv3.2.1 rv3.2.2.1 rv3.2.2.2 hrv3) (cwV 2 hts gX7_readsAfter_X7_readsSection rfl rfl rfl ⟨rfl, hdc_X7_readsSection⟩ ⟨Nat.le_of_ble_eq_true rfl, Nat.le_of_ble_eq_true rfl⟩) (pmV hK hP hD [0, 1, 2, 3, 4, 5, 6, 7] (by decide) rfl rfl (ci := 7) (q0 := 0) rfl rfl) rfl rfl hl.1 rfl (lv_room (Nat.le_of_ble_eq_true rfl)) dX7_readsAfter_80 ⟨Nat.zero_le _, Nat.zero_le _⟩) hP hD hS hA [0, 1, 2, 3, 4, 5, 6, 7] [] rfl rfl (by decide) (by decide) (fun H locs hP hD hS => ?_)
      have hP : va_P D vwCl [(k0, .inr (7, [.ref k1, .int k_un, .ref k2, .ref k3, .int k_len, .int rv3.2.1, .int rv3.2.2.1, .int k_to, .int k_cl, .int k_do, .ref k4, .ref k5, .ref k6, .ref k7])), (k1, .inl (cI, 583, .inl k_ro)), (k2, .inl (cZ, 2, .inl k_ke)), (k3, .inl (cI, 200, .inl k_te)), (k4, .inl (cI, 10, .inl rv3.2.2.2)), (k5, .inl (cI, 48, .inl k_na)), (k6, .inl (cI, 1024, .inl k_no)), (k7, .inl (cI, 1024, .inl k_tu))] H := hP
      have hD : va_D A [(k0, .inr (7, [.ref k1, .int k_un, .ref k2, .ref k3, .int k_len, .int rv3.2.1, .int rv3.2.2.1, .int k_to, .int k_cl, .int k_do, .ref k4, .ref k5, .ref k6, .ref k7])), (k1, .inl (cI, 583, .inl k_ro)), (k2, .inl (cZ, 2, .inl k_ke)), (k3, .inl (cI, 200, .inl k_te)), (k4, .inl (cI, 10, .inl rv3.2.2.2)), (k5, .inl (cI, 48, .inl k_na)), (k6, .inl (cI, 1024, .inl k_no)), (k7, .inl (cI, 1024, .inl k_tu))] := hD
      refine lv_if_eq (tgt := 98) hx hb dX7_readsAfter_83 (by decide) (fun hc => ?_) (fun hc => ?_)
      · have hf := ifp hc hf
        refine lv_iconst (v := (nI 0)) hx hb dX7_readsAfter_98 ic_0 ?_
        cases hf
        exact W.zret hx hb hr zbl_0.1 (fun t ht _ => ⟨⟨rfl, by rw [ht]; exact hP, hD⟩, hS.F ht⟩) hS.2.2 dX7_readsAfter_99
      · have hf := ifn hc hf
        refine lv_aload_n hx hb dX7_readsAfter_86 rfl (lv_at hl 0 rfl) ?_
        refine lv_iconst (v := (nI 1)) hx hb dX7_readsAfter_87 ic_1 ?_
        refine lv_iconst (v := (nI 1)) hx hb dX7_readsAfter_88 ic_1 ?_
        refine lv_bipush (v := (nI 9)) hx hb dX7_readsAfter_89 bp_9 ?_
        refine lv_iconst (v := (-1 : Int32)) hx hb dX7_readsAfter_91 ic_m1 ?_
        obtain ⟨rv4, hrv4, hf⟩ := bd hf
        refine muI0 (wr := []) (va_runV (As := [.int (nI 1), .int (nI 1), .int (nI 9), .int (-1 : Int32)]) (rest := []) ⟨hx, hb, hml, hown, hts⟩ (c_X7_reads l D cI cZ cM k0 k1 k2 k3 k4 k5 k6 k7 _ k_un k_len rv3.2.1 rv3.2.2.1 k_to k_cl k_do k_ro k_ke k_te rv3.2.2.2 k_na k_no k_tu (nI 1) (nI 1) (nI 9) (-1 : Int32) fu rv4.1 rv4.2.1 rv4.2.2.1 rv4.2.2.2 hrv4) (cwV 4 hts gX7_readsAfter_X7_reads rfl rfl rfl ⟨rfl, hdc_X7_reads⟩ ⟨Nat.le_of_ble_eq_true rfl, Nat.le_of_ble_eq_true rfl⟩) (pmV hK hP hD [0, 1, 2, 3, 4, 5, 6, 7] (by decide) rfl rfl (ci := 7) (q0 := 0) rfl rfl) rfl rfl hl.1 rfl (lv_room (Nat.le_of_ble_eq_true rfl)) dX7_readsAfter_92 ⟨Nat.zero_le _, Nat.zero_le _⟩) hP hD hS hA [0, 1, 2, 3, 4, 5, 6, 7] [] rfl rfl (by decide) (by decide) (fun H locs hP hD hS => ?_)
        have hP : va_P D vwCl [(k0, .inr (7, [.ref k1, .int k_un, .ref k2, .ref k3, .int k_len, .int rv4.2.1, .int rv4.2.2.1, .int k_to, .int k_cl, .int k_do, .ref k4, .ref k5, .ref k6, .ref k7])), (k1, .inl (cI, 583, .inl k_ro)), (k2, .inl (cZ, 2, .inl k_ke)), (k3, .inl (cI, 200, .inl k_te)), (k4, .inl (cI, 10, .inl rv4.2.2.2)), (k5, .inl (cI, 48, .inl k_na)), (k6, .inl (cI, 1024, .inl k_no)), (k7, .inl (cI, 1024, .inl k_tu))] H := hP
        have hD : va_D A [(k0, .inr (7, [.ref k1, .int k_un, .ref k2, .ref k3, .int k_len, .int rv4.2.1, .int rv4.2.2.1, .int k_to, .int k_cl, .int k_do, .ref k4, .ref k5, .ref k6, .ref k7])), (k1, .inl (cI, 583, .inl k_ro)), (k2, .inl (cZ, 2, .inl k_ke)), (k3, .inl (cI, 200, .inl k_te)), (k4, .inl (cI, 10, .inl rv4.2.2.2)), (k5, .inl (cI, 48, .inl k_na)), (k6, .inl (cI, 1024, .inl k_no)), (k7, .inl (cI, 1024, .inl k_tu))] := hD
        refine lv_if_ne (tgt := 100) hx hb dX7_readsAfter_95 (by decide) (fun hc => ?_) (fun hc => ?_)
        · have hf := ifn hc hf
          refine lv_aload_n hx hb dX7_readsAfter_100 rfl (lv_at hl 0 rfl) ?_
          refine va_get (D := D) (ci := 7) (v := .int k_do) (C := RX7) (T := TX7) (N := 14) hx hb hts hiX7 hown hK.1 hP 0 rfl rfl 9 (by decide) hfl_89 (fun _ h9 => h9) rfl dX7_readsAfter_101 ?_
          refine lv_if_eq (tgt := 126) hx hb dX7_readsAfter_104 (by decide) (fun hc => ?_) (fun hc => ?_)
          · have hf := ifp hc hf
            refine lv_iconst (v := (nI 1)) hx hb dX7_readsAfter_126 ic_1 ?_
            cases hf
            exact W.zret hx hb hr zbl_1.1 (fun t ht _ => ⟨⟨rfl, by rw [ht]; exact hP, hD⟩, hS.F ht⟩) hS.2.2 dX7_readsAfter_127
          · have hf := ifn hc hf
            refine lv_aload_n hx hb dX7_readsAfter_107 rfl (lv_at hl 0 rfl) ?_
            refine va_get (D := D) (ci := 7) (v := .ref k1) (C := RX7) (T := TX7) (N := 14) hx hb hts hiX7 hown hK.1 hP 0 rfl rfl 0 (by decide) hfl_7 (fun _ h9 => h9) rfl dX7_readsAfter_108 ?_
            refine lv_iconst (v := (nI 1)) hx hb dX7_readsAfter_111 ic_1 ?_
            refine lv_aload_n hx hb dX7_readsAfter_112 rfl (lv_at hl 0 rfl) ?_
            refine va_get (D := D) (ci := 7) (v := .ref k4) (C := RX7) (T := TX7) (N := 14) hx hb hts hiX7 hown hK.1 hP 0 rfl rfl 10 (by decide) hfl_20 (fun _ h9 => h9) rfl dX7_readsAfter_113 ?_
            refine lv_iconst (v := (nI 0)) hx hb dX7_readsAfter_116 ic_0 ?_
            obtain ⟨hi, hf⟩ := gd_some hf
            refine va_iald hx hb hK.1 hP 4 0 rfl rfl hi dX7_readsAfter_117 ?_
            refine lv_iadd hx hb dX7_readsAfter_118 ?_
            refine lv_aload_n hx hb dX7_readsAfter_119 rfl (lv_at hl 0 rfl) ?_
            refine va_get (D := D) (ci := 7) (v := .ref k4) (C := RX7) (T := TX7) (N := 14) hx hb hts hiX7 hown hK.1 hP 0 rfl rfl 10 (by decide) hfl_20 (fun _ h9 => h9) rfl dX7_readsAfter_120 ?_
            refine lv_iconst (v := (nI 1)) hx hb dX7_readsAfter_123 ic_1 ?_
            obtain ⟨hi, hf⟩ := gd_some hf
            refine va_iald hx hb hK.1 hP 4 0 rfl rfl hi dX7_readsAfter_124 ?_
            obtain ⟨hi, hf⟩ := gd_some hf
            refine va_iast hx hb hK.1 hP hD hS 1 0 rfl rfl hi dX7_readsAfter_125 (fun H locs hP hD hS => ?_)
            have hP : va_P D vwCl [(k0, .inr (7, [.ref k1, .int k_un, .ref k2, .ref k3, .int k_len, .int rv4.2.1, .int rv4.2.2.1, .int k_to, .int k_cl, .int k_do, .ref k4, .ref k5, .ref k6, .ref k7])), (k1, .inl (cI, 583, .inl (upd k_ro ((nI 1) + (rv4.2.2.2 (nI 0).toNatClampNeg)).toNatClampNeg (rv4.2.2.2 (nI 1).toNatClampNeg)))), (k2, .inl (cZ, 2, .inl k_ke)), (k3, .inl (cI, 200, .inl k_te)), (k4, .inl (cI, 10, .inl rv4.2.2.2)), (k5, .inl (cI, 48, .inl k_na)), (k6, .inl (cI, 1024, .inl k_no)), (k7, .inl (cI, 1024, .inl k_tu))] H := hP
            have hD : va_D A [(k0, .inr (7, [.ref k1, .int k_un, .ref k2, .ref k3, .int k_len, .int rv4.2.1, .int rv4.2.2.1, .int k_to, .int k_cl, .int k_do, .ref k4, .ref k5, .ref k6, .ref k7])), (k1, .inl (cI, 583, .inl (upd k_ro ((nI 1) + (rv4.2.2.2 (nI 0).toNatClampNeg)).toNatClampNeg (rv4.2.2.2 (nI 1).toNatClampNeg)))), (k2, .inl (cZ, 2, .inl k_ke)), (k3, .inl (cI, 200, .inl k_te)), (k4, .inl (cI, 10, .inl rv4.2.2.2)), (k5, .inl (cI, 48, .inl k_na)), (k6, .inl (cI, 1024, .inl k_no)), (k7, .inl (cI, 1024, .inl k_tu))] := hD
            refine lv_iconst (v := (nI 1)) hx hb dX7_readsAfter_126 ic_1 ?_
            cases hf
            exact W.zret hx hb hr zbl_1.1 (fun t ht _ => ⟨⟨rfl, by rw [ht]; exact hP, hD⟩, hS.F ht⟩) hS.2.2 dX7_readsAfter_127
        · have hf := ifp hc hf
          refine lv_iconst (v := (nI 0)) hx hb dX7_readsAfter_98 ic_0 ?_
          cases hf
          exact W.zret hx hb hr zbl_0.1 (fun t ht _ => ⟨⟨rfl, by rw [ht]; exact hP, hD⟩, hS.F ht⟩) hS.2.2 dX7_readsAfter_99
    · have hf := ifn hk1 hf
      by_cases hk2 : x1 = (nI 2)
      · have hf := ifp hk2 hf
        refine lv_tableIn (off := 127) (tgt := 128) hx hb dX7_readsAfter_1 (by rw [hk2]; decide +kernel) (by rw [hk2]; decide +kernel) (by rw [hk2]; decide +kernel) (by decide) ?_
        refine lv_aload_n hx hb dX7_readsAfter_128 rfl (lv_at hl 0 rfl) ?_
        obtain ⟨rv5, hrv5, hf⟩ := bd hf
        refine muI0 (wr := []) (va_runV (As := []) (rest := []) ⟨hx, hb, hml, hown, hts⟩ (c_X7_readsHome l D cI cZ cM k0 k1 k2 k3 k4 k5 k6 k7 _ k_un k_len k_fi k_be k_to k_cl k_do k_ro k_ke k_te k_nu k_na k_no k_tu fu rv5.1 rv5.2.1 rv5.2.2.1 rv5.2.2.2.1 rv5.2.2.2.2 hrv5) (cwV 0 hts gX7_readsAfter_X7_readsHome rfl rfl rfl ⟨rfl, hdc_X7_readsHome⟩ ⟨Nat.le_of_ble_eq_true rfl, Nat.le_of_ble_eq_true rfl⟩) (pmV hK hP hD [0, 1, 2, 3, 4, 5, 6, 7] (by decide) rfl rfl (ci := 7) (q0 := 0) rfl rfl) rfl rfl hl.1 rfl (lv_room (Nat.le_of_ble_eq_true rfl)) dX7_readsAfter_129 ⟨Nat.zero_le _, Nat.zero_le _⟩) hP hD hS hA [0, 1, 2, 3, 4, 5, 6, 7] [] rfl rfl (by decide) (by decide) (fun H locs hP hD hS => ?_)
        have hP : va_P D vwCl [(k0, .inr (7, [.ref k1, .int k_un, .ref k2, .ref k3, .int k_len, .int rv5.2.1, .int rv5.2.2.1, .int k_to, .int k_cl, .int k_do, .ref k4, .ref k5, .ref k6, .ref k7])), (k1, .inl (cI, 583, .inl rv5.2.2.2.1)), (k2, .inl (cZ, 2, .inl k_ke)), (k3, .inl (cI, 200, .inl k_te)), (k4, .inl (cI, 10, .inl rv5.2.2.2.2)), (k5, .inl (cI, 48, .inl k_na)), (k6, .inl (cI, 1024, .inl k_no)), (k7, .inl (cI, 1024, .inl k_tu))] H := hP
        have hD : va_D A [(k0, .inr (7, [.ref k1, .int k_un, .ref k2, .ref k3, .int k_len, .int rv5.2.1, .int rv5.2.2.1, .int k_to, .int k_cl, .int k_do, .ref k4, .ref k5, .ref k6, .ref k7])), (k1, .inl (cI, 583, .inl rv5.2.2.2.1)), (k2, .inl (cZ, 2, .inl k_ke)), (k3, .inl (cI, 200, .inl k_te)), (k4, .inl (cI, 10, .inl rv5.2.2.2.2)), (k5, .inl (cI, 48, .inl k_na)), (k6, .inl (cI, 1024, .inl k_no)), (k7, .inl (cI, 1024, .inl k_tu))] := hD
        obtain ⟨hz, hf⟩ := zb_some hf
        cases hf
        exact W.zret hx hb hr hz.1 (fun t ht _ => ⟨⟨rfl, by rw [ht]; exact hP, hD⟩, hS.F ht⟩) hS.2.2 dX7_readsAfter_132
      · have hf := ifn hk2 hf
        by_cases hk3 : x1 = (nI 3)
        · have hf := ifp hk3 hf
          refine lv_tableIn (off := 132) (tgt := 133) hx hb dX7_readsAfter_1 (by rw [hk3]; decide +kernel) (by rw [hk3]; decide +kernel) (by rw [hk3]; decide +kernel) (by decide) ?_
          refine lv_aload_n hx hb dX7_readsAfter_133 rfl (lv_at hl 0 rfl) ?_
          obtain ⟨rv6, hrv6, hf⟩ := bd hf
          refine muI0 (wr := []) (va_runV (As := []) (rest := []) ⟨hx, hb, hml, hown, hts⟩ (c_X7_readsUses l D cI cZ cM k0 k1 k2 k3 k4 k5 k6 k7 _ k_un k_len k_fi k_be k_to k_cl k_do k_ro k_ke k_te k_nu k_na k_no k_tu fu rv6.1 rv6.2.1 rv6.2.2.1 rv6.2.2.2.1 rv6.2.2.2.2 hrv6) (cwV 0 hts gX7_readsAfter_X7_readsUses rfl rfl rfl ⟨rfl, hdc_X7_readsUses⟩ ⟨Nat.le_of_ble_eq_true rfl, Nat.le_of_ble_eq_true rfl⟩) (pmV hK hP hD [0, 1, 2, 3, 4, 5, 6, 7] (by decide) rfl rfl (ci := 7) (q0 := 0) rfl rfl) rfl rfl hl.1 rfl (lv_room (Nat.le_of_ble_eq_true rfl)) dX7_readsAfter_134 ⟨Nat.zero_le _, Nat.zero_le _⟩) hP hD hS hA [0, 1, 2, 3, 4, 5, 6, 7] [] rfl rfl (by decide) (by decide) (fun H locs hP hD hS => ?_)
          have hP : va_P D vwCl [(k0, .inr (7, [.ref k1, .int k_un, .ref k2, .ref k3, .int k_len, .int rv6.2.1, .int rv6.2.2.1, .int k_to, .int k_cl, .int k_do, .ref k4, .ref k5, .ref k6, .ref k7])), (k1, .inl (cI, 583, .inl rv6.2.2.2.1)), (k2, .inl (cZ, 2, .inl k_ke)), (k3, .inl (cI, 200, .inl k_te)), (k4, .inl (cI, 10, .inl rv6.2.2.2.2)), (k5, .inl (cI, 48, .inl k_na)), (k6, .inl (cI, 1024, .inl k_no)), (k7, .inl (cI, 1024, .inl k_tu))] H := hP
          have hD : va_D A [(k0, .inr (7, [.ref k1, .int k_un, .ref k2, .ref k3, .int k_len, .int rv6.2.1, .int rv6.2.2.1, .int k_to, .int k_cl, .int k_do, .ref k4, .ref k5, .ref k6, .ref k7])), (k1, .inl (cI, 583, .inl rv6.2.2.2.1)), (k2, .inl (cZ, 2, .inl k_ke)), (k3, .inl (cI, 200, .inl k_te)), (k4, .inl (cI, 10, .inl rv6.2.2.2.2)), (k5, .inl (cI, 48, .inl k_na)), (k6, .inl (cI, 1024, .inl k_no)), (k7, .inl (cI, 1024, .inl k_tu))] := hD
          obtain ⟨hz, hf⟩ := zb_some hf
          cases hf
          exact W.zret hx hb hr hz.1 (fun t ht _ => ⟨⟨rfl, by rw [ht]; exact hP, hD⟩, hS.F ht⟩) hS.2.2 dX7_readsAfter_137
        · have hf := ifn hk3 hf
          by_cases hk4 : x1 = (nI 4)
          · have hf := ifp hk4 hf
            refine lv_tableIn (off := 137) (tgt := 138) hx hb dX7_readsAfter_1 (by rw [hk4]; decide +kernel) (by rw [hk4]; decide +kernel) (by rw [hk4]; decide +kernel) (by decide) ?_
            refine lv_aload_n hx hb dX7_readsAfter_138 rfl (lv_at hl 0 rfl) ?_
            refine lv_iconst (v := (nI 0)) hx hb dX7_readsAfter_139 ic_0 ?_
            refine lv_iconst (v := (-1 : Int32)) hx hb dX7_readsAfter_140 ic_m1 ?_
            obtain ⟨rv7, hrv7, hf⟩ := bd hf
            refine muI0 (wr := []) (va_runV (As := [.int (nI 0), .int (-1 : Int32)]) (rest := []) ⟨hx, hb, hml, hown, hts⟩ (c_X7_readsSection l D cI cZ cM k0 k1 k2 k3 k4 k5 k6 k7 _ k_un k_len k_fi k_be k_to k_cl k_do k_ro k_ke k_te k_nu k_na k_no k_tu (nI 0) (-1 : Int32) fu rv7.1 rv7.2.1 rv7.2.2.1 rv7.2.2.2 hrv7) (cwV 2 hts gX7_readsAfter_X7_readsSection rfl rfl rfl ⟨rfl, hdc_X7_readsSection⟩ ⟨Nat.le_of_ble_eq_true rfl, Nat.le_of_ble_eq_true rfl⟩) (pmV hK hP hD [0, 1, 2, 3, 4, 5, 6, 7] (by decide) rfl rfl (ci := 7) (q0 := 0) rfl rfl) rfl rfl hl.1 rfl (lv_room (Nat.le_of_ble_eq_true rfl)) dX7_readsAfter_141 ⟨Nat.zero_le _, Nat.zero_le _⟩) hP hD hS hA [0, 1, 2, 3, 4, 5, 6, 7] [] rfl rfl (by decide) (by decide) (fun H locs hP hD hS => ?_)
            have hP : va_P D vwCl [(k0, .inr (7, [.ref k1, .int k_un, .ref k2, .ref k3, .int k_len, .int rv7.2.1, .int rv7.2.2.1, .int k_to, .int k_cl, .int k_do, .ref k4, .ref k5, .ref k6, .ref k7])), (k1, .inl (cI, 583, .inl k_ro)), (k2, .inl (cZ, 2, .inl k_ke)), (k3, .inl (cI, 200, .inl k_te)), (k4, .inl (cI, 10, .inl rv7.2.2.2)), (k5, .inl (cI, 48, .inl k_na)), (k6, .inl (cI, 1024, .inl k_no)), (k7, .inl (cI, 1024, .inl k_tu))] H := hP
            have hD : va_D A [(k0, .inr (7, [.ref k1, .int k_un, .ref k2, .ref k3, .int k_len, .int rv7.2.1, .int rv7.2.2.1, .int k_to, .int k_cl, .int k_do, .ref k4, .ref k5, .ref k6, .ref k7])), (k1, .inl (cI, 583, .inl k_ro)), (k2, .inl (cZ, 2, .inl k_ke)), (k3, .inl (cI, 200, .inl k_te)), (k4, .inl (cI, 10, .inl rv7.2.2.2)), (k5, .inl (cI, 48, .inl k_na)), (k6, .inl (cI, 1024, .inl k_no)), (k7, .inl (cI, 1024, .inl k_tu))] := hD
            refine lv_if_eq (tgt := 161) hx hb dX7_readsAfter_144 (by decide) (fun hc => ?_) (fun hc => ?_)
            · have hf := ifp hc hf
              refine lv_iconst (v := (nI 0)) hx hb dX7_readsAfter_161 ic_0 ?_
              cases hf
              exact W.zret hx hb hr zbl_0.1 (fun t ht _ => ⟨⟨rfl, by rw [ht]; exact hP, hD⟩, hS.F ht⟩) hS.2.2 dX7_readsAfter_162
            · have hf := ifn hc hf
              refine lv_aload_n hx hb dX7_readsAfter_147 rfl (lv_at hl 0 rfl) ?_
              refine lv_iconst (v := (nI 1)) hx hb dX7_readsAfter_148 ic_1 ?_
              refine lv_aload_n hx hb dX7_readsAfter_149 rfl (lv_at hl 0 rfl) ?_
              refine va_get (D := D) (ci := 7) (v := .ref k4) (C := RX7) (T := TX7) (N := 14) hx hb hts hiX7 hown hK.1 hP 0 rfl rfl 10 (by decide) hfl_20 (fun _ h9 => h9) rfl dX7_readsAfter_150 ?_
              refine lv_iconst (v := (nI 0)) hx hb dX7_readsAfter_153 ic_0 ?_
              obtain ⟨hi, hf⟩ := gd_some hf
              refine va_iald hx hb hK.1 hP 4 0 rfl rfl hi dX7_readsAfter_154 ?_
              obtain ⟨rv8, hrv8, hf⟩ := bd hf
              refine muI0 (wr := []) (va_runV (As := [.int (nI 1), .int (rv7.2.2.2 (nI 0).toNatClampNeg)]) (rest := []) ⟨hx, hb, hml, hown, hts⟩ (c_X7_readsSection l D cI cZ cM k0 k1 k2 k3 k4 k5 k6 k7 _ k_un k_len rv7.2.1 rv7.2.2.1 k_to k_cl k_do k_ro k_ke k_te rv7.2.2.2 k_na k_no k_tu (nI 1) (rv7.2.2.2 (nI 0).toNatClampNeg) fu rv8.1 rv8.2.1 rv8.2.2.1 rv8.2.2.2 hrv8) (cwV 2 hts gX7_readsAfter_X7_readsSection rfl rfl rfl ⟨rfl, hdc_X7_readsSection⟩ ⟨Nat.le_of_ble_eq_true rfl, Nat.le_of_ble_eq_true rfl⟩) (pmV hK hP hD [0, 1, 2, 3, 4, 5, 6, 7] (by decide) rfl rfl (ci := 7) (q0 := 0) rfl rfl) rfl rfl hl.1 rfl (lv_room (Nat.le_of_ble_eq_true rfl)) dX7_readsAfter_155 ⟨Nat.zero_le _, Nat.zero_le _⟩) hP hD hS hA [0, 1, 2, 3, 4, 5, 6, 7] [] rfl rfl (by decide) (by decide) (fun H locs hP hD hS => ?_)
              have hP : va_P D vwCl [(k0, .inr (7, [.ref k1, .int k_un, .ref k2, .ref k3, .int k_len, .int rv8.2.1, .int rv8.2.2.1, .int k_to, .int k_cl, .int k_do, .ref k4, .ref k5, .ref k6, .ref k7])), (k1, .inl (cI, 583, .inl k_ro)), (k2, .inl (cZ, 2, .inl k_ke)), (k3, .inl (cI, 200, .inl k_te)), (k4, .inl (cI, 10, .inl rv8.2.2.2)), (k5, .inl (cI, 48, .inl k_na)), (k6, .inl (cI, 1024, .inl k_no)), (k7, .inl (cI, 1024, .inl k_tu))] H := hP
              have hD : va_D A [(k0, .inr (7, [.ref k1, .int k_un, .ref k2, .ref k3, .int k_len, .int rv8.2.1, .int rv8.2.2.1, .int k_to, .int k_cl, .int k_do, .ref k4, .ref k5, .ref k6, .ref k7])), (k1, .inl (cI, 583, .inl k_ro)), (k2, .inl (cZ, 2, .inl k_ke)), (k3, .inl (cI, 200, .inl k_te)), (k4, .inl (cI, 10, .inl rv8.2.2.2)), (k5, .inl (cI, 48, .inl k_na)), (k6, .inl (cI, 1024, .inl k_no)), (k7, .inl (cI, 1024, .inl k_tu))] := hD
              refine lv_if_ne (tgt := 163) hx hb dX7_readsAfter_158 (by decide) (fun hc => ?_) (fun hc => ?_)
              · have hf := ifn hc hf
                refine lv_aload_n hx hb dX7_readsAfter_163 rfl (lv_at hl 0 rfl) ?_
                refine va_get (D := D) (ci := 7) (v := .int k_do) (C := RX7) (T := TX7) (N := 14) hx hb hts hiX7 hown hK.1 hP 0 rfl rfl 9 (by decide) hfl_89 (fun _ h9 => h9) rfl dX7_readsAfter_164 ?_
                refine lv_if_eq (tgt := 214) hx hb dX7_readsAfter_167 (by decide) (fun hc => ?_) (fun hc => ?_)
                · have hf := ifp hc hf
                  refine lv_iconst (v := (nI 1)) hx hb dX7_readsAfter_214 ic_1 ?_
                  cases hf
                  exact W.zret hx hb hr zbl_1.1 (fun t ht _ => ⟨⟨rfl, by rw [ht]; exact hP, hD⟩, hS.F ht⟩) hS.2.2 dX7_readsAfter_215
                · have hf := ifn hc hf
                  refine lv_aload_n hx hb dX7_readsAfter_170 rfl (lv_at hl 0 rfl) ?_
                  refine lv_aload_n hx hb dX7_readsAfter_171 rfl (lv_at hl 0 rfl) ?_
                  refine va_get (D := D) (ci := 7) (v := .ref k4) (C := RX7) (T := TX7) (N := 14) hx hb hts hiX7 hown hK.1 hP 0 rfl rfl 10 (by decide) hfl_20 (fun _ h9 => h9) rfl dX7_readsAfter_172 ?_
                  refine lv_iconst (v := (nI 0)) hx hb dX7_readsAfter_175 ic_0 ?_
                  obtain ⟨hi, hf⟩ := gd_some hf
                  refine va_iald hx hb hK.1 hP 4 0 rfl rfl hi dX7_readsAfter_176 ?_
                  refine lv_aload_n hx hb dX7_readsAfter_177 rfl (lv_at hl 0 rfl) ?_
                  refine va_get (D := D) (ci := 7) (v := .ref k4) (C := RX7) (T := TX7) (N := 14) hx hb hts hiX7 hown hK.1 hP 0 rfl rfl 10 (by decide) hfl_20 (fun _ h9 => h9) rfl dX7_readsAfter_178 ?_
                  refine lv_iconst (v := (nI 1)) hx hb dX7_readsAfter_181 ic_1 ?_
                  obtain ⟨hi, hf⟩ := gd_some hf
                  refine va_iald hx hb hK.1 hP 4 0 rfl rfl hi dX7_readsAfter_182 ?_
                  obtain ⟨rv9, hrv9, hf⟩ := bd hf
                  refine roI (va_runV (As := [.int (rv8.2.2.2 (nI 0).toNatClampNeg), .int (rv8.2.2.2 (nI 1).toNatClampNeg)]) (rest := []) ⟨hx, hb, hml, hown, hts⟩ (c_X7_canPair l D cI cZ cM k0 k1 k2 k3 k4 k5 k6 k7 k_un k_len rv8.2.1 rv8.2.2.1 k_to k_cl k_do k_ro k_ke k_te rv8.2.2.2 k_na k_no k_tu (rv8.2.2.2 (nI 0).toNatClampNeg) (rv8.2.2.2 (nI 1).toNatClampNeg) fu rv9 hrv9) (cwV 2 hts gX7_readsAfter_X7_canPair rfl rfl rfl ⟨rfl, hdc_X7_canPair⟩ ⟨Nat.le_of_ble_eq_true rfl, Nat.le_of_ble_eq_true rfl⟩) (prV hK hP [0, 1, 2, 3, 4, 5, 6, 7] rfl (ci := 7) (q0 := 0) rfl rfl) rfl rfl hl.1 rfl (lv_room (Nat.le_of_ble_eq_true rfl)) dX7_readsAfter_183 ⟨Nat.zero_le _, Nat.zero_le _⟩) ?_
                  refine lv_if_eq (tgt := 214) hx hb dX7_readsAfter_186 (by decide) (fun hc => ?_) (fun hc => ?_)
                  · have hf := ifp hc hf
                    refine lv_iconst (v := (nI 1)) hx hb dX7_readsAfter_214 ic_1 ?_
                    cases hf
                    exact W.zret hx hb hr zbl_1.1 (fun t ht _ => ⟨⟨rfl, by rw [ht]; exact hP, hD⟩, hS.F ht⟩) hS.2.2 dX7_readsAfter_215
                  · have hf := ifn hc hf
                    refine lv_aload_n hx hb dX7_readsAfter_189 rfl (lv_at hl 0 rfl) ?_
                    refine va_get (D := D) (ci := 7) (v := .ref k1) (C := RX7) (T := TX7) (N := 14) hx hb hts hiX7 hown hK.1 hP 0 rfl rfl 0 (by decide) hfl_7 (fun _ h9 => h9) rfl dX7_readsAfter_190 ?_
                    refine lv_bipush (v := (nI 43)) hx hb dX7_readsAfter_193 bp_43 ?_
                    refine lv_aload_n hx hb dX7_readsAfter_195 rfl (lv_at hl 0 rfl) ?_
                    refine va_get (D := D) (ci := 7) (v := .ref k4) (C := RX7) (T := TX7) (N := 14) hx hb hts hiX7 hown hK.1 hP 0 rfl rfl 10 (by decide) hfl_20 (fun _ h9 => h9) rfl dX7_readsAfter_196 ?_
                    refine lv_iconst (v := (nI 1)) hx hb dX7_readsAfter_199 ic_1 ?_
                    obtain ⟨hi, hf⟩ := gd_some hf
                    refine va_iald hx hb hK.1 hP 4 0 rfl rfl hi dX7_readsAfter_200 ?_
                    refine lv_iadd hx hb dX7_readsAfter_201 ?_
                    refine lv_dup2_11 hx hb dX7_readsAfter_202 rfl rfl ?_
                    obtain ⟨hi, hf⟩ := gd_some hf
                    refine va_iald hx hb hK.1 hP 1 0 rfl rfl hi dX7_readsAfter_203 ?_
                    refine lv_iconst (v := (nI 1)) hx hb dX7_readsAfter_204 ic_1 ?_
                    refine lv_aload_n hx hb dX7_readsAfter_205 rfl (lv_at hl 0 rfl) ?_
                    refine va_get (D := D) (ci := 7) (v := .ref k4) (C := RX7) (T := TX7) (N := 14) hx hb hts hiX7 hown hK.1 hP 0 rfl rfl 10 (by decide) hfl_20 (fun _ h9 => h9) rfl dX7_readsAfter_206 ?_
                    refine lv_iconst (v := (nI 0)) hx hb dX7_readsAfter_209 ic_0 ?_
                    obtain ⟨hi, hf⟩ := gd_some hf
                    refine va_iald hx hb hK.1 hP 4 0 rfl rfl hi dX7_readsAfter_210 ?_
                    refine lv_ishl hx hb dX7_readsAfter_211 ?_
                    refine lv_ior hx hb dX7_readsAfter_212 ?_
                    obtain ⟨hi, hf⟩ := gd_some hf
                    refine va_iast hx hb hK.1 hP hD hS 1 0 rfl rfl hi dX7_readsAfter_213 (fun H locs hP hD hS => ?_)
                    have hP : va_P D vwCl [(k0, .inr (7, [.ref k1, .int k_un, .ref k2, .ref k3, .int k_len, .int rv8.2.1, .int rv8.2.2.1, .int k_to, .int k_cl, .int k_do, .ref k4, .ref k5, .ref k6, .ref k7])), (k1, .inl (cI, 583, .inl (upd k_ro ((nI 43) + (rv8.2.2.2 (nI 1).toNatClampNeg)).toNatClampNeg ((k_ro ((nI 43) + (rv8.2.2.2 (nI 1).toNatClampNeg)).toNatClampNeg) ||| ((nI 1) <<< ((rv8.2.2.2 (nI 0).toNatClampNeg) &&& 31)))))), (k2, .inl (cZ, 2, .inl k_ke)), (k3, .inl (cI, 200, .inl k_te)), (k4, .inl (cI, 10, .inl rv8.2.2.2)), (k5, .inl (cI, 48, .inl k_na)), (k6, .inl (cI, 1024, .inl k_no)), (k7, .inl (cI, 1024, .inl k_tu))] H := hP
                    have hD : va_D A [(k0, .inr (7, [.ref k1, .int k_un, .ref k2, .ref k3, .int k_len, .int rv8.2.1, .int rv8.2.2.1, .int k_to, .int k_cl, .int k_do, .ref k4, .ref k5, .ref k6, .ref k7])), (k1, .inl (cI, 583, .inl (upd k_ro ((nI 43) + (rv8.2.2.2 (nI 1).toNatClampNeg)).toNatClampNeg ((k_ro ((nI 43) + (rv8.2.2.2 (nI 1).toNatClampNeg)).toNatClampNeg) ||| ((nI 1) <<< ((rv8.2.2.2 (nI 0).toNatClampNeg) &&& 31)))))), (k2, .inl (cZ, 2, .inl k_ke)), (k3, .inl (cI, 200, .inl k_te)), (k4, .inl (cI, 10, .inl rv8.2.2.2)), (k5, .inl (cI, 48, .inl k_na)), (k6, .inl (cI, 1024, .inl k_no)), (k7, .inl (cI, 1024, .inl k_tu))] := hD
                    refine lv_iconst (v := (nI 1)) hx hb dX7_readsAfter_214 ic_1 ?_
                    cases hf
                    exact W.zret hx hb hr zbl_1.1 (fun t ht _ => ⟨⟨rfl, by rw [ht]; exact hP, hD⟩, hS.F ht⟩) hS.2.2 dX7_readsAfter_215
              · have hf := ifp hc hf
                refine lv_iconst (v := (nI 0)) hx hb dX7_readsAfter_161 ic_0 ?_
                cases hf
                exact W.zret hx hb hr zbl_0.1 (fun t ht _ => ⟨⟨rfl, by rw [ht]; exact hP, hD⟩, hS.F ht⟩) hS.2.2 dX7_readsAfter_162
          · have hf := ifn hk4 hf
            refine lv_tableOut (tgt := 216) hx hb dX7_readsAfter_1 (tsOut (fun k h1 _ => by rcases (show k = 0 ∨ k = 1 ∨ k = 2 ∨ k = 3 ∨ k = 4 by omega) with rfl | rfl | rfl | rfl | rfl <;> assumption)) (by decide) ?_
            refine lv_aload_n hx hb dX7_readsAfter_216 rfl (lv_at hl 0 rfl) ?_
            obtain ⟨rv10, hrv10, hf⟩ := bd hf
            refine muI0 (wr := []) (va_runV (As := []) (rest := []) ⟨hx, hb, hml, hown, hts⟩ (c_X7_readsOrder l D cI cZ cM k0 k1 k2 k3 k4 k5 k6 k7 _ k_un k_len k_fi k_be k_to k_cl k_do k_ro k_ke k_te k_nu k_na k_no k_tu fu rv10.1 rv10.2.1 rv10.2.2.1 rv10.2.2.2.1 rv10.2.2.2.2 hrv10) (cwV 0 hts gX7_readsAfter_X7_readsOrder rfl rfl rfl ⟨rfl, hdc_X7_readsOrder⟩ ⟨Nat.le_of_ble_eq_true rfl, Nat.le_of_ble_eq_true rfl⟩) (pmV hK hP hD [0, 1, 2, 3, 4, 5, 6, 7] (by decide) rfl rfl (ci := 7) (q0 := 0) rfl rfl) rfl rfl hl.1 rfl (lv_room (Nat.le_of_ble_eq_true rfl)) dX7_readsAfter_217 ⟨Nat.zero_le _, Nat.zero_le _⟩) hP hD hS hA [0, 1, 2, 3, 4, 5, 6, 7] [] rfl rfl (by decide) (by decide) (fun H locs hP hD hS => ?_)
            have hP : va_P D vwCl [(k0, .inr (7, [.ref k1, .int k_un, .ref k2, .ref k3, .int k_len, .int rv10.2.1, .int rv10.2.2.1, .int k_to, .int k_cl, .int k_do, .ref k4, .ref k5, .ref k6, .ref k7])), (k1, .inl (cI, 583, .inl rv10.2.2.2.1)), (k2, .inl (cZ, 2, .inl k_ke)), (k3, .inl (cI, 200, .inl k_te)), (k4, .inl (cI, 10, .inl rv10.2.2.2.2)), (k5, .inl (cI, 48, .inl k_na)), (k6, .inl (cI, 1024, .inl k_no)), (k7, .inl (cI, 1024, .inl k_tu))] H := hP
            have hD : va_D A [(k0, .inr (7, [.ref k1, .int k_un, .ref k2, .ref k3, .int k_len, .int rv10.2.1, .int rv10.2.2.1, .int k_to, .int k_cl, .int k_do, .ref k4, .ref k5, .ref k6, .ref k7])), (k1, .inl (cI, 583, .inl rv10.2.2.2.1)), (k2, .inl (cZ, 2, .inl k_ke)), (k3, .inl (cI, 200, .inl k_te)), (k4, .inl (cI, 10, .inl rv10.2.2.2.2)), (k5, .inl (cI, 48, .inl k_na)), (k6, .inl (cI, 1024, .inl k_no)), (k7, .inl (cI, 1024, .inl k_tu))] := hD
            obtain ⟨hz, hf⟩ := zb_some hf
            cases hf
            exact W.zret hx hb hr hz.1 (fun t ht _ => ⟨⟨rfl, by rw [ht]; exact hP, hD⟩, hS.F ht⟩) hS.2.2 dX7_readsAfter_220
theorem hdc_X7_readsClause : yX7_readsClause.cls ≠ "java/lang/invoke/MethodHandle" ∧ yX7_readsClause.cls ≠ "java/lang/invoke/VarHandle" ∧ (parseMethodDescriptor yX7_readsClause.desc).map (fun d => d.parameters.length) = some 0 := by decide +kernel
set_option maxHeartbeats 4000000 in
set_option maxRecDepth 100000 in
theorem c_X7_readsClause (l : Launch) (D : va_G) (cI cZ cM : ClassId) (k0 k1 k2 k3 k4 k5 k6 k7 : Nat) (sz : Nat) (k_un : Int32) (k_len : Int32) (k_fi : Int32) (k_be : Int32) (k_to : Int32) (k_cl : Int32) (k_do : Int32) (k_ro : Nat → Int32) (k_ke : Nat → Int32) (k_te : Nat → Int32) (k_nu : Nat → Int32) (k_na : Nat → Int32) (k_no : Nat → Int32) (k_tu : Nat → Int32) (fu : Nat) (r : Int32) (k_fi' : Int32) (k_be' : Int32) (k_to' : Int32) (k_ro' : Nat → Int32) (k_nu' : Nat → Int32) (hf : m_X7_readsClause fu k_len k_fi k_be k_to k_do k_ro k_te k_nu k_na = some (r, k_fi', k_be', k_to', k_ro', k_nu')) : Met l yX7_readsClause wsX7_readsClause ({ frames := 7, cells := 0, slots := 0, locals := 159 }) (pM D cI cZ cM sz [(k0, .inr (7, [.ref k1, .int k_un, .ref k2, .ref k3, .int k_len, .int k_fi, .int k_be, .int k_to, .int k_cl, .int k_do, .ref k4, .ref k5, .ref k6, .ref k7])), (k1, .inl (cI, 583, .inl k_ro)), (k2, .inl (cZ, 2, .inl k_ke)), (k3, .inl (cI, 200, .inl k_te)), (k4, .inl (cI, 10, .inl k_nu)), (k5, .inl (cI, 48, .inl k_na)), (k6, .inl (cI, 1024, .inl k_no)), (k7, .inl (cI, 1024, .inl k_tu))] [.ref k0]) (qI D r [(k0, .inr (7, [.ref k1, .int k_un, .ref k2, .ref k3, .int k_len, .int k_fi', .int k_be', .int k_to', .int k_cl, .int k_do, .ref k4, .ref k5, .ref k6, .ref k7])), (k1, .inl (cI, 583, .inl k_ro')), (k2, .inl (cZ, 2, .inl k_ke)), (k3, .inl (cI, 200, .inl k_te)), (k4, .inl (cI, 10, .inl k_nu')), (k5, .inl (cI, 48, .inl k_na)), (k6, .inl (cI, 1024, .inl k_no)), (k7, .inl (cI, 1024, .inl k_tu))] (va_A [(k0, .inr (7, [.ref k1, .int k_un, .ref k2, .ref k3, .int k_len, .int k_fi, .int k_be, .int k_to, .int k_cl, .int k_do, .ref k4, .ref k5, .ref k6, .ref k7])), (k1, .inl (cI, 583, .inl k_ro)), (k2, .inl (cZ, 2, .inl k_ke)), (k3, .inl (cI, 200, .inl k_te)), (k4, .inl (cI, 10, .inl k_nu)), (k5, .inl (cI, 48, .inl k_na)), (k6, .inl (cI, 1024, .inl k_no)), (k7, .inl (cI, 1024, .inl k_tu))] sz)) 0 0 (va_A [(k0, .inr (7, [.ref k1, .int k_un, .ref k2, .ref k3, .int k_len, .int k_fi, .int k_be, .int k_to, .int k_cl, .int k_do, .ref k4, .ref k5, .ref k6, .ref k7])), (k1, .inl (cI, 583, .inl k_ro)), (k2, .inl (cZ, 2, .inl k_ke)), (k3, .inl (cI, 200, .inl k_te)), (k4, .inl (cI, 10, .inl k_nu)), (k5, .inl (cI, 48, .inl k_na)), (k6, .inl (cI, 1024, .inl k_no)), (k7, .inl (cI, 1024, .inl k_tu))] sz) := by
  refine Met.ofW (cc := cX7_readsClause) (maxL := 2) (ret := (some .boolean)) (by decide) rfl ?_
  intro p e s m args below meth c s₁ B hml hv
  obtain ⟨rfl, hsz, hP, hK, hD0⟩ := hv
  have hx := B.exec
  have hb := B.bytes
  have hr := B.returns
  have hts := atoms_spec (ws := wsX7_readsClause) B.pre
  have hown : s.vm.findClass RX7 = some m.cls := findClass_of_methodNamed B.named
  have hlocks := B.notSynchronized
  subst hsz
  have hD := hD0.self (sz := s.heap.size)
  generalize hAe : va_A [(k0, .inr (7, [.ref k1, .int k_un, .ref k2, .ref k3, .int k_len, .int k_fi, .int k_be, .int k_to, .int k_cl, .int k_do, .ref k4, .ref k5, .ref k6, .ref k7])), (k1, .inl (cI, 583, .inl k_ro)), (k2, .inl (cZ, 2, .inl k_ke)), (k3, .inl (cI, 200, .inl k_te)), (k4, .inl (cI, 10, .inl k_nu)), (k5, .inl (cI, 48, .inl k_na)), (k6, .inl (cI, 1024, .inl k_no)), (k7, .inl (cI, 1024, .inl k_tu))] s.heap.size = A at hD ⊢
  have hA : ∀ q : Nat, s.heap.size ≤ q → A q := fun q h => by rw [← hAe]; exact Or.inr h
  clear hAe hD0
  have hl := lv_entry ([.ref k0]) (n := 2) (Nat.le_of_ble_eq_true rfl)
  rw [lg_entry_eq]
  generalize (lg_sl ([.ref k0]) ++ List.replicate (2 - (lg_sl ([.ref k0])).length) Slot.unset).toArray = ls at hl ⊢
  have hl : lv_has ls 2 [(0, .ref k0)] := hl
  have hS : va_S A s.heap s.heap [] := va_S.rf
  unfold m_X7_readsClause at hf
  refine lv_aload_n hx hb dX7_readsClause_0 rfl (lv_at hl 0 rfl) ?_
  obtain ⟨rv1, hrv1, hf⟩ := bd hf
  refine roI (va_runV (As := []) (rest := []) ⟨hx, hb, hml, hown, hts⟩ (c_X7_nameHere l D cI cZ cM k0 k1 k2 k3 k4 k5 k6 k7 k_un k_len k_fi k_be k_to k_cl k_do k_ro k_ke k_te k_nu k_na k_no k_tu fu rv1 hrv1) (cwV 0 hts gX7_readsClause_X7_nameHere rfl rfl rfl ⟨rfl, hdc_X7_nameHere⟩ ⟨Nat.le_of_ble_eq_true rfl, Nat.le_of_ble_eq_true rfl⟩) (prV hK hP [0, 1, 2, 3, 4, 5, 6, 7] rfl (ci := 7) (q0 := 0) rfl rfl) rfl rfl hl.1 rfl (lv_room (Nat.le_of_ble_eq_true rfl)) dX7_readsClause_1 ⟨Nat.zero_le _, Nat.zero_le _⟩) ?_
  refine lv_istore_n (lv' := [(1, .int rv1), (0, .ref k0)]) hx hb dX7_readsClause_4 rfl hl (by decide) rfl (fun ls hl => ?_)
  refine lv_iload_n hx hb dX7_readsClause_5 rfl (lv_at hl 0 rfl) ?_
  refine lv_iconst (v := (-1 : Int32)) hx hb dX7_readsClause_6 ic_m1 ?_
  refine lv_icmp_ne (tgt := 12) hx hb dX7_readsClause_7 (by decide) (fun hc => ?_) (fun hc => ?_)
  · have hf := ifn hc hf
    refine lv_aload_n hx hb dX7_readsClause_12 rfl (lv_at hl 1 rfl) ?_
    obtain ⟨rv2, hrv2, hf⟩ := bd hf
    refine muV0 (wr := []) (va_runV (As := []) (rest := []) ⟨hx, hb, hml, hown, hts⟩ (c_X7_next l D cI cZ cM k0 k1 k2 k3 k4 k5 k6 k7 _ k_un k_len k_fi k_be k_to k_cl k_do k_ro k_ke k_te k_nu k_na k_no k_tu fu rv2.1 rv2.2 hrv2) (cwV 0 hts gX7_readsClause_X7_next rfl rfl rfl ⟨rfl, hdc_X7_next⟩ ⟨Nat.le_of_ble_eq_true rfl, Nat.le_of_ble_eq_true rfl⟩) (pmV hK hP hD [0, 1, 2, 3, 4, 5, 6, 7] (by decide) rfl rfl (ci := 7) (q0 := 0) rfl rfl) rfl rfl hl.1 rfl (lv_room (Nat.le_of_ble_eq_true rfl)) dX7_readsClause_13 ⟨Nat.zero_le _, Nat.zero_le _⟩) hP hD hS hA [0, 1, 2, 3, 4, 5, 6, 7] [] rfl rfl (by decide) (by decide) (fun H locs hP hD hS => ?_)
    have hP : va_P D vwCl [(k0, .inr (7, [.ref k1, .int k_un, .ref k2, .ref k3, .int k_len, .int rv2.1, .int rv2.2, .int k_to, .int k_cl, .int k_do, .ref k4, .ref k5, .ref k6, .ref k7])), (k1, .inl (cI, 583, .inl k_ro)), (k2, .inl (cZ, 2, .inl k_ke)), (k3, .inl (cI, 200, .inl k_te)), (k4, .inl (cI, 10, .inl k_nu)), (k5, .inl (cI, 48, .inl k_na)), (k6, .inl (cI, 1024, .inl k_no)), (k7, .inl (cI, 1024, .inl k_tu))] H := hP
    have hD : va_D A [(k0, .inr (7, [.ref k1, .int k_un, .ref k2, .ref k3, .int k_len, .int rv2.1, .int rv2.2, .int k_to, .int k_cl, .int k_do, .ref k4, .ref k5, .ref k6, .ref k7])), (k1, .inl (cI, 583, .inl k_ro)), (k2, .inl (cZ, 2, .inl k_ke)), (k3, .inl (cI, 200, .inl k_te)), (k4, .inl (cI, 10, .inl k_nu)), (k5, .inl (cI, 48, .inl k_na)), (k6, .inl (cI, 1024, .inl k_no)), (k7, .inl (cI, 1024, .inl k_tu))] := hD
    refine lv_aload_n hx hb dX7_readsClause_16 rfl (lv_at hl 1 rfl) ?_
    refine lv_iload_n hx hb dX7_readsClause_17 rfl (lv_at hl 0 rfl) ?_
    obtain ⟨rv3, hrv3, hf⟩ := bd hf
    refine muI0 (wr := []) (va_runV (As := [.int rv1]) (rest := []) ⟨hx, hb, hml, hown, hts⟩ (c_X7_readsAfter l D cI cZ cM k0 k1 k2 k3 k4 k5 k6 k7 _ k_un k_len rv2.1 rv2.2 k_to k_cl k_do k_ro k_ke k_te k_nu k_na k_no k_tu rv1 fu rv3.1 rv3.2.1 rv3.2.2.1 rv3.2.2.2.1 rv3.2.2.2.2.1 rv3.2.2.2.2.2 hrv3) (cwV 1 hts gX7_readsClause_X7_readsAfter rfl rfl rfl ⟨rfl, hdc_X7_readsAfter⟩ ⟨Nat.le_of_ble_eq_true rfl, Nat.le_of_ble_eq_true rfl⟩) (pmV hK hP hD [0, 1, 2, 3, 4, 5, 6, 7] (by decide) rfl rfl (ci := 7) (q0 := 0) rfl rfl) rfl rfl hl.1 rfl (lv_room (Nat.le_of_ble_eq_true rfl)) dX7_readsClause_18 ⟨Nat.zero_le _, Nat.zero_le _⟩) hP hD hS hA [0, 1, 2, 3, 4, 5, 6, 7] [] rfl rfl (by decide) (by decide) (fun H locs hP hD hS => ?_)
    have hP : va_P D vwCl [(k0, .inr (7, [.ref k1, .int k_un, .ref k2, .ref k3, .int k_len, .int rv3.2.1, .int rv3.2.2.1, .int rv3.2.2.2.1, .int k_cl, .int k_do, .ref k4, .ref k5, .ref k6, .ref k7])), (k1, .inl (cI, 583, .inl rv3.2.2.2.2.1)), (k2, .inl (cZ, 2, .inl k_ke)), (k3, .inl (cI, 200, .inl k_te)), (k4, .inl (cI, 10, .inl rv3.2.2.2.2.2)), (k5, .inl (cI, 48, .inl k_na)), (k6, .inl (cI, 1024, .inl k_no)), (k7, .inl (cI, 1024, .inl k_tu))] H := hP
    have hD : va_D A [(k0, .inr (7, [.ref k1, .int k_un, .ref k2, .ref k3, .int k_len, .int rv3.2.1, .int rv3.2.2.1, .int rv3.2.2.2.1, .int k_cl, .int k_do, .ref k4, .ref k5, .ref k6, .ref k7])), (k1, .inl (cI, 583, .inl rv3.2.2.2.2.1)), (k2, .inl (cZ, 2, .inl k_ke)), (k3, .inl (cI, 200, .inl k_te)), (k4, .inl (cI, 10, .inl rv3.2.2.2.2.2)), (k5, .inl (cI, 48, .inl k_na)), (k6, .inl (cI, 1024, .inl k_no)), (k7, .inl (cI, 1024, .inl k_tu))] := hD
    obtain ⟨hz, hf⟩ := zb_some hf
    cases hf
    exact W.zret hx hb hr hz.1 (fun t ht _ => ⟨⟨rfl, by rw [ht]; exact hP, hD⟩, hS.F ht⟩) hS.2.2 dX7_readsClause_21
  · have hf := ifp hc hf
    refine lv_iconst (v := (nI 0)) hx hb dX7_readsClause_10 ic_0 ?_
    cases hf
    exact W.zret hx hb hr zbl_0.1 (fun t ht _ => ⟨⟨rfl, by rw [ht]; exact hP, hD⟩, hS.F ht⟩) hS.2.2 dX7_readsClause_11
