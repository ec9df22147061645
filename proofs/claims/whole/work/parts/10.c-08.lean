theorem hdc_X6_back : yX6_back.cls ≠ "java/lang/invoke/MethodHandle" ∧ yX6_back.cls ≠ "java/lang/invoke/VarHandle" ∧ (parseMethodDescriptor yX6_back.desc).map (fun d => d.parameters.length) = some 1 := by decide +kernel
set_option maxHeartbeats 4000000 in
set_option maxRecDepth 100000 in
theorem c_X6_back (l : Launch) (D : va_G) (cI cZ cM : ClassId) (x0 a0 a1 a2 a3 a4 a5 u0 u1 z0 z1 z2 z3 z4 z5 h0 h1 b0 w0 t0 r0 g0 q0 : Nat) (sz : Nat) (a_n : Int32) (a_L : Nat → Int32) (a_U : Nat → Int32) (a_H : Nat → Int32) (a_O : Nat → Int32) (a_B : Nat → Int32) (u_st : Nat → Option Nat) (u_is : Nat → Int32) (z_n : Int32) (z_L : Nat → Int32) (z_U : Nat → Int32) (z_H : Nat → Int32) (z_O : Nat → Int32) (z_B : Nat → Int32) (h_sz : Int32) (h_nx : Int32) (h_st : Nat → Option Nat) (x1 : Int32) (hz : u_st x1.toNatClampNeg = some z0) (fu : Nat) (r : Int32) (a_n' : Int32) (a_L' : Nat → Int32) (a_U' : Nat → Int32) (a_H' : Nat → Int32) (a_O' : Nat → Int32) (a_B' : Nat → Int32) (h_sz' : Int32) (hf : m_X6_back fu a_n a_L a_U a_H a_O a_B u_is z_n z_L z_U z_H z_O z_B h_sz x1 = some (r, a_n', a_L', a_U', a_H', a_O', a_B', h_sz')) : Met l yX6_back wsX6_back ({ frames := 4, cells := 0, slots := 0, locals := 90 }) (pM D cI cZ cM sz [(x0, .inr (6, [.ref a0, .ref b0, .ref w0, .ref t0, .ref r0, .ref h0, .ref u0, .ref u1, .ref g0, .ref q0])), (a0, .inr (3, [.int a_n, .ref a1, .ref a2, .ref a3, .ref a4, .ref a5])), (a1, .inl (cI, 10, .inl a_L)), (a2, .inl (cI, 10, .inl a_U)), (a3, .inl (cI, 12, .inl a_H)), (a4, .inl (cI, 10, .inl a_O)), (a5, .inl (cI, 10, .inl a_B)), (u0, .inl (cM, 2, .inr (.inr (.inr (.inr u_st))))), (u1, .inl (cZ, 2, .inl u_is)), (z0, .inr (3, [.int z_n, .ref z1, .ref z2, .ref z3, .ref z4, .ref z5])), (z1, .inl (cI, 10, .inl z_L)), (z2, .inl (cI, 10, .inl z_U)), (z3, .inl (cI, 12, .inl z_H)), (z4, .inl (cI, 10, .inl z_O)), (z5, .inl (cI, 10, .inl z_B)), (h0, .inr (2, [.int h_sz, .int h_nx, .ref h1])), (h1, .inl (cM, 8, .inr (.inr (.inr (.inr h_st)))))] [.ref x0, .int x1]) (qI D r [(x0, .inr (6, [.ref a0, .ref b0, .ref w0, .ref t0, .ref r0, .ref h0, .ref u0, .ref u1, .ref g0, .ref q0])), (a0, .inr (3, [.int a_n', .ref a1, .ref a2, .ref a3, .ref a4, .ref a5])), (a1, .inl (cI, 10, .inl a_L')), (a2, .inl (cI, 10, .inl a_U')), (a3, .inl (cI, 12, .inl a_H')), (a4, .inl (cI, 10, .inl a_O')), (a5, .inl (cI, 10, .inl a_B')), (u0, .inl (cM, 2, .inr (.inr (.inr (.inr u_st))))), (u1, .inl (cZ, 2, .inl u_is)), (z0, .inr (3, [.int z_n, .ref z1, .ref z2, .ref z3, .ref z4, .ref z5])), (z1, .inl (cI, 10, .inl z_L)), (z2, .inl (cI, 10, .inl z_U)), (z3, .inl (cI, 12, .inl z_H)), (z4, .inl (cI, 10, .inl z_O)), (z5, .inl (cI, 10, .inl z_B)), (h0, .inr (2, [.int h_sz', .int h_nx, .ref h1])), (h1, .inl (cM, 8, .inr (.inr (.inr (.inr h_st)))))] (va_A [(x0, .inr (6, [.ref a0, .ref b0, .ref w0, .ref t0, .ref r0, .ref h0, .ref u0, .ref u1, .ref g0, .ref q0])), (a0, .inr (3, [.int a_n, .ref a1, .ref a2, .ref a3, .ref a4, .ref a5])), (a1, .inl (cI, 10, .inl a_L)), (a2, .inl (cI, 10, .inl a_U)), (a3, .inl (cI, 12, .inl a_H)), (a4, .inl (cI, 10, .inl a_O)), (a5, .inl (cI, 10, .inl a_B)), (u0, .inl (cM, 2, .inr (.inr (.inr (.inr u_st))))), (u1, .inl (cZ, 2, .inl u_is)), (z0, .inr (3, [.int z_n, .ref z1, .ref z2, .ref z3, .ref z4, .ref z5])), (z1, .inl (cI, 10, .inl z_L)), (z2, .inl (cI, 10, .inl z_U)), (z3, .inl (cI, 12, .inl z_H)), (z4, .inl (cI, 10, .inl z_O)), (z5, .inl (cI, 10, .inl z_B)), (h0, .inr (2, [.int h_sz, .int h_nx, .ref h1])), (h1, .inl (cM, 8, .inr (.inr (.inr (.inr h_st)))))] sz)) 0 0 (va_A [(x0, .inr (6, [.ref a0, .ref b0, .ref w0, .ref t0, .ref r0, .ref h0, .ref u0, .ref u1, .ref g0, .ref q0])), (a0, .inr (3, [.int a_n, .ref a1, .ref a2, .ref a3, .ref a4, .ref a5])), (a1, .inl (cI, 10, .inl a_L)), (a2, .inl (cI, 10, .inl a_U)), (a3, .inl (cI, 12, .inl a_H)), (a4, .inl (cI, 10, .inl a_O)), (a5, .inl (cI, 10, .inl a_B)), (u0, .inl (cM, 2, .inr (.inr (.inr (.inr u_st))))), (u1, .inl (cZ, 2, .inl u_is)), (z0, .inr (3, [.int z_n, .ref z1, .ref z2, .ref z3, .ref z4, .ref z5])), (z1, .inl (cI, 10, .inl z_L)), (z2, .inl (cI, 10, .inl z_U)), (z3, .inl (cI, 12, .inl z_H)), (z4, .inl (cI, 10, .inl z_O)), (z5, .inl (cI, 10, .inl z_B)), (h0, .inr (2, [.int h_sz, .int h_nx, .ref h1])), (h1, .inl (cM, 8, .inr (.inr (.inr (.inr h_st)))))] sz) := by
  refine Met.ofW (cc := cX6_back) (maxL := 2) (ret := (some .int)) (by decide) rfl ?_
  intro p e s m args below meth c s₁ B hml hv
  obtain ⟨rfl, hsz, hP, hK, hD0⟩ := hv
  have hx := B.exec
  have hb := B.bytes
  have hr := B.returns
  have hts := atoms_spec (ws := wsX6_back) B.pre
  have hown : s.vm.findClass RX6 = some m.cls := findClass_of_methodNamed B.named
  have hlocks := B.notSynchronized
  subst hsz
  have hD := hD0.self (sz := s.heap.size)
  generalize hAe : va_A [(x0, .inr (6, [.ref a0, .ref b0, .ref w0, .ref t0, .ref r0, .ref h0, .ref u0, .ref u1, .ref g0, .ref q0])), (a0, .inr (3, [.int a_n, .ref a1, .ref a2, .ref a3, .ref a4, .ref a5])), (a1, .inl (cI, 10, .inl a_L)), (a2, .inl (cI, 10, .inl a_U)), (a3, .inl (cI, 12, .inl a_H)), (a4, .inl (cI, 10, .inl a_O)), (a5, .inl (cI, 10, .inl a_B)), (u0, .inl (cM, 2, .inr (.inr (.inr (.inr u_st))))), (u1, .inl (cZ, 2, .inl u_is)), (z0, .inr (3, [.int z_n, .ref z1, .ref z2, .ref z3, .ref z4, .ref z5])), (z1, .inl (cI, 10, .inl z_L)), (z2, .inl (cI, 10, .inl z_U)), (z3, .inl (cI, 12, .inl z_H)), (z4, .inl (cI, 10, .inl z_O)), (z5, .inl (cI, 10, .inl z_B)), (h0, .inr (2, [.int h_sz, .int h_nx, .ref h1])), (h1, .inl (cM, 8, .inr (.inr (.inr (.inr h_st)))))] s.heap.size = A at hD ⊢
  have hA : ∀ q : Nat, s.heap.size ≤ q → A q := fun q h => by rw [← hAe]; exact Or.inr h
  clear hAe hD0
  have hfl_10 := hts (.fieldLink RX6 10 "TermsFirst" "manual" "LTermsFirst$Manual;") (List.mem_cons_of_mem _ (List.mem_append_left _ (List.mem_append_left _ (List.mem_append_left _ (List.mem_append_left _ (List.mem_of_getElem? (i := 1) rfl))))))
  have hfl_42 := hts (.fieldLink RX6 42 "TermsFirst" "history" "LTermsFirst$History;") (List.mem_cons_of_mem _ (List.mem_append_left _ (List.mem_append_left _ (List.mem_append_left _ (List.mem_append_left _ (List.mem_of_getElem? (i := 3) rfl))))))
  have hfl_46 := hts (.fieldLink RX6 46 "TermsFirst" "saved" "[LTermsFirst$Manual;") (List.mem_cons_of_mem _ (List.mem_append_left _ (List.mem_append_left _ (List.mem_append_left _ (List.mem_append_left _ (List.mem_of_getElem? (i := 2) rfl))))))
  have hfl_50 := hts (.fieldLink RX6 50 "TermsFirst" "isSaved" "[Z") (List.mem_cons_of_mem _ (List.mem_append_left _ (List.mem_append_left _ (List.mem_append_left _ (List.mem_append_left _ (List.mem_of_getElem? (i := 0) rfl))))))
  have hfl_155 := hts (.fieldLink RX6 155 "TermsFirst$Manual" "order" "[I") (List.mem_cons_of_mem _ (List.mem_append_left _ (List.mem_append_left _ (List.mem_append_left _ (List.mem_append_left _ (List.mem_of_getElem? (i := 4) rfl))))))
  have hiX3 : ∀ w ∈ u_ws RX3 TX3 6, w ∈ wsX6_back := fun _ h => (List.mem_cons_of_mem _ (List.mem_append_left _ (List.mem_append_right _ h)))
  have hiX6 : ∀ w ∈ u_ws RX6 TX6 10, w ∈ wsX6_back := fun _ h => (List.mem_cons_of_mem _ (List.mem_append_left _ (List.mem_append_left _ (List.mem_append_right _ h))))
  have hl := lv_entry ([.ref x0, .int x1]) (n := 2) (Nat.le_of_ble_eq_true rfl)
  rw [lg_entry_eq]
  generalize (lg_sl ([.ref x0, .int x1]) ++ List.replicate (2 - (lg_sl ([.ref x0, .int x1])).length) Slot.unset).toArray = ls at hl ⊢
  have hl : lv_has ls 2 [(0, .ref x0), (1, .int x1)] := hl
  have hS : va_S A s.heap s.heap [] := va_S.rf
  unfold m_X6_back at hf
  refine lv_iload_n hx hb dX6_back_0 rfl (lv_at hl 1 rfl) ?_
  refine lv_if_lt (tgt := 9) hx hb dX6_back_1 (by decide) (fun hc => ?_) (fun hc => ?_)
  · have hf := ifp hc hf
    refine lv_bipush (v := (-3 : Int32)) hx hb dX6_back_9 bp_m3 ?_
    cases hf
    exact W.iret hx hb hr (fun t ht _ => ⟨⟨rfl, by rw [ht]; exact hP, hD⟩, hS.F ht⟩) hS.2.2 dX6_back_11
  · have hf := ifn hc hf
    refine lv_iload_n hx hb dX6_back_4 rfl (lv_at hl 1 rfl) ?_
    refine lv_iconst (v := (nI 2)) hx hb dX6_back_5 ic_2 ?_
    refine lv_icmp_lt (tgt := 12) hx hb dX6_back_6 (by decide) (fun hc => ?_) (fun hc => ?_)
    · have hf := ifp hc hf
      refine lv_aload_n hx hb dX6_back_12 rfl (lv_at hl 0 rfl) ?_
      refine va_get (D := D) (ci := 6) (v := .ref u1) (C := RX6) (T := TX6) (N := 10) hx hb hts hiX6 hown hK.1 hP 0 rfl rfl 7 (by decide) hfl_50 (fun _ h9 => h9) rfl dX6_back_13 ?_
      refine lv_iload_n hx hb dX6_back_16 rfl (lv_at hl 1 rfl) ?_
      obtain ⟨hi, hf⟩ := gd_some hf
      refine va_zald hx hb hK.1 hP 8 1 rfl rfl hi dX6_back_17 ?_
      refine lv_if_ne (tgt := 24) hx hb dX6_back_18 (by decide) (fun hc => ?_) (fun hc => ?_)
      · have hf := ifn hc hf
        refine lv_aload_n hx hb dX6_back_24 rfl (lv_at hl 0 rfl) ?_
        refine va_get (D := D) (ci := 6) (v := .ref a0) (C := RX6) (T := TX6) (N := 10) hx hb hts hiX6 hown hK.1 hP 0 rfl rfl 0 (by decide) hfl_10 (fun _ h9 => h9) rfl dX6_back_25 ?_
        refine lv_aload_n hx hb dX6_back_28 rfl (lv_at hl 0 rfl) ?_
        refine va_get (D := D) (ci := 6) (v := .ref u0) (C := RX6) (T := TX6) (N := 10) hx hb hts hiX6 hown hK.1 hP 0 rfl rfl 6 (by decide) hfl_46 (fun _ h9 => h9) rfl dX6_back_29 ?_
        refine lv_iload_n hx hb dX6_back_32 rfl (lv_at hl 1 rfl) ?_
        obtain ⟨hi, hf⟩ := gd_some hf
        refine aldq hx hb hK.1 hP 7 2 rfl rfl hi hz dX6_back_33 ?_
        obtain ⟨rv1, hrv1, hf⟩ := bd hf
        refine muV0 (wr := [(x0, .inr (6, [.ref a0, .ref b0, .ref w0, .ref t0, .ref r0, .ref h0, .ref u0, .ref u1, .ref g0, .ref q0])), (u0, .inl (cM, 2, .inr (.inr (.inr (.inr u_st))))), (u1, .inl (cZ, 2, .inl u_is)), (h0, .inr (2, [.int h_sz, .int h_nx, .ref h1])), (h1, .inl (cM, 8, .inr (.inr (.inr (.inr h_st)))))]) (va_runV (As := [.ref z0]) (rest := []) ⟨hx, hb, hml, hown, hts⟩ (c_X3_become l D cI cZ cM a0 a1 a2 a3 a4 a5 z0 z1 z2 z3 z4 z5 _ a_n a_L a_U a_H a_O a_B z_n z_L z_U z_H z_O z_B fu rv1.1 rv1.2.1 rv1.2.2.1 rv1.2.2.2.1 rv1.2.2.2.2.1 rv1.2.2.2.2.2 hrv1) (cwV 1 hts gX6_back_X3_become rfl rfl rfl ⟨rfl, hdc_X3_become⟩ ⟨Nat.le_of_ble_eq_true rfl, Nat.le_of_ble_eq_true rfl⟩) (pmV hK hP hD [1, 2, 3, 4, 5, 6, 9, 10, 11, 12, 13, 14] (by decide) rfl rfl (ci := 3) (q0 := 1) rfl rfl) rfl rfl hl.1 rfl (lv_room (Nat.le_of_ble_eq_true rfl)) dX6_back_34 ⟨Nat.zero_le _, Nat.zero_le _⟩) hP hD hS hA [1, 2, 3, 4, 5, 6, 9, 10, 11, 12, 13, 14] [0, 7, 8, 15, 16] rfl rfl (by decide) (by decide) (fun H locs hP hD hS => ?_)
        have hP : va_P D vwCl [(x0, .inr (6, [.ref a0, .ref b0, .ref w0, .ref t0, .ref r0, .ref h0, .ref u0, .ref u1, .ref g0, .ref q0])), (u0, .inl (cM, 2, .inr (.inr (.inr (.inr u_st))))), (u1, .inl (cZ, 2, .inl u_is)), (h0, .inr (2, [.int h_sz, .int h_nx, .ref h1])), (h1, .inl (cM, 8, .inr (.inr (.inr (.inr h_st))))), (a0, .inr (3, [.int rv1.1, .ref a1, .ref a2, .ref a3, .ref a4, .ref a5])), (a1, .inl (cI, 10, .inl rv1.2.1)), (a2, .inl (cI, 10, .inl rv1.2.2.1)), (a3, .inl (cI, 12, .inl rv1.2.2.2.1)), (a4, .inl (cI, 10, .inl rv1.2.2.2.2.1)), (a5, .inl (cI, 10, .inl rv1.2.2.2.2.2)), (z0, .inr (3, [.int z_n, .ref z1, .ref z2, .ref z3, .ref z4, .ref z5])), (z1, .inl (cI, 10, .inl z_L)), (z2, .inl (cI, 10, .inl z_U)), (z3, .inl (cI, 12, .inl z_H)), (z4, .inl (cI, 10, .inl z_O)), (z5, .inl (cI, 10, .inl z_B))] H := hP
        have hD : va_D A [(x0, .inr (6, [.ref a0, .ref b0, .ref w0, .ref t0, .ref r0, .ref h0, .ref u0, .ref u1, .ref g0, .ref q0])), (u0, .inl (cM, 2, .inr (.inr (.inr (.inr u_st))))), (u1, .inl (cZ, 2, .inl u_is)), (h0, .inr (2, [.int h_sz, .int h_nx, .ref h1])), (h1, .inl (cM, 8, .inr (.inr (.inr (.inr h_st))))), (a0, .inr (3, [.int rv1.1, .ref a1, .ref a2, .ref a3, .ref a4, .ref a5])), (a1, .inl (cI, 10, .inl rv1.2.1)), (a2, .inl (cI, 10, .inl rv1.2.2.1)), (a3, .inl (cI, 12, .inl rv1.2.2.2.1)), (a4, .inl (cI, 10, .inl rv1.2.2.2.2.1)), (a5, .inl (cI, 10, .inl rv1.2.2.2.2.2)), (z0, .inr (3, [.int z_n, .ref z1, .ref z2, .ref z3, .ref z4, .ref z5])), (z1, .inl (cI, 10, .inl z_L)), (z2, .inl (cI, 10, .inl z_U)), (z3, .inl (cI, 12, .inl z_H)), (z4, .inl (cI, 10, .inl z_O)), (z5, .inl (cI, 10, .inl z_B))] := hD
        refine lv_aload_n hx hb dX6_back_37 rfl (lv_at hl 0 rfl) ?_
        refine va_get (D := D) (ci := 6) (v := .ref h0) (C := RX6) (T := TX6) (N := 10) hx hb hts hiX6 hown hK.1 hP 0 rfl rfl 5 (by decide) hfl_42 (fun _ h9 => h9) rfl dX6_back_38 ?_
        obtain ⟨rv2, hrv2, hf⟩ := bd hf
        refine muV0 (wr := [(x0, .inr (6, [.ref a0, .ref b0, .ref w0, .ref t0, .ref r0, .ref h0, .ref u0, .ref u1, .ref g0, .ref q0])), (u0, .inl (cM, 2, .inr (.inr (.inr (.inr u_st))))), (u1, .inl (cZ, 2, .inl u_is)), (a0, .inr (3, [.int rv1.1, .ref a1, .ref a2, .ref a3, .ref a4, .ref a5])), (a1, .inl (cI, 10, .inl rv1.2.1)), (a2, .inl (cI, 10, .inl rv1.2.2.1)), (a3, .inl (cI, 12, .inl rv1.2.2.2.1)), (a4, .inl (cI, 10, .inl rv1.2.2.2.2.1)), (a5, .inl (cI, 10, .inl rv1.2.2.2.2.2)), (z0, .inr (3, [.int z_n, .ref z1, .ref z2, .ref z3, .ref z4, .ref z5])), (z1, .inl (cI, 10, .inl z_L)), (z2, .inl (cI, 10, .inl z_U)), (z3, .inl (cI, 12, .inl z_H)), (z4, .inl (cI, 10, .inl z_O)), (z5, .inl (cI, 10, .inl z_B))]) (va_runV (As := []) (rest := []) ⟨hx, hb, hml, hown, hts⟩ (c_X2_forget l D cI cZ cM h0 h1 _ h_sz h_nx h_st rv2 hrv2) (cwV 0 hts gX6_back_X2_forget rfl rfl rfl ⟨rfl, hdc_X2_forget⟩ ⟨Nat.le_of_ble_eq_true rfl, Nat.le_of_ble_eq_true rfl⟩) (pmV hK hP hD [3, 4] (by decide) rfl rfl (ci := 2) (q0 := 3) rfl rfl) rfl rfl hl.1 rfl (lv_room (Nat.le_of_ble_eq_true rfl)) dX6_back_41 ⟨Nat.zero_le _, Nat.zero_le _⟩) hP hD hS hA [3, 4] [0, 1, 2, 5, 6, 7, 8, 9, 10, 11, 12, 13, 14, 15, 16] rfl rfl (by decide) (by decide) (fun H locs hP hD hS => ?_)
        have hP : va_P D vwCl [(x0, .inr (6, [.ref a0, .ref b0, .ref w0, .ref t0, .ref r0, .ref h0, .ref u0, .ref u1, .ref g0, .ref q0])), (u0, .inl (cM, 2, .inr (.inr (.inr (.inr u_st))))), (u1, .inl (cZ, 2, .inl u_is)), (a0, .inr (3, [.int rv1.1, .ref a1, .ref a2, .ref a3, .ref a4, .ref a5])), (a1, .inl (cI, 10, .inl rv1.2.1)), (a2, .inl (cI, 10, .inl rv1.2.2.1)), (a3, .inl (cI, 12, .inl rv1.2.2.2.1)), (a4, .inl (cI, 10, .inl rv1.2.2.2.2.1)), (a5, .inl (cI, 10, .inl rv1.2.2.2.2.2)), (z0, .inr (3, [.int z_n, .ref z1, .ref z2, .ref z3, .ref z4, .ref z5])), (z1, .inl (cI, 10, .inl z_L)), (z2, .inl (cI, 10, .inl z_U)), (z3, .inl (cI, 12, .inl z_H)), (z4, .inl (cI, 10, .inl z_O)), (z5, .inl (cI, 10, .inl z_B)), (h0, .inr (2, [.int rv2, .int h_nx, .ref h1])), (h1, .inl (cM, 8, .inr (.inr (.inr (.inr h_st)))))] H := hP
        have hD : va_D A [(x0, .inr (6, [.ref a0, .ref b0, .ref w0, .ref t0, .ref r0, .ref h0, .ref u0, .ref u1, .ref g0, .ref q0])), (u0, .inl (cM, 2, .inr (.inr (.inr (.inr u_st))))), (u1, .inl (cZ, 2, .inl u_is)), (a0, .inr (3, [.int rv1.1, .ref a1, .ref a2, .ref a3, .ref a4, .ref a5])), (a1, .inl (cI, 10, .inl rv1.2.1)), (a2, .inl (cI, 10, .inl rv1.2.2.1)), (a3, .inl (cI, 12, .inl rv1.2.2.2.1)), (a4, .inl (cI, 10, .inl rv1.2.2.2.2.1)), (a5, .inl (cI, 10, .inl rv1.2.2.2.2.2)), (z0, .inr (3, [.int z_n, .ref z1, .ref z2, .ref z3, .ref z4, .ref z5])), (z1, .inl (cI, 10, .inl z_L)), (z2, .inl (cI, 10, .inl z_U)), (z3, .inl (cI, 12, .inl z_H)), (z4, .inl (cI, 10, .inl z_O)), (z5, .inl (cI, 10, .inl z_B)), (h0, .inr (2, [.int rv2, .int h_nx, .ref h1])), (h1, .inl (cM, 8, .inr (.inr (.inr (.inr h_st)))))] := hD
        refine lv_aload_n hx hb dX6_back_44 rfl (lv_at hl 0 rfl) ?_
        refine va_get (D := D) (ci := 6) (v := .ref a0) (C := RX6) (T := TX6) (N := 10) hx hb hts hiX6 hown hK.1 hP 0 rfl rfl 0 (by decide) hfl_10 (fun _ h9 => h9) rfl dX6_back_45 ?_
        refine lv_aload_n hx hb dX6_back_48 rfl (lv_at hl 0 rfl) ?_
        refine va_get (D := D) (ci := 6) (v := .ref a0) (C := RX6) (T := TX6) (N := 10) hx hb hts hiX6 hown hK.1 hP 0 rfl rfl 0 (by decide) hfl_10 (fun _ h9 => h9) rfl dX6_back_49 ?_
        refine va_get (D := D) (ci := 3) (v := .ref a4) (C := RX3) (T := TX3) (N := 6) hx hb hts hiX3 hown hK.1 hP 3 rfl rfl 4 (by decide) hfl_155 (fun _ h9 => h9) rfl dX6_back_52 ?_
        obtain ⟨rv3, hrv3, hf⟩ := bd hf
        refine roI (va_runV (As := [.ref a4]) (rest := []) ⟨hx, hb, hml, hown, hts⟩ (c_X3_countNotes l D cI cZ cM a0 a1 a2 a3 a4 a5 a4 rv1.1 rv1.2.1 rv1.2.2.1 rv1.2.2.2.1 rv1.2.2.2.2.1 rv1.2.2.2.2.2 rv1.2.2.2.2.1 fu rv3 hrv3) (cwV 1 hts gX6_back_X3_countNotes rfl rfl rfl ⟨rfl, hdc_X3_countNotes⟩ ⟨Nat.le_of_ble_eq_true rfl, Nat.le_of_ble_eq_true rfl⟩) (prV hK hP [3, 4, 5, 6, 7, 8, 7] rfl (ci := 3) (q0 := 3) rfl rfl) rfl rfl hl.1 rfl (lv_room (Nat.le_of_ble_eq_true rfl)) dX6_back_55 ⟨Nat.zero_le _, Nat.zero_le _⟩) ?_
        cases hf
        exact W.iret hx hb hr (fun t ht _ => ⟨⟨rfl, by rw [ht]; exact (hP.sub [0, 3, 4, 5, 6, 7, 8, 1, 2, 9, 10, 11, 12, 13, 14, 15, 16] rfl), (hD.sub [0, 3, 4, 5, 6, 7, 8, 1, 2, 9, 10, 11, 12, 13, 14, 15, 16] (by decide) rfl)⟩, hS.F ht⟩) hS.2.2 dX6_back_58
      · have hf := ifp hc hf
        refine lv_bipush (v := (-4 : Int32)) hx hb dX6_back_21 bp_m4 ?_
        cases hf
        exact W.iret hx hb hr (fun t ht _ => ⟨⟨rfl, by rw [ht]; exact hP, hD⟩, hS.F ht⟩) hS.2.2 dX6_back_23
    · have hf := ifn hc hf
      refine lv_bipush (v := (-3 : Int32)) hx hb dX6_back_9 bp_m3 ?_
      cases hf
      exact W.iret hx hb hr (fun t ht _ => ⟨⟨rfl, by rw [ht]; exact hP, hD⟩, hS.F ht⟩) hS.2.2 dX6_back_11
theorem hdc_X6_at : yX6_at.cls ≠ "java/lang/invoke/MethodHandle" ∧ yX6_at.cls ≠ "java/lang/invoke/VarHandle" ∧ (parseMethodDescriptor yX6_at.desc).map (fun d => d.parameters.length) = some 1 := by decide +kernel
set_option maxHeartbeats 4000000 in
set_option maxRecDepth 100000 in
theorem c_X6_at (l : Launch) (D : va_G) (cI cZ cM : ClassId) (x0 a0 a1 a2 a3 a4 a5 b0 w0 t0 r0 h0 u0 u1 g0 q0 : Nat) (a_n : Int32) (a_L : Nat → Int32) (a_U : Nat → Int32) (a_H : Nat → Int32) (a_O : Nat → Int32) (a_B : Nat → Int32) (x1 : Int32) (r : Int32) (hf : m_X6_at a_n a_O x1 = some r) : Met l yX6_at wsX6_at ({ frames := 1, cells := 0, slots := 0, locals := 21 }) (pR D cI cZ cM [(x0, .inr (6, [.ref a0, .ref b0, .ref w0, .ref t0, .ref r0, .ref h0, .ref u0, .ref u1, .ref g0, .ref q0])), (a0, .inr (3, [.int a_n, .ref a1, .ref a2, .ref a3, .ref a4, .ref a5])), (a1, .inl (cI, 10, .inl a_L)), (a2, .inl (cI, 10, .inl a_U)), (a3, .inl (cI, 12, .inl a_H)), (a4, .inl (cI, 10, .inl a_O)), (a5, .inl (cI, 10, .inl a_B))] [.ref x0, .int x1]) (qR r) 0 0 (fun _ => False) := by
  refine Met.ofW (cc := cX6_at) (maxL := 2) (ret := (some .int)) (by decide) rfl ?_
  intro p e s m args below meth c s₁ B hml hv
  obtain ⟨rfl, hP, hK⟩ := hv
  have hx := B.exec
  have hb := B.bytes
  have hr := B.returns
  have hts := atoms_spec (ws := wsX6_at) B.pre
  have hown : s.vm.findClass RX6 = some m.cls := findClass_of_methodNamed B.named
  have hlocks := B.notSynchronized
  have hfl_10 := hts (.fieldLink RX6 10 "TermsFirst" "manual" "LTermsFirst$Manual;") (List.mem_cons_of_mem _ (List.mem_append_left _ (List.mem_append_left _ (List.mem_of_getElem? (i := 0) rfl))))
  have hfl_155 := hts (.fieldLink RX6 155 "TermsFirst$Manual" "order" "[I") (List.mem_cons_of_mem _ (List.mem_append_left _ (List.mem_append_left _ (List.mem_of_getElem? (i := 1) rfl))))
  have hiX3 : ∀ w ∈ u_ws RX3 TX3 6, w ∈ wsX6_at := fun _ h => (List.mem_cons_of_mem _ (List.mem_append_right _ h))
  have hiX6 : ∀ w ∈ u_ws RX6 TX6 10, w ∈ wsX6_at := fun _ h => (List.mem_cons_of_mem _ (List.mem_append_left _ (List.mem_append_right _ h)))
  have hl := lv_entry ([.ref x0, .int x1]) (n := 2) (Nat.le_of_ble_eq_true rfl)
  rw [lg_entry_eq]
  generalize (lg_sl ([.ref x0, .int x1]) ++ List.replicate (2 - (lg_sl ([.ref x0, .int x1])).length) Slot.unset).toArray = ls at hl ⊢
  have hl : lv_has ls 2 [(0, .ref x0), (1, .int x1)] := hl
  unfold m_X6_at at hf
  refine lv_aload_n hx hb dX6_at_0 rfl (lv_at hl 0 rfl) ?_
  refine va_get (D := D) (ci := 6) (v := .ref a0) (C := RX6) (T := TX6) (N := 10) hx hb hts hiX6 hown hK.1 hP 0 rfl rfl 0 (by decide) hfl_10 (fun _ h9 => h9) rfl dX6_at_1 ?_
  refine lv_iload_n hx hb dX6_at_4 rfl (lv_at hl 1 rfl) ?_
  obtain ⟨rv1, hrv1, hf⟩ := bd hf
  refine roI (va_runV (As := [.int x1]) (rest := []) ⟨hx, hb, hml, hown, hts⟩ (c_X3_hasPlace l D cI cZ cM a0 a1 a2 a3 a4 a5 a_n a_L a_U a_H a_O a_B x1 rv1 hrv1) (cwV 1 hts gX6_at_X3_hasPlace rfl rfl rfl ⟨rfl, hdc_X3_hasPlace⟩ ⟨Nat.le_of_ble_eq_true rfl, Nat.le_of_ble_eq_true rfl⟩) (prV hK hP [1, 2, 3, 4, 5, 6] rfl (ci := 3) (q0 := 1) rfl rfl) rfl rfl hl.1 rfl (lv_room (Nat.le_of_ble_eq_true rfl)) dX6_at_5 ⟨Nat.zero_le _, Nat.zero_le _⟩) ?_
  refine lv_if_eq (tgt := 23) hx hb dX6_at_8 (by decide) (fun hc => ?_) (fun hc => ?_)
  · have hf := ifp hc hf
    refine lv_bipush (v := (-2 : Int32)) hx hb dX6_at_23 bp_m2 ?_
    cases hf
    exact W.iret hx hb hr (fun t ht _ => ⟨rfl, ht⟩) (fun _ h => nomatch h) dX6_at_25
  · have hf := ifn hc hf
    refine lv_aload_n hx hb dX6_at_11 rfl (lv_at hl 0 rfl) ?_
    refine va_get (D := D) (ci := 6) (v := .ref a0) (C := RX6) (T := TX6) (N := 10) hx hb hts hiX6 hown hK.1 hP 0 rfl rfl 0 (by decide) hfl_10 (fun _ h9 => h9) rfl dX6_at_12 ?_
    refine va_get (D := D) (ci := 3) (v := .ref a4) (C := RX3) (T := TX3) (N := 6) hx hb hts hiX3 hown hK.1 hP 1 rfl rfl 4 (by decide) hfl_155 (fun _ h9 => h9) rfl dX6_at_15 ?_
    refine lv_iload_n hx hb dX6_at_18 rfl (lv_at hl 1 rfl) ?_
    obtain ⟨hi, hf⟩ := gd_some hf
    refine va_iald hx hb hK.1 hP 5 0 rfl rfl hi dX6_at_19 ?_
    refine lv_goto (tgt := 25) hx hb dX6_at_20 (by decide) ?_
    cases hf
    exact W.iret hx hb hr (fun t ht _ => ⟨rfl, ht⟩) (fun _ h => nomatch h) dX6_at_25
theorem hdc_X6_section : yX6_section.cls ≠ "java/lang/invoke/MethodHandle" ∧ yX6_section.cls ≠ "java/lang/invoke/VarHandle" ∧ (parseMethodDescriptor yX6_section.desc).map (fun d => d.parameters.length) = some 2 := by decide +kernel
set_option maxHeartbeats 4000000 in
set_option maxRecDepth 100000 in
theorem c_X6_section (l : Launch) (D : va_G) (cI cZ cM : ClassId) (x0 a0 a1 a2 a3 a4 a5 g0 g1 g2 g3 g4 b0 w0 t0 r0 h0 u0 u1 q0 : Nat) (sz : Nat) (a_n : Int32) (a_L : Nat → Int32) (a_U : Nat → Int32) (a_H : Nat → Int32) (a_O : Nat → Int32) (a_B : Nat → Int32) (g_rl : Int32) (g_n : Int32) (g_ri : Nat → Int32) (g_ne : Nat → Int32) (g_re : Nat → Int32) (g_ts : Nat → Int32) (x1 : Int32) (x2 : Int32) (fu : Nat) (r : Int32) (g_n' : Int32) (g_ne' : Nat → Int32) (g_re' : Nat → Int32) (hf : m_X6_section fu a_n a_L a_U a_H a_O a_B g_n g_ne g_re x1 x2 = some (r, g_n', g_ne', g_re')) : Met l yX6_section wsX6_section ({ frames := 3, cells := 0, slots := 0, locals := 68 }) (pM D cI cZ cM sz [(x0, .inr (6, [.ref a0, .ref b0, .ref w0, .ref t0, .ref r0, .ref h0, .ref u0, .ref u1, .ref g0, .ref q0])), (a0, .inr (3, [.int a_n, .ref a1, .ref a2, .ref a3, .ref a4, .ref a5])), (a1, .inl (cI, 10, .inl a_L)), (a2, .inl (cI, 10, .inl a_U)), (a3, .inl (cI, 12, .inl a_H)), (a4, .inl (cI, 10, .inl a_O)), (a5, .inl (cI, 10, .inl a_B)), (g0, .inr (4, [.int g_rl, .ref g1, .int g_n, .ref g2, .ref g3, .ref g4])), (g1, .inl (cI, 10, .inl g_ri)), (g2, .inl (cI, 10, .inl g_ne)), (g3, .inl (cI, 10, .inl g_re)), (g4, .inl (cI, 11, .inl g_ts))] [.ref x0, .int x1, .int x2]) (qI D r [(x0, .inr (6, [.ref a0, .ref b0, .ref w0, .ref t0, .ref r0, .ref h0, .ref u0, .ref u1, .ref g0, .ref q0])), (a0, .inr (3, [.int a_n, .ref a1, .ref a2, .ref a3, .ref a4, .ref a5])), (a1, .inl (cI, 10, .inl a_L)), (a2, .inl (cI, 10, .inl a_U)), (a3, .inl (cI, 12, .inl a_H)), (a4, .inl (cI, 10, .inl a_O)), (a5, .inl (cI, 10, .inl a_B)), (g0, .inr (4, [.int g_rl, .ref g1, .int g_n', .ref g2, .ref g3, .ref g4])), (g1, .inl (cI, 10, .inl g_ri)), (g2, .inl (cI, 10, .inl g_ne')), (g3, .inl (cI, 10, .inl g_re')), (g4, .inl (cI, 11, .inl g_ts))] (va_A [(x0, .inr (6, [.ref a0, .ref b0, .ref w0, .ref t0, .ref r0, .ref h0, .ref u0, .ref u1, .ref g0, .ref q0])), (a0, .inr (3, [.int a_n, .ref a1, .ref a2, .ref a3, .ref a4, .ref a5])), (a1, .inl (cI, 10, .inl a_L)), (a2, .inl (cI, 10, .inl a_U)), (a3, .inl (cI, 12, .inl a_H)), (a4, .inl (cI, 10, .inl a_O)), (a5, .inl (cI, 10, .inl a_B)), (g0, .inr (4, [.int g_rl, .ref g1, .int g_n, .ref g2, .ref g3, .ref g4])), (g1, .inl (cI, 10, .inl g_ri)), (g2, .inl (cI, 10, .inl g_ne)), (g3, .inl (cI, 10, .inl g_re)), (g4, .inl (cI, 11, .inl g_ts))] sz)) 0 0 (va_A [(x0, .inr (6, [.ref a0, .ref b0, .ref w0, .ref t0, .ref r0, .ref h0, .ref u0, .ref u1, .ref g0, .ref q0])), (a0, .inr (3, [.int a_n, .ref a1, .ref a2, .ref a3, .ref a4, .ref a5])), (a1, .inl (cI, 10, .inl a_L)), (a2, .inl (cI, 10, .inl a_U)), (a3, .inl (cI, 12, .inl a_H)), (a4, .inl (cI, 10, .inl a_O)), (a5, .inl (cI, 10, .inl a_B)), (g0, .inr (4, [.int g_rl, .ref g1, .int g_n, .ref g2, .ref g3, .ref g4])), (g1, .inl (cI, 10, .inl g_ri)), (g2, .inl (cI, 10, .inl g_ne)), (g3, .inl (cI, 10, .inl g_re)), (g4, .inl (cI, 11, .inl g_ts))] sz) := by
  refine Met.ofW (cc := cX6_section) (maxL := 3) (ret := (some .int)) (by decide) rfl ?_
  intro p e s m args below meth c s₁ B hml hv
  obtain ⟨rfl, hsz, hP, hK, hD0⟩ := hv
  have hx := B.exec
  have hb := B.bytes
  have hr := B.returns
  have hts := atoms_spec (ws := wsX6_section) B.pre
  have hown : s.vm.findClass RX6 = some m.cls := findClass_of_methodNamed B.named
  have hlocks := B.notSynchronized
  subst hsz
  have hD := hD0.self (sz := s.heap.size)
  generalize hAe : va_A [(x0, .inr (6, [.ref a0, .ref b0, .ref w0, .ref t0, .ref r0, .ref h0, .ref u0, .ref u1, .ref g0, .ref q0])), (a0, .inr (3, [.int a_n, .ref a1, .ref a2, .ref a3, .ref a4, .ref a5])), (a1, .inl (cI, 10, .inl a_L)), (a2, .inl (cI, 10, .inl a_U)), (a3, .inl (cI, 12, .inl a_H)), (a4, .inl (cI, 10, .inl a_O)), (a5, .inl (cI, 10, .inl a_B)), (g0, .inr (4, [.int g_rl, .ref g1, .int g_n, .ref g2, .ref g3, .ref g4])), (g1, .inl (cI, 10, .inl g_ri)), (g2, .inl (cI, 10, .inl g_ne)), (g3, .inl (cI, 10, .inl g_re)), (g4, .inl (cI, 11, .inl g_ts))] s.heap.size = A at hD ⊢
  have hA : ∀ q : Nat, s.heap.size ≤ q → A q := fun q h => by rw [← hAe]; exact Or.inr h
  clear hAe hD0
  have hfl_10 := hts (.fieldLink RX6 10 "TermsFirst" "manual" "LTermsFirst$Manual;") (List.mem_cons_of_mem _ (List.mem_append_left _ (List.mem_append_left _ (List.mem_append_left _ (List.mem_append_left _ (List.mem_of_getElem? (i := 0) rfl))))))
  have hfl_57 := hts (.fieldLink RX6 57 "TermsFirst" "graph" "LTermsFirst$NeedGraph;") (List.mem_cons_of_mem _ (List.mem_append_left _ (List.mem_append_left _ (List.mem_append_left _ (List.mem_append_left _ (List.mem_of_getElem? (i := 3) rfl))))))
  have hfl_100 := hts (.fieldLink RX6 100 "TermsFirst$Manual" "lengths" "[I") (List.mem_cons_of_mem _ (List.mem_append_left _ (List.mem_append_left _ (List.mem_append_left _ (List.mem_append_left _ (List.mem_of_getElem? (i := 1) rfl))))))
  have hfl_106 := hts (.fieldLink RX6 106 "TermsFirst$Manual" "used" "[I") (List.mem_cons_of_mem _ (List.mem_append_left _ (List.mem_append_left _ (List.mem_append_left _ (List.mem_append_left _ (List.mem_of_getElem? (i := 2) rfl))))))
  have hfl_123 := hts (.fieldLink RX6 123 "TermsFirst$Manual" "before" "[I") (List.mem_cons_of_mem _ (List.mem_append_left _ (List.mem_append_left _ (List.mem_append_left _ (List.mem_append_left _ (List.mem_of_getElem? (i := 4) rfl))))))
  have hiX3 : ∀ w ∈ u_ws RX3 TX3 6, w ∈ wsX6_section := fun _ h => (List.mem_cons_of_mem _ (List.mem_append_left _ (List.mem_append_right _ h)))
  have hiX6 : ∀ w ∈ u_ws RX6 TX6 10, w ∈ wsX6_section := fun _ h => (List.mem_cons_of_mem _ (List.mem_append_left _ (List.mem_append_left _ (List.mem_append_right _ h))))
  have hl := lv_entry ([.ref x0, .int x1, .int x2]) (n := 3) (Nat.le_of_ble_eq_true rfl)
  rw [lg_entry_eq]
  generalize (lg_sl ([.ref x0, .int x1, .int x2]) ++ List.replicate (3 - (lg_sl ([.ref x0, .int x1, .int x2])).length) Slot.unset).toArray = ls at hl ⊢
  have hl : lv_has ls 3 [(0, .ref x0), (1, .int x1), (2, .int x2)] := hl
  have hS : va_S A s.heap s.heap [] := va_S.rf
  unfold m_X6_section at hf
  refine lv_aload_n hx hb dX6_section_0 rfl (lv_at hl 0 rfl) ?_
  refine va_get (D := D) (ci := 6) (v := .ref a0) (C := RX6) (T := TX6) (N := 10) hx hb hts hiX6 hown hK.1 hP 0 rfl rfl 0 (by decide) hfl_10 (fun _ h9 => h9) rfl dX6_section_1 ?_
  refine lv_iload_n hx hb dX6_section_4 rfl (lv_at hl 1 rfl) ?_
  obtain ⟨rv1, hrv1, hf⟩ := bd hf
  refine roI (va_runV (As := [.int x1]) (rest := []) ⟨hx, hb, hml, hown, hts⟩ (c_X3_hasSection l D cI cZ cM a0 a1 a2 a3 a4 a5 a_n a_L a_U a_H a_O a_B x1 rv1 hrv1) (cwV 1 hts gX6_section_X3_hasSection rfl rfl rfl ⟨rfl, hdc_X3_hasSection⟩ ⟨Nat.le_of_ble_eq_true rfl, Nat.le_of_ble_eq_true rfl⟩) (prV hK hP [1, 2, 3, 4, 5, 6] rfl (ci := 3) (q0 := 1) rfl rfl) rfl rfl hl.1 rfl (lv_room (Nat.le_of_ble_eq_true rfl)) dX6_section_5 ⟨Nat.zero_le _, Nat.zero_le _⟩) ?_
  refine lv_if_ne (tgt := 14) hx hb dX6_section_8 (by decide) (fun hc => ?_) (fun hc => ?_)
  · have hf := ifn hc hf
    refine lv_iload_n hx hb dX6_section_14 rfl (lv_at hl 2 rfl) ?_
    by_cases hk0 : x2 = (nI 0)
    · have hf := ifp hk0 hf
      refine lv_tableIn (off := 49) (tgt := 64) hx hb dX6_section_15 (by rw [hk0]; decide +kernel) (by rw [hk0]; decide +kernel) (by rw [hk0]; decide +kernel) (by decide) ?_
      refine lv_aload_n hx hb dX6_section_64 rfl (lv_at hl 0 rfl) ?_
      refine va_get (D := D) (ci := 6) (v := .ref a0) (C := RX6) (T := TX6) (N := 10) hx hb hts hiX6 hown hK.1 hP 0 rfl rfl 0 (by decide) hfl_10 (fun _ h9 => h9) rfl dX6_section_65 ?_
      refine lv_iload_n hx hb dX6_section_68 rfl (lv_at hl 1 rfl) ?_
      obtain ⟨rv2, hrv2, hf⟩ := bd hf
      refine roI (va_runV (As := [.int x1]) (rest := []) ⟨hx, hb, hml, hown, hts⟩ (c_X3_placeOf l D cI cZ cM a0 a1 a2 a3 a4 a5 a_n a_L a_U a_H a_O a_B x1 fu rv2 hrv2) (cwV 1 hts gX6_section_X3_placeOf rfl rfl rfl ⟨rfl, hdc_X3_placeOf⟩ ⟨Nat.le_of_ble_eq_true rfl, Nat.le_of_ble_eq_true rfl⟩) (prV hK hP [1, 2, 3, 4, 5, 6] rfl (ci := 3) (q0 := 1) rfl rfl) rfl rfl hl.1 rfl (lv_room (Nat.le_of_ble_eq_true rfl)) dX6_section_69 ⟨Nat.zero_le _, Nat.zero_le _⟩) ?_
      cases hf
      exact W.iret hx hb hr (fun t ht _ => ⟨⟨rfl, by rw [ht]; exact hP, hD⟩, hS.F ht⟩) hS.2.2 dX6_section_72
    · have hf := ifn hk0 hf
      by_cases hk1 : x2 = (nI 1)
      · have hf := ifp hk1 hf
        refine lv_tableIn (off := 58) (tgt := 73) hx hb dX6_section_15 (by rw [hk1]; decide +kernel) (by rw [hk1]; decide +kernel) (by rw [hk1]; decide +kernel) (by decide) ?_
        refine lv_aload_n hx hb dX6_section_73 rfl (lv_at hl 0 rfl) ?_
        refine va_get (D := D) (ci := 6) (v := .ref a0) (C := RX6) (T := TX6) (N := 10) hx hb hts hiX6 hown hK.1 hP 0 rfl rfl 0 (by decide) hfl_10 (fun _ h9 => h9) rfl dX6_section_74 ?_
        refine va_get (D := D) (ci := 3) (v := .ref a1) (C := RX3) (T := TX3) (N := 6) hx hb hts hiX3 hown hK.1 hP 1 rfl rfl 1 (by decide) hfl_100 (fun _ h9 => h9) rfl dX6_section_77 ?_
        refine lv_iload_n hx hb dX6_section_80 rfl (lv_at hl 1 rfl) ?_
        obtain ⟨hi, hf⟩ := gd_some hf
        refine va_iald hx hb hK.1 hP 2 0 rfl rfl hi dX6_section_81 ?_
        cases hf
        exact W.iret hx hb hr (fun t ht _ => ⟨⟨rfl, by rw [ht]; exact hP, hD⟩, hS.F ht⟩) hS.2.2 dX6_section_82
      · have hf := ifn hk1 hf
        by_cases hk2 : x2 = (nI 2)
        · have hf := ifp hk2 hf
          refine lv_tableIn (off := 68) (tgt := 83) hx hb dX6_section_15 (by rw [hk2]; decide +kernel) (by rw [hk2]; decide +kernel) (by rw [hk2]; decide +kernel) (by decide) ?_
          refine lv_aload_n hx hb dX6_section_83 rfl (lv_at hl 0 rfl) ?_
          refine va_get (D := D) (ci := 6) (v := .ref a0) (C := RX6) (T := TX6) (N := 10) hx hb hts hiX6 hown hK.1 hP 0 rfl rfl 0 (by decide) hfl_10 (fun _ h9 => h9) rfl dX6_section_84 ?_
          refine va_get (D := D) (ci := 3) (v := .ref a2) (C := RX3) (T := TX3) (N := 6) hx hb hts hiX3 hown hK.1 hP 1 rfl rfl 2 (by decide) hfl_106 (fun _ h9 => h9) rfl dX6_section_87 ?_
          refine lv_iload_n hx hb dX6_section_90 rfl (lv_at hl 1 rfl) ?_
          obtain ⟨hi, hf⟩ := gd_some hf
          refine va_iald hx hb hK.1 hP 3 0 rfl rfl hi dX6_section_91 ?_
          cases hf
          exact W.iret hx hb hr (fun t ht _ => ⟨⟨rfl, by rw [ht]; exact hP, hD⟩, hS.F ht⟩) hS.2.2 dX6_section_92
        · have hf := ifn hk2 hf
          by_cases hk3 : x2 = (nI 3)
          · have hf := ifp hk3 hf
            refine lv_tableIn (off := 78) (tgt := 93) hx hb dX6_section_15 (by rw [hk3]; decide +kernel) (by rw [hk3]; decide +kernel) (by rw [hk3]; decide +kernel) (by decide) ?_
            refine lv_aload_n hx hb dX6_section_93 rfl (lv_at hl 0 rfl) ?_
            refine va_get (D := D) (ci := 6) (v := .ref a0) (C := RX6) (T := TX6) (N := 10) hx hb hts hiX6 hown hK.1 hP 0 rfl rfl 0 (by decide) hfl_10 (fun _ h9 => h9) rfl dX6_section_94 ?_
            refine lv_iload_n hx hb dX6_section_97 rfl (lv_at hl 1 rfl) ?_
            obtain ⟨rv3, hrv3, hf⟩ := bd hf
            refine roI (va_runV (As := [.int x1]) (rest := []) ⟨hx, hb, hml, hown, hts⟩ (c_X3_termsAtHome l D cI cZ cM a0 a1 a2 a3 a4 a5 a_n a_L a_U a_H a_O a_B x1 fu rv3 hrv3) (cwV 1 hts gX6_section_X3_termsAtHome rfl rfl rfl ⟨rfl, hdc_X3_termsAtHome⟩ ⟨Nat.le_of_ble_eq_true rfl, Nat.le_of_ble_eq_true rfl⟩) (prV hK hP [1, 2, 3, 4, 5, 6] rfl (ci := 3) (q0 := 1) rfl rfl) rfl rfl hl.1 rfl (lv_room (Nat.le_of_ble_eq_true rfl)) dX6_section_98 ⟨Nat.zero_le _, Nat.zero_le _⟩) ?_
            cases hf
            exact W.iret hx hb hr (fun t ht _ => ⟨⟨rfl, by rw [ht]; exact hP, hD⟩, hS.F ht⟩) hS.2.2 dX6_section_101
          · have hf := ifn hk3 hf
            by_cases hk4 : x2 = (nI 4)
            · have hf := ifp hk4 hf
              refine lv_tableIn (off := 87) (tgt := 102) hx hb dX6_section_15 (by rw [hk4]; decide +kernel) (by rw [hk4]; decide +kernel) (by rw [hk4]; decide +kernel) (by decide) ?_
              refine lv_aload_n hx hb dX6_section_102 rfl (lv_at hl 0 rfl) ?_
              refine va_get (D := D) (ci := 6) (v := .ref a0) (C := RX6) (T := TX6) (N := 10) hx hb hts hiX6 hown hK.1 hP 0 rfl rfl 0 (by decide) hfl_10 (fun _ h9 => h9) rfl dX6_section_103 ?_
              refine lv_iload_n hx hb dX6_section_106 rfl (lv_at hl 1 rfl) ?_
              obtain ⟨rv4, hrv4, hf⟩ := bd hf
              refine roI (va_runV (As := [.int x1]) (rest := []) ⟨hx, hb, hml, hown, hts⟩ (c_X3_earlyTerms l D cI cZ cM a0 a1 a2 a3 a4 a5 a_n a_L a_U a_H a_O a_B x1 fu rv4 hrv4) (cwV 1 hts gX6_section_X3_earlyTerms rfl rfl rfl ⟨rfl, hdc_X3_earlyTerms⟩ ⟨Nat.le_of_ble_eq_true rfl, Nat.le_of_ble_eq_true rfl⟩) (prV hK hP [1, 2, 3, 4, 5, 6] rfl (ci := 3) (q0 := 1) rfl rfl) rfl rfl hl.1 rfl (lv_room (Nat.le_of_ble_eq_true rfl)) dX6_section_107 ⟨Nat.zero_le _, Nat.zero_le _⟩) ?_
              cases hf
              exact W.iret hx hb hr (fun t ht _ => ⟨⟨rfl, by rw [ht]; exact hP, hD⟩, hS.F ht⟩) hS.2.2 dX6_section_110
            · have hf := ifn hk4 hf
              by_cases hk5 : x2 = (nI 5)
              · have hf := ifp hk5 hf
                refine lv_tableIn (off := 96) (tgt := 111) hx hb dX6_section_15 (by rw [hk5]; decide +kernel) (by rw [hk5]; decide +kernel) (by rw [hk5]; decide +kernel) (by decide) ?_
                refine lv_aload_n hx hb dX6_section_111 rfl (lv_at hl 0 rfl) ?_
                refine va_get (D := D) (ci := 6) (v := .ref a0) (C := RX6) (T := TX6) (N := 10) hx hb hts hiX6 hown hK.1 hP 0 rfl rfl 0 (by decide) hfl_10 (fun _ h9 => h9) rfl dX6_section_112 ?_
                refine lv_iload_n hx hb dX6_section_115 rfl (lv_at hl 1 rfl) ?_
                obtain ⟨rv5, hrv5, hf⟩ := bd hf
                refine roI (va_runV (As := [.int x1]) (rest := []) ⟨hx, hb, hml, hown, hts⟩ (c_X3_notesIn l D cI cZ cM a0 a1 a2 a3 a4 a5 a_n a_L a_U a_H a_O a_B x1 fu rv5 hrv5) (cwV 1 hts gX6_section_X3_notesIn rfl rfl rfl ⟨rfl, hdc_X3_notesIn⟩ ⟨Nat.le_of_ble_eq_true rfl, Nat.le_of_ble_eq_true rfl⟩) (prV hK hP [1, 2, 3, 4, 5, 6] rfl (ci := 3) (q0 := 1) rfl rfl) rfl rfl hl.1 rfl (lv_room (Nat.le_of_ble_eq_true rfl)) dX6_section_116 ⟨Nat.zero_le _, Nat.zero_le _⟩) ?_
                cases hf
                exact W.iret hx hb hr (fun t ht _ => ⟨⟨rfl, by rw [ht]; exact hP, hD⟩, hS.F ht⟩) hS.2.2 dX6_section_119
              · have hf := ifn hk5 hf
                by_cases hk6 : x2 = (nI 6)
                · have hf := ifp hk6 hf
                  refine lv_tableIn (off := 105) (tgt := 120) hx hb dX6_section_15 (by rw [hk6]; decide +kernel) (by rw [hk6]; decide +kernel) (by rw [hk6]; decide +kernel) (by decide) ?_
                  refine lv_aload_n hx hb dX6_section_120 rfl (lv_at hl 0 rfl) ?_
                  refine va_get (D := D) (ci := 6) (v := .ref a0) (C := RX6) (T := TX6) (N := 10) hx hb hts hiX6 hown hK.1 hP 0 rfl rfl 0 (by decide) hfl_10 (fun _ h9 => h9) rfl dX6_section_121 ?_
                  refine lv_iload_n hx hb dX6_section_124 rfl (lv_at hl 1 rfl) ?_
                  obtain ⟨rv6, hrv6, hf⟩ := bd hf
                  refine roI (va_runV (As := [.int x1]) (rest := []) ⟨hx, hb, hml, hown, hts⟩ (c_X3_neededBy l D cI cZ cM a0 a1 a2 a3 a4 a5 a_n a_L a_U a_H a_O a_B x1 fu rv6 hrv6) (cwV 1 hts gX6_section_X3_neededBy rfl rfl rfl ⟨rfl, hdc_X3_neededBy⟩ ⟨Nat.le_of_ble_eq_true rfl, Nat.le_of_ble_eq_true rfl⟩) (prV hK hP [1, 2, 3, 4, 5, 6] rfl (ci := 3) (q0 := 1) rfl rfl) rfl rfl hl.1 rfl (lv_room (Nat.le_of_ble_eq_true rfl)) dX6_section_125 ⟨Nat.zero_le _, Nat.zero_le _⟩) ?_
                  cases hf
                  exact W.iret hx hb hr (fun t ht _ => ⟨⟨rfl, by rw [ht]; exact hP, hD⟩, hS.F ht⟩) hS.2.2 dX6_section_128
                · have hf := ifn hk6 hf
                  by_cases hk7 : x2 = (nI 7)
                  · have hf := ifp hk7 hf
                    refine lv_tableIn (off := 114) (tgt := 129) hx hb dX6_section_15 (by rw [hk7]; decide +kernel) (by rw [hk7]; decide +kernel) (by rw [hk7]; decide +kernel) (by decide) ?_
                    refine lv_aload_n hx hb dX6_section_129 rfl (lv_at hl 0 rfl) ?_
                    refine va_get (D := D) (ci := 6) (v := .ref g0) (C := RX6) (T := TX6) (N := 10) hx hb hts hiX6 hown hK.1 hP 0 rfl rfl 8 (by decide) hfl_57 (fun _ h9 => h9) rfl dX6_section_130 ?_
                    refine lv_aload_n hx hb dX6_section_133 rfl (lv_at hl 0 rfl) ?_
                    refine va_get (D := D) (ci := 6) (v := .ref a0) (C := RX6) (T := TX6) (N := 10) hx hb hts hiX6 hown hK.1 hP 0 rfl rfl 0 (by decide) hfl_10 (fun _ h9 => h9) rfl dX6_section_134 ?_
                    obtain ⟨rv7, hrv7, hf⟩ := bd hf
                    refine muV0 (wr := [(x0, .inr (6, [.ref a0, .ref b0, .ref w0, .ref t0, .ref r0, .ref h0, .ref u0, .ref u1, .ref g0, .ref q0]))]) (va_runV (As := [.ref a0]) (rest := []) ⟨hx, hb, hml, hown, hts⟩ (c_X4_draw l D cI cZ cM g0 g1 g2 g3 g4 a0 a1 a2 a3 a4 a5 _ g_rl g_n g_ri g_ne g_re g_ts a_n a_L a_U a_H a_O a_B fu rv7.1 rv7.2.1 rv7.2.2 hrv7) (cwV 1 hts gX6_section_X4_draw rfl rfl rfl ⟨rfl, hdc_X4_draw⟩ ⟨Nat.le_of_ble_eq_true rfl, Nat.le_of_ble_eq_true rfl⟩) (pmV hK hP hD [7, 8, 9, 10, 11, 1, 2, 3, 4, 5, 6] (by decide) rfl rfl (ci := 4) (q0 := 7) rfl rfl) rfl rfl hl.1 rfl (lv_room (Nat.le_of_ble_eq_true rfl)) dX6_section_137 ⟨Nat.zero_le _, Nat.zero_le _⟩) hP hD hS hA [7, 8, 9, 10, 11, 1, 2, 3, 4, 5, 6] [0] rfl rfl (by decide) (by decide) (fun H locs hP hD hS => ?_)
                    have hP : va_P D vwCl [(x0, .inr (6, [.ref a0, .ref b0, .ref w0, .ref t0, .ref r0, .ref h0, .ref u0, .ref u1, .ref g0, .ref q0])), (g0, .inr (4, [.int g_rl, .ref g1, .int rv7.1, .ref g2, .ref g3, .ref g4])), (g1, .inl (cI, 10, .inl g_ri)), (g2, .inl (cI, 10, .inl rv7.2.1)), (g3, .inl (cI, 10, .inl rv7.2.2)), (g4, .inl (cI, 11, .inl g_ts)), (a0, .inr (3, [.int a_n, .ref a1, .ref a2, .ref a3, .ref a4, .ref a5])), (a1, .inl (cI, 10, .inl a_L)), (a2, .inl (cI, 10, .inl a_U)), (a3, .inl (cI, 12, .inl a_H)), (a4, .inl (cI, 10, .inl a_O)), (a5, .inl (cI, 10, .inl a_B))] H := hP
                    have hD : va_D A [(x0, .inr (6, [.ref a0, .ref b0, .ref w0, .ref t0, .ref r0, .ref h0, .ref u0, .ref u1, .ref g0, .ref q0])), (g0, .inr (4, [.int g_rl, .ref g1, .int rv7.1, .ref g2, .ref g3, .ref g4])), (g1, .inl (cI, 10, .inl g_ri)), (g2, .inl (cI, 10, .inl rv7.2.1)), (g3, .inl (cI, 10, .inl rv7.2.2)), (g4, .inl (cI, 11, .inl g_ts)), (a0, .inr (3, [.int a_n, .ref a1, .ref a2, .ref a3, .ref a4, .ref a5])), (a1, .inl (cI, 10, .inl a_L)), (a2, .inl (cI, 10, .inl a_U)), (a3, .inl (cI, 12, .inl a_H)), (a4, .inl (cI, 10, .inl a_O)), (a5, .inl (cI, 10, .inl a_B))] := hD
                    refine lv_aload_n hx hb dX6_section_140 rfl (lv_at hl 0 rfl) ?_
                    refine va_get (D := D) (ci := 6) (v := .ref g0) (C := RX6) (T := TX6) (N := 10) hx hb hts hiX6 hown hK.1 hP 0 rfl rfl 8 (by decide) hfl_57 (fun _ h9 => h9) rfl dX6_section_141 ?_
                    refine lv_iload_n hx hb dX6_section_144 rfl (lv_at hl 1 rfl) ?_
                    obtain ⟨rv8, hrv8, hf⟩ := bd hf
                    refine roI (va_runV (As := [.int x1]) (rest := []) ⟨hx, hb, hml, hown, hts⟩ (c_X4_component l D cI cZ cM g0 g1 g2 g3 g4 g_rl rv7.1 g_ri rv7.2.1 rv7.2.2 g_ts x1 fu rv8 hrv8) (cwV 1 hts gX6_section_X4_component rfl rfl rfl ⟨rfl, hdc_X4_component⟩ ⟨Nat.le_of_ble_eq_true rfl, Nat.le_of_ble_eq_true rfl⟩) (prV hK hP [1, 2, 3, 4, 5] rfl (ci := 4) (q0 := 1) rfl rfl) rfl rfl hl.1 rfl (lv_room (Nat.le_of_ble_eq_true rfl)) dX6_section_145 ⟨Nat.zero_le _, Nat.zero_le _⟩) ?_
                    cases hf
                    exact W.iret hx hb hr (fun t ht _ => ⟨⟨rfl, by rw [ht]; exact (hP.sub [0, 6, 7, 8, 9, 10, 11, 1, 2, 3, 4, 5] rfl), (hD.sub [0, 6, 7, 8, 9, 10, 11, 1, 2, 3, 4, 5] (by decide) rfl)⟩, hS.F ht⟩) hS.2.2 dX6_section_148
                  · have hf := ifn hk7 hf
                    by_cases hk8 : x2 = (nI 8)
                    · have hf := ifp hk8 hf
                      refine lv_tableIn (off := 134) (tgt := 149) hx hb dX6_section_15 (by rw [hk8]; decide +kernel) (by rw [hk8]; decide +kernel) (by rw [hk8]; decide +kernel) (by decide) ?_
                      refine lv_aload_n hx hb dX6_section_149 rfl (lv_at hl 0 rfl) ?_
                      refine va_get (D := D) (ci := 6) (v := .ref a0) (C := RX6) (T := TX6) (N := 10) hx hb hts hiX6 hown hK.1 hP 0 rfl rfl 0 (by decide) hfl_10 (fun _ h9 => h9) rfl dX6_section_150 ?_
                      refine va_get (D := D) (ci := 3) (v := .ref a5) (C := RX3) (T := TX3) (N := 6) hx hb hts hiX3 hown hK.1 hP 1 rfl rfl 5 (by decide) hfl_123 (fun _ h9 => h9) rfl dX6_section_153 ?_
                      refine lv_iload_n hx hb dX6_section_156 rfl (lv_at hl 1 rfl) ?_
                      obtain ⟨hi, hf⟩ := gd_some hf
                      refine va_iald hx hb hK.1 hP 6 0 rfl rfl hi dX6_section_157 ?_
                      cases hf
                      exact W.iret hx hb hr (fun t ht _ => ⟨⟨rfl, by rw [ht]; exact hP, hD⟩, hS.F ht⟩) hS.2.2 dX6_section_158
                    · have hf := ifn hk8 hf
                      refine lv_tableOut (tgt := 159) hx hb dX6_section_15 (tsOut (fun k h1 _ => by rcases (show k = 0 ∨ k = 1 ∨ k = 2 ∨ k = 3 ∨ k = 4 ∨ k = 5 ∨ k = 6 ∨ k = 7 ∨ k = 8 by omega) with rfl | rfl | rfl | rfl | rfl | rfl | rfl | rfl | rfl <;> assumption)) (by decide) ?_
                      refine lv_bipush (v := (-3 : Int32)) hx hb dX6_section_159 bp_m3 ?_
                      cases hf
                      exact W.iret hx hb hr (fun t ht _ => ⟨⟨rfl, by rw [ht]; exact hP, hD⟩, hS.F ht⟩) hS.2.2 dX6_section_161
  · have hf := ifp hc hf
    refine lv_bipush (v := (-2 : Int32)) hx hb dX6_section_11 bp_m2 ?_
    cases hf
    exact W.iret hx hb hr (fun t ht _ => ⟨⟨rfl, by rw [ht]; exact hP, hD⟩, hS.F ht⟩) hS.2.2 dX6_section_13
theorem hdc_X6_term : yX6_term.cls ≠ "java/lang/invoke/MethodHandle" ∧ yX6_term.cls ≠ "java/lang/invoke/VarHandle" ∧ (parseMethodDescriptor yX6_term.desc).map (fun d => d.parameters.length) = some 2 := by decide +kernel
set_option maxHeartbeats 4000000 in
set_option maxRecDepth 100000 in
theorem c_X6_term (l : Launch) (D : va_G) (cI cZ cM : ClassId) (x0 a0 a1 a2 a3 a4 a5 b0 w0 t0 r0 h0 u0 u1 g0 q0 : Nat) (a_n : Int32) (a_L : Nat → Int32) (a_U : Nat → Int32) (a_H : Nat → Int32) (a_O : Nat → Int32) (a_B : Nat → Int32) (x1 : Int32) (x2 : Int32) (fu : Nat) (r : Int32) (hf : m_X6_term fu a_n a_L a_U a_H a_O x1 x2 = some r) : Met l yX6_term wsX6_term ({ frames := 3, cells := 0, slots := 0, locals := 65 }) (pR D cI cZ cM [(x0, .inr (6, [.ref a0, .ref b0, .ref w0, .ref t0, .ref r0, .ref h0, .ref u0, .ref u1, .ref g0, .ref q0])), (a0, .inr (3, [.int a_n, .ref a1, .ref a2, .ref a3, .ref a4, .ref a5])), (a1, .inl (cI, 10, .inl a_L)), (a2, .inl (cI, 10, .inl a_U)), (a3, .inl (cI, 12, .inl a_H)), (a4, .inl (cI, 10, .inl a_O)), (a5, .inl (cI, 10, .inl a_B))] [.ref x0, .int x1, .int x2]) (qR r) 0 0 (fun _ => False) := by
  refine Met.ofW (cc := cX6_term) (maxL := 3) (ret := (some .int)) (by decide) rfl ?_
  intro p e s m args below meth c s₁ B hml hv
  obtain ⟨rfl, hP, hK⟩ := hv
  have hx := B.exec
  have hb := B.bytes
  have hr := B.returns
  have hts := atoms_spec (ws := wsX6_term) B.pre
  have hown : s.vm.findClass RX6 = some m.cls := findClass_of_methodNamed B.named
  have hlocks := B.notSynchronized
  have hfl_10 := hts (.fieldLink RX6 10 "TermsFirst" "manual" "LTermsFirst$Manual;") (List.mem_cons_of_mem _ (List.mem_append_left _ (List.mem_append_left _ (List.mem_append_left _ (List.mem_of_getElem? (i := 0) rfl)))))
  have hfl_116 := hts (.fieldLink RX6 116 "TermsFirst$Manual" "homes" "[I") (List.mem_cons_of_mem _ (List.mem_append_left _ (List.mem_append_left _ (List.mem_append_left _ (List.mem_of_getElem? (i := 1) rfl)))))
  have hfl_155 := hts (.fieldLink RX6 155 "TermsFirst$Manual" "order" "[I") (List.mem_cons_of_mem _ (List.mem_append_left _ (List.mem_append_left _ (List.mem_append_left _ (List.mem_of_getElem? (i := 2) rfl)))))
  have hiX3 : ∀ w ∈ u_ws RX3 TX3 6, w ∈ wsX6_term := fun _ h => (List.mem_cons_of_mem _ (List.mem_append_right _ h))
  have hiX6 : ∀ w ∈ u_ws RX6 TX6 10, w ∈ wsX6_term := fun _ h => (List.mem_cons_of_mem _ (List.mem_append_left _ (List.mem_append_right _ h)))
  have hl := lv_entry ([.ref x0, .int x1, .int x2]) (n := 3) (Nat.le_of_ble_eq_true rfl)
  rw [lg_entry_eq]
  generalize (lg_sl ([.ref x0, .int x1, .int x2]) ++ List.replicate (3 - (lg_sl ([.ref x0, .int x1, .int x2])).length) Slot.unset).toArray = ls at hl ⊢
  have hl : lv_has ls 3 [(0, .ref x0), (1, .int x1), (2, .int x2)] := hl
  unfold m_X6_term at hf
  refine lv_iload_n hx hb dX6_term_0 rfl (lv_at hl 1 rfl) ?_
  obtain ⟨rv1, hrv1, hf⟩ := bd hf
  refine roI (va_runS (As := [.int x1]) (rest := []) ⟨hx, hb, hml, hown, hts⟩ (c_X6_isTerm l D cI cZ cM x1 rv1 hrv1) (va_cwS 1 hts gX6_term_X6_isTerm rfl rfl rfl hdc_X6_isTerm ⟨Nat.le_of_ble_eq_true rfl, Nat.le_of_ble_eq_true rfl⟩) (prS hK hP [] rfl) rfl rfl hl.1 rfl (lv_room (Nat.le_of_ble_eq_true rfl)) dX6_term_1 ⟨Nat.zero_le _, Nat.zero_le _⟩) ?_
  refine lv_if_ne (tgt := 10) hx hb dX6_term_4 (by decide) (fun hc => ?_) (fun hc => ?_)
  · have hf := ifn hc hf
    refine lv_iload_n hx hb dX6_term_10 rfl (lv_at hl 2 rfl) ?_
    by_cases hk0 : x2 = (nI 0)
    · have hf := ifp hk0 hf
      refine lv_tableIn (off := 33) (tgt := 44) hx hb dX6_term_11 (by rw [hk0]; decide +kernel) (by rw [hk0]; decide +kernel) (by rw [hk0]; decide +kernel) (by decide) ?_
      refine lv_aload_n hx hb dX6_term_44 rfl (lv_at hl 0 rfl) ?_
      refine va_get (D := D) (ci := 6) (v := .ref a0) (C := RX6) (T := TX6) (N := 10) hx hb hts hiX6 hown hK.1 hP 0 rfl rfl 0 (by decide) hfl_10 (fun _ h9 => h9) rfl dX6_term_45 ?_
      refine va_get (D := D) (ci := 3) (v := .ref a3) (C := RX3) (T := TX3) (N := 6) hx hb hts hiX3 hown hK.1 hP 1 rfl rfl 3 (by decide) hfl_116 (fun _ h9 => h9) rfl dX6_term_48 ?_
      refine lv_iload_n hx hb dX6_term_51 rfl (lv_at hl 1 rfl) ?_
      obtain ⟨hi, hf⟩ := gd_some hf
      refine va_iald hx hb hK.1 hP 4 0 rfl rfl hi dX6_term_52 ?_
      cases hf
      exact W.iret hx hb hr (fun t ht _ => ⟨rfl, ht⟩) (fun _ h => nomatch h) dX6_term_53
    · have hf := ifn hk0 hf
      by_cases hk1 : x2 = (nI 1)
      · have hf := ifp hk1 hf
        refine lv_tableIn (off := 43) (tgt := 54) hx hb dX6_term_11 (by rw [hk1]; decide +kernel) (by rw [hk1]; decide +kernel) (by rw [hk1]; decide +kernel) (by decide) ?_
        refine lv_aload_n hx hb dX6_term_54 rfl (lv_at hl 0 rfl) ?_
        refine va_get (D := D) (ci := 6) (v := .ref a0) (C := RX6) (T := TX6) (N := 10) hx hb hts hiX6 hown hK.1 hP 0 rfl rfl 0 (by decide) hfl_10 (fun _ h9 => h9) rfl dX6_term_55 ?_
        refine lv_iload_n hx hb dX6_term_58 rfl (lv_at hl 1 rfl) ?_
        obtain ⟨rv2, hrv2, hf⟩ := bd hf
        refine roI (va_runV (As := [.int x1]) (rest := []) ⟨hx, hb, hml, hown, hts⟩ (c_X3_usersOf l D cI cZ cM a0 a1 a2 a3 a4 a5 a_n a_L a_U a_H a_O a_B x1 fu rv2 hrv2) (cwV 1 hts gX6_term_X3_usersOf rfl rfl rfl ⟨rfl, hdc_X3_usersOf⟩ ⟨Nat.le_of_ble_eq_true rfl, Nat.le_of_ble_eq_true rfl⟩) (prV hK hP [1, 2, 3, 4, 5, 6] rfl (ci := 3) (q0 := 1) rfl rfl) rfl rfl hl.1 rfl (lv_room (Nat.le_of_ble_eq_true rfl)) dX6_term_59 ⟨Nat.zero_le _, Nat.zero_le _⟩) ?_
        cases hf
        exact W.iret hx hb hr (fun t ht _ => ⟨rfl, ht⟩) (fun _ h => nomatch h) dX6_term_62
      · have hf := ifn hk1 hf
        by_cases hk2 : x2 = (nI 2)
        · have hf := ifp hk2 hf
          refine lv_tableIn (off := 52) (tgt := 63) hx hb dX6_term_11 (by rw [hk2]; decide +kernel) (by rw [hk2]; decide +kernel) (by rw [hk2]; decide +kernel) (by decide) ?_
          refine lv_aload_n hx hb dX6_term_63 rfl (lv_at hl 0 rfl) ?_
          refine va_get (D := D) (ci := 6) (v := .ref a0) (C := RX6) (T := TX6) (N := 10) hx hb hts hiX6 hown hK.1 hP 0 rfl rfl 0 (by decide) hfl_10 (fun _ h9 => h9) rfl dX6_term_64 ?_
          refine lv_iload_n hx hb dX6_term_67 rfl (lv_at hl 1 rfl) ?_
          obtain ⟨rv3, hrv3, hf⟩ := bd hf
          refine roI (va_runV (As := [.int x1]) (rest := []) ⟨hx, hb, hml, hown, hts⟩ (c_X3_noteSection l D cI cZ cM a0 a1 a2 a3 a4 a5 a_n a_L a_U a_H a_O a_B x1 fu rv3 hrv3) (cwV 1 hts gX6_term_X3_noteSection rfl rfl rfl ⟨rfl, hdc_X3_noteSection⟩ ⟨Nat.le_of_ble_eq_true rfl, Nat.le_of_ble_eq_true rfl⟩) (prV hK hP [1, 2, 3, 4, 5, 6] rfl (ci := 3) (q0 := 1) rfl rfl) rfl rfl hl.1 rfl (lv_room (Nat.le_of_ble_eq_true rfl)) dX6_term_68 ⟨Nat.zero_le _, Nat.zero_le _⟩) ?_
          cases hf
          exact W.iret hx hb hr (fun t ht _ => ⟨rfl, ht⟩) (fun _ h => nomatch h) dX6_term_71
        · have hf := ifn hk2 hf
          by_cases hk3 : x2 = (nI 3)
          · have hf := ifp hk3 hf
            refine lv_tableIn (off := 61) (tgt := 72) hx hb dX6_term_11 (by rw [hk3]; decide +kernel) (by rw [hk3]; decide +kernel) (by rw [hk3]; decide +kernel) (by decide) ?_
            refine lv_aload_n hx hb dX6_term_72 rfl (lv_at hl 0 rfl) ?_
            refine va_get (D := D) (ci := 6) (v := .ref a0) (C := RX6) (T := TX6) (N := 10) hx hb hts hiX6 hown hK.1 hP 0 rfl rfl 0 (by decide) hfl_10 (fun _ h9 => h9) rfl dX6_term_73 ?_
            refine lv_iload_n hx hb dX6_term_76 rfl (lv_at hl 1 rfl) ?_
            refine lv_aload_n hx hb dX6_term_77 rfl (lv_at hl 0 rfl) ?_
            refine va_get (D := D) (ci := 6) (v := .ref a0) (C := RX6) (T := TX6) (N := 10) hx hb hts hiX6 hown hK.1 hP 0 rfl rfl 0 (by decide) hfl_10 (fun _ h9 => h9) rfl dX6_term_78 ?_
            refine va_get (D := D) (ci := 3) (v := .ref a4) (C := RX3) (T := TX3) (N := 6) hx hb hts hiX3 hown hK.1 hP 1 rfl rfl 4 (by decide) hfl_155 (fun _ h9 => h9) rfl dX6_term_81 ?_
            obtain ⟨rv4, hrv4, hf⟩ := bd hf
            refine roI (va_runV (As := [.int x1, .ref a4]) (rest := []) ⟨hx, hb, hml, hown, hts⟩ (c_X3_noteLength l D cI cZ cM a0 a1 a2 a3 a4 a5 a4 a_n a_L a_U a_H a_O a_B a_O x1 fu rv4 hrv4) (cwV 2 hts gX6_term_X3_noteLength rfl rfl rfl ⟨rfl, hdc_X3_noteLength⟩ ⟨Nat.le_of_ble_eq_true rfl, Nat.le_of_ble_eq_true rfl⟩) (prV hK hP [1, 2, 3, 4, 5, 6, 5] rfl (ci := 3) (q0 := 1) rfl rfl) rfl rfl hl.1 rfl (lv_room (Nat.le_of_ble_eq_true rfl)) dX6_term_84 ⟨Nat.zero_le _, Nat.zero_le _⟩) ?_
            cases hf
            exact W.iret hx hb hr (fun t ht _ => ⟨rfl, ht⟩) (fun _ h => nomatch h) dX6_term_87
          · have hf := ifn hk3 hf
            by_cases hk4 : x2 = (nI 4)
            · have hf := ifp hk4 hf
              refine lv_tableIn (off := 77) (tgt := 88) hx hb dX6_term_11 (by rw [hk4]; decide +kernel) (by rw [hk4]; decide +kernel) (by rw [hk4]; decide +kernel) (by decide) ?_
              refine lv_aload_n hx hb dX6_term_88 rfl (lv_at hl 0 rfl) ?_
              refine va_get (D := D) (ci := 6) (v := .ref a0) (C := RX6) (T := TX6) (N := 10) hx hb hts hiX6 hown hK.1 hP 0 rfl rfl 0 (by decide) hfl_10 (fun _ h9 => h9) rfl dX6_term_89 ?_
              refine lv_iload_n hx hb dX6_term_92 rfl (lv_at hl 1 rfl) ?_
              obtain ⟨rv5, hrv5, hf⟩ := bd hf
              refine roI (va_runV (As := [.int x1]) (rest := []) ⟨hx, hb, hml, hown, hts⟩ (c_X3_isLoose l D cI cZ cM a0 a1 a2 a3 a4 a5 a_n a_L a_U a_H a_O a_B x1 fu rv5 hrv5) (cwV 1 hts gX6_term_X3_isLoose rfl rfl rfl ⟨rfl, hdc_X3_isLoose⟩ ⟨Nat.le_of_ble_eq_true rfl, Nat.le_of_ble_eq_true rfl⟩) (prV hK hP [1, 2, 3, 4, 5, 6] rfl (ci := 3) (q0 := 1) rfl rfl) rfl rfl hl.1 rfl (lv_room (Nat.le_of_ble_eq_true rfl)) dX6_term_93 ⟨Nat.zero_le _, Nat.zero_le _⟩) ?_
              refine lv_if_eq (tgt := 103) hx hb dX6_term_96 (by decide) (fun hc => ?_) (fun hc => ?_)
              · have hf := ifp hc hf
                refine lv_iconst (v := (nI 0)) hx hb dX6_term_103 ic_0 ?_
                cases hf
                exact W.iret hx hb hr (fun t ht _ => ⟨rfl, ht⟩) (fun _ h => nomatch h) dX6_term_104
              · have hf := ifn hc hf
                refine lv_iconst (v := (nI 1)) hx hb dX6_term_99 ic_1 ?_
                refine lv_goto (tgt := 104) hx hb dX6_term_100 (by decide) ?_
                cases hf
                exact W.iret hx hb hr (fun t ht _ => ⟨rfl, ht⟩) (fun _ h => nomatch h) dX6_term_104
            · have hf := ifn hk4 hf
              refine lv_tableOut (tgt := 105) hx hb dX6_term_11 (tsOut (fun k h1 _ => by rcases (show k = 0 ∨ k = 1 ∨ k = 2 ∨ k = 3 ∨ k = 4 by omega) with rfl | rfl | rfl | rfl | rfl <;> assumption)) (by decide) ?_
              refine lv_bipush (v := (-3 : Int32)) hx hb dX6_term_105 bp_m3 ?_
              cases hf
              exact W.iret hx hb hr (fun t ht _ => ⟨rfl, ht⟩) (fun _ h => nomatch h) dX6_term_107
  · have hf := ifp hc hf
    refine lv_bipush (v := (-2 : Int32)) hx hb dX6_term_7 bp_m2 ?_
    cases hf
    exact W.iret hx hb hr (fun t ht _ => ⟨rfl, ht⟩) (fun _ h => nomatch h) dX6_term_9
theorem hdc_X6_ring : yX6_ring.cls ≠ "java/lang/invoke/MethodHandle" ∧ yX6_ring.cls ≠ "java/lang/invoke/VarHandle" ∧ (parseMethodDescriptor yX6_ring.desc).map (fun d => d.parameters.length) = some 1 := by decide +kernel
set_option maxHeartbeats 4000000 in
set_option maxRecDepth 100000 in
theorem c_X6_ring (l : Launch) (D : va_G) (cI cZ cM : ClassId) (x0 a0 a1 a2 a3 a4 a5 g0 g1 g2 g3 g4 b0 w0 t0 r0 h0 u0 u1 q0 : Nat) (sz : Nat) (a_n : Int32) (a_L : Nat → Int32) (a_U : Nat → Int32) (a_H : Nat → Int32) (a_O : Nat → Int32) (a_B : Nat → Int32) (g_rl : Int32) (g_n : Int32) (g_ri : Nat → Int32) (g_ne : Nat → Int32) (g_re : Nat → Int32) (g_ts : Nat → Int32) (x1 : Int32) (fu : Nat) (r : Int32) (g_rl' : Int32) (g_n' : Int32) (g_ri' : Nat → Int32) (g_ne' : Nat → Int32) (g_re' : Nat → Int32) (g_ts' : Nat → Int32) (hf : m_X6_ring fu a_n a_U a_H g_rl g_n g_ri g_ne g_re g_ts x1 = some (r, g_rl', g_n', g_ri', g_ne', g_re', g_ts')) : Met l yX6_ring wsX6_ring ({ frames := 5, cells := 0, slots := 0, locals := 111 }) (pM D cI cZ cM sz [(x0, .inr (6, [.ref a0, .ref b0, .ref w0, .ref t0, .ref r0, .ref h0, .ref u0, .ref u1, .ref g0, .ref q0])), (a0, .inr (3, [.int a_n, .ref a1, .ref a2, .ref a3, .ref a4, .ref a5])), (a1, .inl (cI, 10, .inl a_L)), (a2, .inl (cI, 10, .inl a_U)), (a3, .inl (cI, 12, .inl a_H)), (a4, .inl (cI, 10, .inl a_O)), (a5, .inl (cI, 10, .inl a_B)), (g0, .inr (4, [.int g_rl, .ref g1, .int g_n, .ref g2, .ref g3, .ref g4])), (g1, .inl (cI, 10, .inl g_ri)), (g2, .inl (cI, 10, .inl g_ne)), (g3, .inl (cI, 10, .inl g_re)), (g4, .inl (cI, 11, .inl g_ts))] [.ref x0, .int x1]) (qI D r [(x0, .inr (6, [.ref a0, .ref b0, .ref w0, .ref t0, .ref r0, .ref h0, .ref u0, .ref u1, .ref g0, .ref q0])), (a0, .inr (3, [.int a_n, .ref a1, .ref a2, .ref a3, .ref a4, .ref a5])), (a1, .inl (cI, 10, .inl a_L)), (a2, .inl (cI, 10, .inl a_U)), (a3, .inl (cI, 12, .inl a_H)), (a4, .inl (cI, 10, .inl a_O)), (a5, .inl (cI, 10, .inl a_B)), (g0, .inr (4, [.int g_rl', .ref g1, .int g_n', .ref g2, .ref g3, .ref g4])), (g1, .inl (cI, 10, .inl g_ri')), (g2, .inl (cI, 10, .inl g_ne')), (g3, .inl (cI, 10, .inl g_re')), (g4, .inl (cI, 11, .inl g_ts'))] (va_A [(x0, .inr (6, [.ref a0, .ref b0, .ref w0, .ref t0, .ref r0, .ref h0, .ref u0, .ref u1, .ref g0, .ref q0])), (a0, .inr (3, [.int a_n, .ref a1, .ref a2, .ref a3, .ref a4, .ref a5])), (a1, .inl (cI, 10, .inl a_L)), (a2, .inl (cI, 10, .inl a_U)), (a3, .inl (cI, 12, .inl a_H)), (a4, .inl (cI, 10, .inl a_O)), (a5, .inl (cI, 10, .inl a_B)), (g0, .inr (4, [.int g_rl, .ref g1, .int g_n, .ref g2, .ref g3, .ref g4])), (g1, .inl (cI, 10, .inl g_ri)), (g2, .inl (cI, 10, .inl g_ne)), (g3, .inl (cI, 10, .inl g_re)), (g4, .inl (cI, 11, .inl g_ts))] sz)) 0 0 (va_A [(x0, .inr (6, [.ref a0, .ref b0, .ref w0, .ref t0, .ref r0, .ref h0, .ref u0, .ref u1, .ref g0, .ref q0])), (a0, .inr (3, [.int a_n, .ref a1, .ref a2, .ref a3, .ref a4, .ref a5])), (a1, .inl (cI, 10, .inl a_L)), (a2, .inl (cI, 10, .inl a_U)), (a3, .inl (cI, 12, .inl a_H)), (a4, .inl (cI, 10, .inl a_O)), (a5, .inl (cI, 10, .inl a_B)), (g0, .inr (4, [.int g_rl, .ref g1, .int g_n, .ref g2, .ref g3, .ref g4])), (g1, .inl (cI, 10, .inl g_ri)), (g2, .inl (cI, 10, .inl g_ne)), (g3, .inl (cI, 10, .inl g_re)), (g4, .inl (cI, 11, .inl g_ts))] sz) := by
  refine Met.ofW (cc := cX6_ring) (maxL := 2) (ret := (some .int)) (by decide) rfl ?_
  intro p e s m args below meth c s₁ B hml hv
  obtain ⟨rfl, hsz, hP, hK, hD0⟩ := hv
  have hx := B.exec
  have hb := B.bytes
  have hr := B.returns
  have hts := atoms_spec (ws := wsX6_ring) B.pre
  have hown : s.vm.findClass RX6 = some m.cls := findClass_of_methodNamed B.named
  have hlocks := B.notSynchronized
  subst hsz
  have hD := hD0.self (sz := s.heap.size)
  generalize hAe : va_A [(x0, .inr (6, [.ref a0, .ref b0, .ref w0, .ref t0, .ref r0, .ref h0, .ref u0, .ref u1, .ref g0, .ref q0])), (a0, .inr (3, [.int a_n, .ref a1, .ref a2, .ref a3, .ref a4, .ref a5])), (a1, .inl (cI, 10, .inl a_L)), (a2, .inl (cI, 10, .inl a_U)), (a3, .inl (cI, 12, .inl a_H)), (a4, .inl (cI, 10, .inl a_O)), (a5, .inl (cI, 10, .inl a_B)), (g0, .inr (4, [.int g_rl, .ref g1, .int g_n, .ref g2, .ref g3, .ref g4])), (g1, .inl (cI, 10, .inl g_ri)), (g2, .inl (cI, 10, .inl g_ne)), (g3, .inl (cI, 10, .inl g_re)), (g4, .inl (cI, 11, .inl g_ts))] s.heap.size = A at hD ⊢
  have hA : ∀ q : Nat, s.heap.size ≤ q → A q := fun q h => by rw [← hAe]; exact Or.inr h
  clear hAe hD0
  have hfl_10 := hts (.fieldLink RX6 10 "TermsFirst" "manual" "LTermsFirst$Manual;") (List.mem_cons_of_mem _ (List.mem_append_left _ (List.mem_append_left _ (List.mem_append_left _ (List.mem_append_left _ (List.mem_of_getElem? (i := 1) rfl))))))
  have hfl_57 := hts (.fieldLink RX6 57 "TermsFirst" "graph" "LTermsFirst$NeedGraph;") (List.mem_cons_of_mem _ (List.mem_append_left _ (List.mem_append_left _ (List.mem_append_left _ (List.mem_append_left _ (List.mem_of_getElem? (i := 0) rfl))))))
  have hfl_201 := hts (.fieldLink RX6 201 "TermsFirst$NeedGraph" "ringLength" "I") (List.mem_cons_of_mem _ (List.mem_append_left _ (List.mem_append_left _ (List.mem_append_left _ (List.mem_append_left _ (List.mem_of_getElem? (i := 2) rfl))))))
  have hfl_204 := hts (.fieldLink RX6 204 "TermsFirst$NeedGraph" "ring" "[I") (List.mem_cons_of_mem _ (List.mem_append_left _ (List.mem_append_left _ (List.mem_append_left _ (List.mem_append_left _ (List.mem_of_getElem? (i := 3) rfl))))))
  have hiX4 : ∀ w ∈ u_ws RX4 TX4 6, w ∈ wsX6_ring := fun _ h => (List.mem_cons_of_mem _ (List.mem_append_left _ (List.mem_append_right _ h)))
  have hiX6 : ∀ w ∈ u_ws RX6 TX6 10, w ∈ wsX6_ring := fun _ h => (List.mem_cons_of_mem _ (List.mem_append_left _ (List.mem_append_left _ (List.mem_append_right _ h))))
  have hl := lv_entry ([.ref x0, .int x1]) (n := 2) (Nat.le_of_ble_eq_true rfl)
  rw [lg_entry_eq]
  generalize (lg_sl ([.ref x0, .int x1]) ++ List.replicate (2 - (lg_sl ([.ref x0, .int x1])).length) Slot.unset).toArray = ls at hl ⊢
  have hl : lv_has ls 2 [(0, .ref x0), (1, .int x1)] := hl
  have hS : va_S A s.heap s.heap [] := va_S.rf
  unfold m_X6_ring at hf
  refine lv_iload_n hx hb dX6_ring_0 rfl (lv_at hl 1 rfl) ?_
  refine lv_iconst (v := (-1 : Int32)) hx hb dX6_ring_1 ic_m1 ?_
  refine lv_icmp_ge (tgt := 8) hx hb dX6_ring_2 (by decide) (fun hc => ?_) (fun hc => ?_)
  · have hf := ifp hc hf
    refine lv_aload_n hx hb dX6_ring_8 rfl (lv_at hl 0 rfl) ?_
    refine va_get (D := D) (ci := 6) (v := .ref g0) (C := RX6) (T := TX6) (N := 10) hx hb hts hiX6 hown hK.1 hP 0 rfl rfl 8 (by decide) hfl_57 (fun _ h9 => h9) rfl dX6_ring_9 ?_
    refine lv_aload_n hx hb dX6_ring_12 rfl (lv_at hl 0 rfl) ?_
    refine va_get (D := D) (ci := 6) (v := .ref a0) (C := RX6) (T := TX6) (N := 10) hx hb hts hiX6 hown hK.1 hP 0 rfl rfl 0 (by decide) hfl_10 (fun _ h9 => h9) rfl dX6_ring_13 ?_
    obtain ⟨rv1, hrv1, hf⟩ := bd hf
    refine muV0 (wr := [(x0, .inr (6, [.ref a0, .ref b0, .ref w0, .ref t0, .ref r0, .ref h0, .ref u0, .ref u1, .ref g0, .ref q0]))]) (va_runV (As := [.ref a0]) (rest := []) ⟨hx, hb, hml, hown, hts⟩ (c_X4_draw l D cI cZ cM g0 g1 g2 g3 g4 a0 a1 a2 a3 a4 a5 _ g_rl g_n g_ri g_ne g_re g_ts a_n a_L a_U a_H a_O a_B fu rv1.1 rv1.2.1 rv1.2.2 hrv1) (cwV 1 hts gX6_ring_X4_draw rfl rfl rfl ⟨rfl, hdc_X4_draw⟩ ⟨Nat.le_of_ble_eq_true rfl, Nat.le_of_ble_eq_true rfl⟩) (pmV hK hP hD [7, 8, 9, 10, 11, 1, 2, 3, 4, 5, 6] (by decide) rfl rfl (ci := 4) (q0 := 7) rfl rfl) rfl rfl hl.1 rfl (lv_room (Nat.le_of_ble_eq_true rfl)) dX6_ring_16 ⟨Nat.zero_le _, Nat.zero_le _⟩) hP hD hS hA [7, 8, 9, 10, 11, 1, 2, 3, 4, 5, 6] [0] rfl rfl (by decide) (by decide) (fun H locs hP hD hS => ?_)
    have hP : va_P D vwCl [(x0, .inr (6, [.ref a0, .ref b0, .ref w0, .ref t0, .ref r0, .ref h0, .ref u0, .ref u1, .ref g0, .ref q0])), (g0, .inr (4, [.int g_rl, .ref g1, .int rv1.1, .ref g2, .ref g3, .ref g4])), (g1, .inl (cI, 10, .inl g_ri)), (g2, .inl (cI, 10, .inl rv1.2.1)), (g3, .inl (cI, 10, .inl rv1.2.2)), (g4, .inl (cI, 11, .inl g_ts)), (a0, .inr (3, [.int a_n, .ref a1, .ref a2, .ref a3, .ref a4, .ref a5])), (a1, .inl (cI, 10, .inl a_L)), (a2, .inl (cI, 10, .inl a_U)), (a3, .inl (cI, 12, .inl a_H)), (a4, .inl (cI, 10, .inl a_O)), (a5, .inl (cI, 10, .inl a_B))] H := hP
    have hD : va_D A [(x0, .inr (6, [.ref a0, .ref b0, .ref w0, .ref t0, .ref r0, .ref h0, .ref u0, .ref u1, .ref g0, .ref q0])), (g0, .inr (4, [.int g_rl, .ref g1, .int rv1.1, .ref g2, .ref g3, .ref g4])), (g1, .inl (cI, 10, .inl g_ri)), (g2, .inl (cI, 10, .inl rv1.2.1)), (g3, .inl (cI, 10, .inl rv1.2.2)), (g4, .inl (cI, 11, .inl g_ts)), (a0, .inr (3, [.int a_n, .ref a1, .ref a2, .ref a3, .ref a4, .ref a5])), (a1, .inl (cI, 10, .inl a_L)), (a2, .inl (cI, 10, .inl a_U)), (a3, .inl (cI, 12, .inl a_H)), (a4, .inl (cI, 10, .inl a_O)), (a5, .inl (cI, 10, .inl a_B))] := hD
    refine lv_aload_n hx hb dX6_ring_19 rfl (lv_at hl 0 rfl) ?_
    refine va_get (D := D) (ci := 6) (v := .ref g0) (C := RX6) (T := TX6) (N := 10) hx hb hts hiX6 hown hK.1 hP 0 rfl rfl 8 (by decide) hfl_57 (fun _ h9 => h9) rfl dX6_ring_20 ?_
    obtain ⟨rv2, hrv2, hf⟩ := bd hf
    refine muV0 (wr := [(x0, .inr (6, [.ref a0, .ref b0, .ref w0, .ref t0, .ref r0, .ref h0, .ref u0, .ref u1, .ref g0, .ref q0])), (a0, .inr (3, [.int a_n, .ref a1, .ref a2, .ref a3, .ref a4, .ref a5])), (a1, .inl (cI, 10, .inl a_L)), (a2, .inl (cI, 10, .inl a_U)), (a3, .inl (cI, 12, .inl a_H)), (a4, .inl (cI, 10, .inl a_O)), (a5, .inl (cI, 10, .inl a_B))]) (va_runV (As := []) (rest := []) ⟨hx, hb, hml, hown, hts⟩ (c_X4_findRing l D cI cZ cM g0 g1 g2 g3 g4 _ g_rl rv1.1 g_ri rv1.2.1 rv1.2.2 g_ts fu rv2.1 rv2.2.1 rv2.2.2 hrv2) (cwV 0 hts gX6_ring_X4_findRing rfl rfl rfl ⟨rfl, hdc_X4_findRing⟩ ⟨Nat.le_of_ble_eq_true rfl, Nat.le_of_ble_eq_true rfl⟩) (pmV hK hP hD [1, 2, 3, 4, 5] (by decide) rfl rfl (ci := 4) (q0 := 1) rfl rfl) rfl rfl hl.1 rfl (lv_room (Nat.le_of_ble_eq_true rfl)) dX6_ring_23 ⟨Nat.zero_le _, Nat.zero_le _⟩) hP hD hS hA [1, 2, 3, 4, 5] [0, 6, 7, 8, 9, 10, 11] rfl rfl (by decide) (by decide) (fun H locs hP hD hS => ?_)
    have hP : va_P D vwCl [(x0, .inr (6, [.ref a0, .ref b0, .ref w0, .ref t0, .ref r0, .ref h0, .ref u0, .ref u1, .ref g0, .ref q0])), (a0, .inr (3, [.int a_n, .ref a1, .ref a2, .ref a3, .ref a4, .ref a5])), (a1, .inl (cI, 10, .inl a_L)), (a2, .inl (cI, 10, .inl a_U)), (a3, .inl (cI, 12, .inl a_H)), (a4, .inl (cI, 10, .inl a_O)), (a5, .inl (cI, 10, .inl a_B)), (g0, .inr (4, [.int rv2.1, .ref g1, .int rv1.1, .ref g2, .ref g3, .ref g4])), (g1, .inl (cI, 10, .inl rv2.2.1)), (g2, .inl (cI, 10, .inl rv1.2.1)), (g3, .inl (cI, 10, .inl rv1.2.2)), (g4, .inl (cI, 11, .inl rv2.2.2))] H := hP
    have hD : va_D A [(x0, .inr (6, [.ref a0, .ref b0, .ref w0, .ref t0, .ref r0, .ref h0, .ref u0, .ref u1, .ref g0, .ref q0])), (a0, .inr (3, [.int a_n, .ref a1, .ref a2, .ref a3, .ref a4, .ref a5])), (a1, .inl (cI, 10, .inl a_L)), (a2, .inl (cI, 10, .inl a_U)), (a3, .inl (cI, 12, .inl a_H)), (a4, .inl (cI, 10, .inl a_O)), (a5, .inl (cI, 10, .inl a_B)), (g0, .inr (4, [.int rv2.1, .ref g1, .int rv1.1, .ref g2, .ref g3, .ref g4])), (g1, .inl (cI, 10, .inl rv2.2.1)), (g2, .inl (cI, 10, .inl rv1.2.1)), (g3, .inl (cI, 10, .inl rv1.2.2)), (g4, .inl (cI, 11, .inl rv2.2.2))] := hD
    refine lv_iload_n hx hb dX6_ring_26 rfl (lv_at hl 1 rfl) ?_
    refine lv_iconst (v := (-1 : Int32)) hx hb dX6_ring_27 ic_m1 ?_
    refine lv_icmp_ne (tgt := 39) hx hb dX6_ring_28 (by decide) (fun hc => ?_) (fun hc => ?_)
    · have hf := ifn hc hf
      refine lv_iload_n hx hb dX6_ring_39 rfl (lv_at hl 1 rfl) ?_
      refine lv_aload_n hx hb dX6_ring_40 rfl (lv_at hl 0 rfl) ?_
      refine va_get (D := D) (ci := 6) (v := .ref g0) (C := RX6) (T := TX6) (N := 10) hx hb hts hiX6 hown hK.1 hP 0 rfl rfl 8 (by decide) hfl_57 (fun _ h9 => h9) rfl dX6_ring_41 ?_
      refine va_get (D := D) (ci := 4) (v := .int rv2.1) (C := RX4) (T := TX4) (N := 6) hx hb hts hiX4 hown hK.1 hP 7 rfl rfl 0 (by decide) hfl_201 (fun _ h9 => h9) rfl dX6_ring_44 ?_
      refine lv_icmp_ge (tgt := 62) hx hb dX6_ring_47 (by decide) (fun hc => ?_) (fun hc => ?_)
      · have hf := ifp hc hf
        refine lv_iconst (v := (-1 : Int32)) hx hb dX6_ring_62 ic_m1 ?_
        cases hf
        exact W.iret hx hb hr (fun t ht _ => ⟨⟨rfl, by rw [ht]; exact hP, hD⟩, hS.F ht⟩) hS.2.2 dX6_ring_63
      · have hf := ifn hc hf
        refine lv_aload_n hx hb dX6_ring_50 rfl (lv_at hl 0 rfl) ?_
        refine va_get (D := D) (ci := 6) (v := .ref g0) (C := RX6) (T := TX6) (N := 10) hx hb hts hiX6 hown hK.1 hP 0 rfl rfl 8 (by decide) hfl_57 (fun _ h9 => h9) rfl dX6_ring_51 ?_
        refine va_get (D := D) (ci := 4) (v := .ref g1) (C := RX4) (T := TX4) (N := 6) hx hb hts hiX4 hown hK.1 hP 7 rfl rfl 1 (by decide) hfl_204 (fun _ h9 => h9) rfl dX6_ring_54 ?_
        refine lv_iload_n hx hb dX6_ring_57 rfl (lv_at hl 1 rfl) ?_
        obtain ⟨hi, hf⟩ := gd_some hf
        refine va_iald hx hb hK.1 hP 8 0 rfl rfl hi dX6_ring_58 ?_
        refine lv_goto (tgt := 63) hx hb dX6_ring_59 (by decide) ?_
        cases hf
        exact W.iret hx hb hr (fun t ht _ => ⟨⟨rfl, by rw [ht]; exact hP, hD⟩, hS.F ht⟩) hS.2.2 dX6_ring_63
    · have hf := ifp hc hf
      refine lv_aload_n hx hb dX6_ring_31 rfl (lv_at hl 0 rfl) ?_
      refine va_get (D := D) (ci := 6) (v := .ref g0) (C := RX6) (T := TX6) (N := 10) hx hb hts hiX6 hown hK.1 hP 0 rfl rfl 8 (by decide) hfl_57 (fun _ h9 => h9) rfl dX6_ring_32 ?_
      refine va_get (D := D) (ci := 4) (v := .int rv2.1) (C := RX4) (T := TX4) (N := 6) hx hb hts hiX4 hown hK.1 hP 7 rfl rfl 0 (by decide) hfl_201 (fun _ h9 => h9) rfl dX6_ring_35 ?_
      cases hf
      exact W.iret hx hb hr (fun t ht _ => ⟨⟨rfl, by rw [ht]; exact hP, hD⟩, hS.F ht⟩) hS.2.2 dX6_ring_38
  · have hf := ifn hc hf
    refine lv_bipush (v := (-3 : Int32)) hx hb dX6_ring_5 bp_m3 ?_
    cases hf
    exact W.iret hx hb hr (fun t ht _ => ⟨⟨rfl, by rw [ht]; exact hP, hD⟩, hS.F ht⟩) hS.2.2 dX6_ring_7
theorem hdc_X6_best : yX6_best.cls ≠ "java/lang/invoke/MethodHandle" ∧ yX6_best.cls ≠ "java/lang/invoke/VarHandle" ∧ (parseMethodDescriptor yX6_best.desc).map (fun d => d.parameters.length) = some 1 := by decide +kernel
set_option maxHeartbeats 4000000 in
set_option maxRecDepth 100000 in
theorem c_X6_best (l : Launch) (D : va_G) (cI cZ cM : ClassId) (x0 a0 a1 a2 a3 a4 a5 q0 q1 q2 q3 q4 q5 v0 v1 v2 v3 v4 v5 b0 w0 t0 r0 h0 u0 u1 g0 : Nat) (sz : Nat) (a_n : Int32) (a_L : Nat → Int32) (a_U : Nat → Int32) (a_H : Nat → Int32) (a_O : Nat → Int32) (a_B : Nat → Int32) (q_nt : Int32) (q_iv : Int32) (q_fd : Int32) (q_or : Nat → Int32) (q_df : Nat → Int32) (q_se : Nat → Int32) (q_co : Nat → Int32) (q_ch : Nat → Int32) (v_n : Int32) (v_L : Nat → Int32) (v_U : Nat → Int32) (v_H : Nat → Int32) (v_O : Nat → Int32) (v_B : Nat → Int32) (x1 : Int32) (fu : Nat) (r : Int32) (q_nt' : Int32) (q_iv' : Int32) (q_fd' : Int32) (q_or' : Nat → Int32) (q_df' : Nat → Int32) (q_se' : Nat → Int32) (q_co' : Nat → Int32) (q_ch' : Nat → Int32) (v_n' : Int32) (v_L' : Nat → Int32) (v_U' : Nat → Int32) (v_H' : Nat → Int32) (v_O' : Nat → Int32) (v_B' : Nat → Int32) (hf : m_X6_best fu a_n a_L a_U a_H a_O a_B q_nt q_iv q_fd q_or q_df q_se q_co q_ch v_n v_L v_U v_H v_O v_B x1 = some (r, q_nt', q_iv', q_fd', q_or', q_df', q_se', q_co', q_ch', v_n', v_L', v_U', v_H', v_O', v_B')) : Met l yX6_best wsX6_best ({ frames := 4, cells := 0, slots := 0, locals := 93 }) (pM D cI cZ cM sz [(x0, .inr (6, [.ref a0, .ref b0, .ref w0, .ref t0, .ref r0, .ref h0, .ref u0, .ref u1, .ref g0, .ref q0])), (a0, .inr (3, [.int a_n, .ref a1, .ref a2, .ref a3, .ref a4, .ref a5])), (a1, .inl (cI, 10, .inl a_L)), (a2, .inl (cI, 10, .inl a_U)), (a3, .inl (cI, 12, .inl a_H)), (a4, .inl (cI, 10, .inl a_O)), (a5, .inl (cI, 10, .inl a_B)), (q0, .inr (0, [.int q_nt, .int q_iv, .ref q1, .ref v0, .int q_fd, .ref q2, .ref q3, .ref q4, .ref q5])), (q1, .inl (cI, 10, .inl q_or)), (q2, .inl (cI, 10, .inl q_df)), (q3, .inl (cI, 1024, .inl q_se)), (q4, .inl (cI, 1024, .inl q_co)), (q5, .inl (cI, 1024, .inl q_ch)), (v0, .inr (3, [.int v_n, .ref v1, .ref v2, .ref v3, .ref v4, .ref v5])), (v1, .inl (cI, 10, .inl v_L)), (v2, .inl (cI, 10, .inl v_U)), (v3, .inl (cI, 12, .inl v_H)), (v4, .inl (cI, 10, .inl v_O)), (v5, .inl (cI, 10, .inl v_B))] [.ref x0, .int x1]) (qI D r [(x0, .inr (6, [.ref a0, .ref b0, .ref w0, .ref t0, .ref r0, .ref h0, .ref u0, .ref u1, .ref g0, .ref q0])), (a0, .inr (3, [.int a_n, .ref a1, .ref a2, .ref a3, .ref a4, .ref a5])), (a1, .inl (cI, 10, .inl a_L)), (a2, .inl (cI, 10, .inl a_U)), (a3, .inl (cI, 12, .inl a_H)), (a4, .inl (cI, 10, .inl a_O)), (a5, .inl (cI, 10, .inl a_B)), (q0, .inr (0, [.int q_nt', .int q_iv', .ref q1, .ref v0, .int q_fd', .ref q2, .ref q3, .ref q4, .ref q5])), (q1, .inl (cI, 10, .inl q_or')), (q2, .inl (cI, 10, .inl q_df')), (q3, .inl (cI, 1024, .inl q_se')), (q4, .inl (cI, 1024, .inl q_co')), (q5, .inl (cI, 1024, .inl q_ch')), (v0, .inr (3, [.int v_n', .ref v1, .ref v2, .ref v3, .ref v4, .ref v5])), (v1, .inl (cI, 10, .inl v_L')), (v2, .inl (cI, 10, .inl v_U')), (v3, .inl (cI, 12, .inl v_H')), (v4, .inl (cI, 10, .inl v_O')), (v5, .inl (cI, 10, .inl v_B'))] (va_A [(x0, .inr (6, [.ref a0, .ref b0, .ref w0, .ref t0, .ref r0, .ref h0, .ref u0, .ref u1, .ref g0, .ref q0])), (a0, .inr (3, [.int a_n, .ref a1, .ref a2, .ref a3, .ref a4, .ref a5])), (a1, .inl (cI, 10, .inl a_L)), (a2, .inl (cI, 10, .inl a_U)), (a3, .inl (cI, 12, .inl a_H)), (a4, .inl (cI, 10, .inl a_O)), (a5, .inl (cI, 10, .inl a_B)), (q0, .inr (0, [.int q_nt, .int q_iv, .ref q1, .ref v0, .int q_fd, .ref q2, .ref q3, .ref q4, .ref q5])), (q1, .inl (cI, 10, .inl q_or)), (q2, .inl (cI, 10, .inl q_df)), (q3, .inl (cI, 1024, .inl q_se)), (q4, .inl (cI, 1024, .inl q_co)), (q5, .inl (cI, 1024, .inl q_ch)), (v0, .inr (3, [.int v_n, .ref v1, .ref v2, .ref v3, .ref v4, .ref v5])), (v1, .inl (cI, 10, .inl v_L)), (v2, .inl (cI, 10, .inl v_U)), (v3, .inl (cI, 12, .inl v_H)), (v4, .inl (cI, 10, .inl v_O)), (v5, .inl (cI, 10, .inl v_B))] sz)) 0 0 (va_A [(x0, .inr (6, [.ref a0, .ref b0, .ref w0, .ref t0, .ref r0, .ref h0, .ref u0, .ref u1, .ref g0, .ref q0])), (a0, .inr (3, [.int a_n, .ref a1, .ref a2, .ref a3, .ref a4, .ref a5])), (a1, .inl (cI, 10, .inl a_L)), (a2, .inl (cI, 10, .inl a_U)), (a3, .inl (cI, 12, .inl a_H)), (a4, .inl (cI, 10, .inl a_O)), (a5, .inl (cI, 10, .inl a_B)), (q0, .inr (0, [.int q_nt, .int q_iv, .ref q1, .ref v0, .int q_fd, .ref q2, .ref q3, .ref q4, .ref q5])), (q1, .inl (cI, 10, .inl q_or)), (q2, .inl (cI, 10, .inl q_df)), (q3, .inl (cI, 1024, .inl q_se)), (q4, .inl (cI, 1024, .inl q_co)), (q5, .inl (cI, 1024, .inl q_ch)), (v0, .inr (3, [.int v_n, .ref v1, .ref v2, .ref v3, .ref v4, .ref v5])), (v1, .inl (cI, 10, .inl v_L)), (v2, .inl (cI, 10, .inl v_U)), (v3, .inl (cI, 12, .inl v_H)), (v4, .inl (cI, 10, .inl v_O)), (v5, .inl (cI, 10, .inl v_B))] sz) := by
  refine Met.ofW (cc := cX6_best) (maxL := 2) (ret := (some .int)) (by decide) rfl ?_
  intro p e s m args below meth c s₁ B hml hv
  obtain ⟨rfl, hsz, hP, hK, hD0⟩ := hv
  have hx := B.exec
  have hb := B.bytes
  have hr := B.returns
  have hts := atoms_spec (ws := wsX6_best) B.pre
  have hown : s.vm.findClass RX6 = some m.cls := findClass_of_methodNamed B.named
  have hlocks := B.notSynchronized
  subst hsz
  have hD := hD0.self (sz := s.heap.size)
  generalize hAe : va_A [(x0, .inr (6, [.ref a0, .ref b0, .ref w0, .ref t0, .ref r0, .ref h0, .ref u0, .ref u1, .ref g0, .ref q0])), (a0, .inr (3, [.int a_n, .ref a1, .ref a2, .ref a3, .ref a4, .ref a5])), (a1, .inl (cI, 10, .inl a_L)), (a2, .inl (cI, 10, .inl a_U)), (a3, .inl (cI, 12, .inl a_H)), (a4, .inl (cI, 10, .inl a_O)), (a5, .inl (cI, 10, .inl a_B)), (q0, .inr (0, [.int q_nt, .int q_iv, .ref q1, .ref v0, .int q_fd, .ref q2, .ref q3, .ref q4, .ref q5])), (q1, .inl (cI, 10, .inl q_or)), (q2, .inl (cI, 10, .inl q_df)), (q3, .inl (cI, 1024, .inl q_se)), (q4, .inl (cI, 1024, .inl q_co)), (q5, .inl (cI, 1024, .inl q_ch)), (v0, .inr (3, [.int v_n, .ref v1, .ref v2, .ref v3, .ref v4, .ref v5])), (v1, .inl (cI, 10, .inl v_L)), (v2, .inl (cI, 10, .inl v_U)), (v3, .inl (cI, 12, .inl v_H)), (v4, .inl (cI, 10, .inl v_O)), (v5, .inl (cI, 10, .inl v_B))] s.heap.size = A at hD ⊢
  have hA : ∀ q : Nat, s.heap.size ≤ q → A q := fun q h => by rw [← hAe]; exact Or.inr h
  clear hAe hD0
  have hfl_10 := hts (.fieldLink RX6 10 "TermsFirst" "manual" "LTermsFirst$Manual;") (List.mem_cons_of_mem _ (List.mem_append_left _ (List.mem_append_left _ (List.mem_append_left _ (List.mem_append_left _ (List.mem_of_getElem? (i := 0) rfl))))))
  have hfl_64 := hts (.fieldLink RX6 64 "TermsFirst" "bestOrder" "LTermsFirst$BestOrder;") (List.mem_cons_of_mem _ (List.mem_append_left _ (List.mem_append_left _ (List.mem_append_left _ (List.mem_append_left _ (List.mem_of_getElem? (i := 1) rfl))))))
  have hfl_143 := hts (.fieldLink RX6 143 "TermsFirst$BestOrder" "order" "[I") (List.mem_cons_of_mem _ (List.mem_append_left _ (List.mem_append_left _ (List.mem_append_left _ (List.mem_append_left _ (List.mem_of_getElem? (i := 2) rfl))))))
  have hiX0 : ∀ w ∈ u_ws RX0 TX0 9, w ∈ wsX6_best := fun _ h => (List.mem_cons_of_mem _ (List.mem_append_left _ (List.mem_append_right _ h)))
  have hiX6 : ∀ w ∈ u_ws RX6 TX6 10, w ∈ wsX6_best := fun _ h => (List.mem_cons_of_mem _ (List.mem_append_left _ (List.mem_append_left _ (List.mem_append_right _ h))))
  have hl := lv_entry ([.ref x0, .int x1]) (n := 2) (Nat.le_of_ble_eq_true rfl)
  rw [lg_entry_eq]
  generalize (lg_sl ([.ref x0, .int x1]) ++ List.replicate (2 - (lg_sl ([.ref x0, .int x1])).length) Slot.unset).toArray = ls at hl ⊢
  have hl : lv_has ls 2 [(0, .ref x0), (1, .int x1)] := hl
  have hS : va_S A s.heap s.heap [] := va_S.rf
  unfold m_X6_best at hf
  refine lv_aload_n hx hb dX6_best_0 rfl (lv_at hl 0 rfl) ?_
  refine va_get (D := D) (ci := 6) (v := .ref a0) (C := RX6) (T := TX6) (N := 10) hx hb hts hiX6 hown hK.1 hP 0 rfl rfl 0 (by decide) hfl_10 (fun _ h9 => h9) rfl dX6_best_1 ?_
  refine lv_iload_n hx hb dX6_best_4 rfl (lv_at hl 1 rfl) ?_
  obtain ⟨rv1, hrv1, hf⟩ := bd hf
  refine roI (va_runV (As := [.int x1]) (rest := []) ⟨hx, hb, hml, hown, hts⟩ (c_X3_hasPlace l D cI cZ cM a0 a1 a2 a3 a4 a5 a_n a_L a_U a_H a_O a_B x1 rv1 hrv1) (cwV 1 hts gX6_best_X3_hasPlace rfl rfl rfl ⟨rfl, hdc_X3_hasPlace⟩ ⟨Nat.le_of_ble_eq_true rfl, Nat.le_of_ble_eq_true rfl⟩) (prV hK hP [1, 2, 3, 4, 5, 6] rfl (ci := 3) (q0 := 1) rfl rfl) rfl rfl hl.1 rfl (lv_room (Nat.le_of_ble_eq_true rfl)) dX6_best_5 ⟨Nat.zero_le _, Nat.zero_le _⟩) ?_
  refine lv_if_ne (tgt := 14) hx hb dX6_best_8 (by decide) (fun hc => ?_) (fun hc => ?_)
  · have hf := ifn hc hf
    refine lv_aload_n hx hb dX6_best_14 rfl (lv_at hl 0 rfl) ?_
    refine va_get (D := D) (ci := 6) (v := .ref q0) (C := RX6) (T := TX6) (N := 10) hx hb hts hiX6 hown hK.1 hP 0 rfl rfl 9 (by decide) hfl_64 (fun _ h9 => h9) rfl dX6_best_15 ?_
    refine lv_aload_n hx hb dX6_best_18 rfl (lv_at hl 0 rfl) ?_
    refine va_get (D := D) (ci := 6) (v := .ref a0) (C := RX6) (T := TX6) (N := 10) hx hb hts hiX6 hown hK.1 hP 0 rfl rfl 0 (by decide) hfl_10 (fun _ h9 => h9) rfl dX6_best_19 ?_
    obtain ⟨rv2, hrv2, hf⟩ := bd hf
    refine muV0 (wr := [(x0, .inr (6, [.ref a0, .ref b0, .ref w0, .ref t0, .ref r0, .ref h0, .ref u0, .ref u1, .ref g0, .ref q0]))]) (va_runV (As := [.ref a0]) (rest := []) ⟨hx, hb, hml, hown, hts⟩ (c_X0_find l D cI cZ cM q0 q1 q2 q3 q4 q5 v0 v1 v2 v3 v4 v5 a0 a1 a2 a3 a4 a5 _ q_nt q_iv q_fd q_or q_df q_se q_co q_ch v_n v_L v_U v_H v_O v_B a_n a_L a_U a_H a_O a_B fu rv2.1 rv2.2.1 rv2.2.2.1 rv2.2.2.2.1 rv2.2.2.2.2.1 rv2.2.2.2.2.2.1 rv2.2.2.2.2.2.2.1 rv2.2.2.2.2.2.2.2.1 rv2.2.2.2.2.2.2.2.2.1 rv2.2.2.2.2.2.2.2.2.2.1 rv2.2.2.2.2.2.2.2.2.2.2.1 rv2.2.2.2.2.2.2.2.2.2.2.2.1 rv2.2.2.2.2.2.2.2.2.2.2.2.2.1 rv2.2.2.2.2.2.2.2.2.2.2.2.2.2 hrv2) (cwV 1 hts gX6_best_X0_find rfl rfl rfl ⟨rfl, hdc_X0_find⟩ ⟨Nat.le_of_ble_eq_true rfl, Nat.le_of_ble_eq_true rfl⟩) (pmV hK hP hD [7, 8, 9, 10, 11, 12, 13, 14, 15, 16, 17, 18, 1, 2, 3, 4, 5, 6] (by decide) rfl rfl (ci := 0) (q0 := 7) rfl rfl) rfl rfl hl.1 rfl (lv_room (Nat.le_of_ble_eq_true rfl)) dX6_best_22 ⟨Nat.zero_le _, Nat.zero_le _⟩) hP hD hS hA [7, 8, 9, 10, 11, 12, 13, 14, 15, 16, 17, 18, 1, 2, 3, 4, 5, 6] [0] rfl rfl (by decide) (by decide) (fun H locs hP hD hS => ?_)
    have hP : va_P D vwCl [(x0, .inr (6, [.ref a0, .ref b0, .ref w0, .ref t0, .ref r0, .ref h0, .ref u0, .ref u1, .ref g0, .ref q0])), (q0, .inr (0, [.int rv2.1, .int rv2.2.1, .ref q1, .ref v0, .int rv2.2.2.1, .ref q2, .ref q3, .ref q4, .ref q5])), (q1, .inl (cI, 10, .inl rv2.2.2.2.1)), (q2, .inl (cI, 10, .inl rv2.2.2.2.2.1)), (q3, .inl (cI, 1024, .inl rv2.2.2.2.2.2.1)), (q4, .inl (cI, 1024, .inl rv2.2.2.2.2.2.2.1)), (q5, .inl (cI, 1024, .inl rv2.2.2.2.2.2.2.2.1)), (v0, .inr (3, [.int rv2.2.2.2.2.2.2.2.2.1, .ref v1, .ref v2, .ref v3, .ref v4, .ref v5])), (v1, .inl (cI, 10, .inl rv2.2.2.2.2.2.2.2.2.2.1)), (v2, .inl (cI, 10, .inl rv2.2.2.2.2.2.2.2.2.2.2.1)), (v3, .inl (cI, 12, .inl rv2.2.2.2.2.2.2.2.2.2.2.2.1)), (v4, .inl (cI, 10, .inl rv2.2.2.2.2.2.2.2.2.2.2.2.2.1)), (v5, .inl (cI, 10, .inl rv2.2.2.2.2.2.2.2.2.2.2.2.2.2)), (a0, .inr (3, [.int a_n, .ref a1, .ref a2, .ref a3, .ref a4, .ref a5])), (a1, .inl (cI, 10, .inl a_L)), (a2, .inl (cI, 10, .inl a_U)), (a3, .inl (cI, 12, .inl a_H)), (a4, .inl (cI, 10, .inl a_O)), (a5, .inl (cI, 10, .inl a_B))] H := hP
    have hD : va_D A [(x0, .inr (6, [.ref a0, .ref b0, .ref w0, .ref t0, .ref r0, .ref h0, .ref u0, .ref u1, .ref g0, .ref q0])), (q0, .inr (0, [.int rv2.1, .int rv2.2.1, .ref q1, .ref v0, .int rv2.2.2.1, .ref q2, .ref q3, .ref q4, .ref q5])), (q1, .inl (cI, 10, .inl rv2.2.2.2.1)), (q2, .inl (cI, 10, .inl rv2.2.2.2.2.1)), (q3, .inl (cI, 1024, .inl rv2.2.2.2.2.2.1)), (q4, .inl (cI, 1024, .inl rv2.2.2.2.2.2.2.1)), (q5, .inl (cI, 1024, .inl rv2.2.2.2.2.2.2.2.1)), (v0, .inr (3, [.int rv2.2.2.2.2.2.2.2.2.1, .ref v1, .ref v2, .ref v3, .ref v4, .ref v5])), (v1, .inl (cI, 10, .inl rv2.2.2.2.2.2.2.2.2.2.1)), (v2, .inl (cI, 10, .inl rv2.2.2.2.2.2.2.2.2.2.2.1)), (v3, .inl (cI, 12, .inl rv2.2.2.2.2.2.2.2.2.2.2.2.1)), (v4, .inl (cI, 10, .inl rv2.2.2.2.2.2.2.2.2.2.2.2.2.1)), (v5, .inl (cI, 10, .inl rv2.2.2.2.2.2.2.2.2.2.2.2.2.2)), (a0, .inr (3, [.int a_n, .ref a1, .ref a2, .ref a3, .ref a4, .ref a5])), (a1, .inl (cI, 10, .inl a_L)), (a2, .inl (cI, 10, .inl a_U)), (a3, .inl (cI, 12, .inl a_H)), (a4, .inl (cI, 10, .inl a_O)), (a5, .inl (cI, 10, .inl a_B))] := hD
    refine lv_aload_n hx hb dX6_best_25 rfl (lv_at hl 0 rfl) ?_
    refine va_get (D := D) (ci := 6) (v := .ref q0) (C := RX6) (T := TX6) (N := 10) hx hb hts hiX6 hown hK.1 hP 0 rfl rfl 9 (by decide) hfl_64 (fun _ h9 => h9) rfl dX6_best_26 ?_
    refine va_get (D := D) (ci := 0) (v := .ref q1) (C := RX0) (T := TX0) (N := 9) hx hb hts hiX0 hown hK.1 hP 1 rfl rfl 2 (by decide) hfl_143 (fun _ h9 => h9) rfl dX6_best_29 ?_
    refine lv_iload_n hx hb dX6_best_32 rfl (lv_at hl 1 rfl) ?_
    obtain ⟨hi, hf⟩ := gd_some hf
    refine va_iald hx hb hK.1 hP 2 0 rfl rfl hi dX6_best_33 ?_
    cases hf
    exact W.iret hx hb hr (fun t ht _ => ⟨⟨rfl, by rw [ht]; exact (hP.sub [0, 13, 14, 15, 16, 17, 18, 1, 2, 3, 4, 5, 6, 7, 8, 9, 10, 11, 12] rfl), (hD.sub [0, 13, 14, 15, 16, 17, 18, 1, 2, 3, 4, 5, 6, 7, 8, 9, 10, 11, 12] (by decide) rfl)⟩, hS.F ht⟩) hS.2.2 dX6_best_34
  · have hf := ifp hc hf
    refine lv_bipush (v := (-2 : Int32)) hx hb dX6_best_11 bp_m2 ?_
    cases hf
    exact W.iret hx hb hr (fun t ht _ => ⟨⟨rfl, by rw [ht]; exact hP, hD⟩, hS.F ht⟩) hS.2.2 dX6_best_13
theorem hdc_X6_least : yX6_least.cls ≠ "java/lang/invoke/MethodHandle" ∧ yX6_least.cls ≠ "java/lang/invoke/VarHandle" ∧ (parseMethodDescriptor yX6_least.desc).map (fun d => d.parameters.length) = some 1 := by decide +kernel
set_option maxHeartbeats 4000000 in
set_option maxRecDepth 100000 in
theorem c_X6_least (l : Launch) (D : va_G) (cI cZ cM : ClassId) (x0 a0 a1 a2 a3 a4 a5 q0 q1 q2 q3 q4 q5 v0 v1 v2 v3 v4 v5 b0 w0 t0 r0 h0 u0 u1 g0 : Nat) (sz : Nat) (a_n : Int32) (a_L : Nat → Int32) (a_U : Nat → Int32) (a_H : Nat → Int32) (a_O : Nat → Int32) (a_B : Nat → Int32) (q_nt : Int32) (q_iv : Int32) (q_fd : Int32) (q_or : Nat → Int32) (q_df : Nat → Int32) (q_se : Nat → Int32) (q_co : Nat → Int32) (q_ch : Nat → Int32) (v_n : Int32) (v_L : Nat → Int32) (v_U : Nat → Int32) (v_H : Nat → Int32) (v_O : Nat → Int32) (v_B : Nat → Int32) (x1 : Int32) (fu : Nat) (r : Int32) (q_nt' : Int32) (q_iv' : Int32) (q_fd' : Int32) (q_or' : Nat → Int32) (q_df' : Nat → Int32) (q_se' : Nat → Int32) (q_co' : Nat → Int32) (q_ch' : Nat → Int32) (v_n' : Int32) (v_L' : Nat → Int32) (v_U' : Nat → Int32) (v_H' : Nat → Int32) (v_O' : Nat → Int32) (v_B' : Nat → Int32) (hf : m_X6_least fu a_n a_L a_U a_H a_O a_B q_nt q_iv q_fd q_or q_df q_se q_co q_ch v_n v_L v_U v_H v_O v_B x1 = some (r, q_nt', q_iv', q_fd', q_or', q_df', q_se', q_co', q_ch', v_n', v_L', v_U', v_H', v_O', v_B')) : Met l yX6_least wsX6_least ({ frames := 4, cells := 0, slots := 0, locals := 93 }) (pM D cI cZ cM sz [(x0, .inr (6, [.ref a0, .ref b0, .ref w0, .ref t0, .ref r0, .ref h0, .ref u0, .ref u1, .ref g0, .ref q0])), (a0, .inr (3, [.int a_n, .ref a1, .ref a2, .ref a3, .ref a4, .ref a5])), (a1, .inl (cI, 10, .inl a_L)), (a2, .inl (cI, 10, .inl a_U)), (a3, .inl (cI, 12, .inl a_H)), (a4, .inl (cI, 10, .inl a_O)), (a5, .inl (cI, 10, .inl a_B)), (q0, .inr (0, [.int q_nt, .int q_iv, .ref q1, .ref v0, .int q_fd, .ref q2, .ref q3, .ref q4, .ref q5])), (q1, .inl (cI, 10, .inl q_or)), (q2, .inl (cI, 10, .inl q_df)), (q3, .inl (cI, 1024, .inl q_se)), (q4, .inl (cI, 1024, .inl q_co)), (q5, .inl (cI, 1024, .inl q_ch)), (v0, .inr (3, [.int v_n, .ref v1, .ref v2, .ref v3, .ref v4, .ref v5])), (v1, .inl (cI, 10, .inl v_L)), (v2, .inl (cI, 10, .inl v_U)), (v3, .inl (cI, 12, .inl v_H)), (v4, .inl (cI, 10, .inl v_O)), (v5, .inl (cI, 10, .inl v_B))] [.ref x0, .int x1]) (qI D r [(x0, .inr (6, [.ref a0, .ref b0, .ref w0, .ref t0, .ref r0, .ref h0, .ref u0, .ref u1, .ref g0, .ref q0])), (a0, .inr (3, [.int a_n, .ref a1, .ref a2, .ref a3, .ref a4, .ref a5])), (a1, .inl (cI, 10, .inl a_L)), (a2, .inl (cI, 10, .inl a_U)), (a3, .inl (cI, 12, .inl a_H)), (a4, .inl (cI, 10, .inl a_O)), (a5, .inl (cI, 10, .inl a_B)), (q0, .inr (0, [.int q_nt', .int q_iv', .ref q1, .ref v0, .int q_fd', .ref q2, .ref q3, .ref q4, .ref q5])), (q1, .inl (cI, 10, .inl q_or')), (q2, .inl (cI, 10, .inl q_df')), (q3, .inl (cI, 1024, .inl q_se')), (q4, .inl (cI, 1024, .inl q_co')), (q5, .inl (cI, 1024, .inl q_ch')), (v0, .inr (3, [.int v_n', .ref v1, .ref v2, .ref v3, .ref v4, .ref v5])), (v1, .inl (cI, 10, .inl v_L')), (v2, .inl (cI, 10, .inl v_U')), (v3, .inl (cI, 12, .inl v_H')), (v4, .inl (cI, 10, .inl v_O')), (v5, .inl (cI, 10, .inl v_B'))] (va_A [(x0, .inr (6, [.ref a0, .ref b0, .ref w0, .ref t0, .ref r0, .ref h0, .ref u0, .ref u1, .ref g0, .ref q0])), (a0, .inr (3, [.int a_n, .ref a1, .ref a2, .ref a3, .ref a4, .ref a5])), (a1, .inl (cI, 10, .inl a_L)), (a2, .inl (cI, 10, .inl a_U)), (a3, .inl (cI, 12, .inl a_H)), (a4, .inl (cI, 10, .inl a_O)), (a5, .inl (cI, 10, .inl a_B)), (q0, .inr (0, [.int q_nt, .int q_iv, .ref q1, .ref v0, .int q_fd, .ref q2, .ref q3, .ref q4, .ref q5])), (q1, .inl (cI, 10, .inl q_or)), (q2, .inl (cI, 10, .inl q_df)), (q3, .inl (cI, 1024, .inl q_se)), (q4, .inl (cI, 1024, .inl q_co)), (q5, .inl (cI, 1024, .inl q_ch)), (v0, .inr (3, [.int v_n, .ref v1, .ref v2, .ref v3, .ref v4, .ref v5])), (v1, .inl (cI, 10, .inl v_L)), (v2, .inl (cI, 10, .inl v_U)), (v3, .inl (cI, 12, .inl v_H)), (v4, .inl (cI, 10, .inl v_O)), (v5, .inl (cI, 10, .inl v_B))] sz)) 0 0 (va_A [(x0, .inr (6, [.ref a0, .ref b0, .ref w0, .ref t0, .ref r0, .ref h0, .ref u0, .ref u1, .ref g0, .ref q0])), (a0, .inr (3, [.int a_n, .ref a1, .ref a2, .ref a3, .ref a4, .ref a5])), (a1, .inl (cI, 10, .inl a_L)), (a2, .inl (cI, 10, .inl a_U)), (a3, .inl (cI, 12, .inl a_H)), (a4, .inl (cI, 10, .inl a_O)), (a5, .inl (cI, 10, .inl a_B)), (q0, .inr (0, [.int q_nt, .int q_iv, .ref q1, .ref v0, .int q_fd, .ref q2, .ref q3, .ref q4, .ref q5])), (q1, .inl (cI, 10, .inl q_or)), (q2, .inl (cI, 10, .inl q_df)), (q3, .inl (cI, 1024, .inl q_se)), (q4, .inl (cI, 1024, .inl q_co)), (q5, .inl (cI, 1024, .inl q_ch)), (v0, .inr (3, [.int v_n, .ref v1, .ref v2, .ref v3, .ref v4, .ref v5])), (v1, .inl (cI, 10, .inl v_L)), (v2, .inl (cI, 10, .inl v_U)), (v3, .inl (cI, 12, .inl v_H)), (v4, .inl (cI, 10, .inl v_O)), (v5, .inl (cI, 10, .inl v_B))] sz) := by
  refine Met.ofW (cc := cX6_least) (maxL := 2) (ret := (some .int)) (by decide) rfl ?_
  intro p e s m args below meth c s₁ B hml hv
  obtain ⟨rfl, hsz, hP, hK, hD0⟩ := hv
  have hx := B.exec
  have hb := B.bytes
  have hr := B.returns
  have hts := atoms_spec (ws := wsX6_least) B.pre
  have hown : s.vm.findClass RX6 = some m.cls := findClass_of_methodNamed B.named
  have hlocks := B.notSynchronized
  subst hsz
  have hD := hD0.self (sz := s.heap.size)
  generalize hAe : va_A [(x0, .inr (6, [.ref a0, .ref b0, .ref w0, .ref t0, .ref r0, .ref h0, .ref u0, .ref u1, .ref g0, .ref q0])), (a0, .inr (3, [.int a_n, .ref a1, .ref a2, .ref a3, .ref a4, .ref a5])), (a1, .inl (cI, 10, .inl a_L)), (a2, .inl (cI, 10, .inl a_U)), (a3, .inl (cI, 12, .inl a_H)), (a4, .inl (cI, 10, .inl a_O)), (a5, .inl (cI, 10, .inl a_B)), (q0, .inr (0, [.int q_nt, .int q_iv, .ref q1, .ref v0, .int q_fd, .ref q2, .ref q3, .ref q4, .ref q5])), (q1, .inl (cI, 10, .inl q_or)), (q2, .inl (cI, 10, .inl q_df)), (q3, .inl (cI, 1024, .inl q_se)), (q4, .inl (cI, 1024, .inl q_co)), (q5, .inl (cI, 1024, .inl q_ch)), (v0, .inr (3, [.int v_n, .ref v1, .ref v2, .ref v3, .ref v4, .ref v5])), (v1, .inl (cI, 10, .inl v_L)), (v2, .inl (cI, 10, .inl v_U)), (v3, .inl (cI, 12, .inl v_H)), (v4, .inl (cI, 10, .inl v_O)), (v5, .inl (cI, 10, .inl v_B))] s.heap.size = A at hD ⊢
  have hA : ∀ q : Nat, s.heap.size ≤ q → A q := fun q h => by rw [← hAe]; exact Or.inr h
  clear hAe hD0
  have hfl_10 := hts (.fieldLink RX6 10 "TermsFirst" "manual" "LTermsFirst$Manual;") (List.mem_cons_of_mem _ (List.mem_append_left _ (List.mem_append_left _ (List.mem_append_left _ (List.mem_append_left _ (List.mem_of_getElem? (i := 1) rfl))))))
  have hfl_64 := hts (.fieldLink RX6 64 "TermsFirst" "bestOrder" "LTermsFirst$BestOrder;") (List.mem_cons_of_mem _ (List.mem_append_left _ (List.mem_append_left _ (List.mem_append_left _ (List.mem_append_left _ (List.mem_of_getElem? (i := 0) rfl))))))
  have hfl_143 := hts (.fieldLink RX6 143 "TermsFirst$BestOrder" "order" "[I") (List.mem_cons_of_mem _ (List.mem_append_left _ (List.mem_append_left _ (List.mem_append_left _ (List.mem_append_left _ (List.mem_of_getElem? (i := 2) rfl))))))
  have hfl_146 := hts (.fieldLink RX6 146 "TermsFirst$BestOrder" "inversions" "I") (List.mem_cons_of_mem _ (List.mem_append_left _ (List.mem_append_left _ (List.mem_append_left _ (List.mem_append_left _ (List.mem_of_getElem? (i := 4) rfl))))))
  have hfl_210 := hts (.fieldLink RX6 210 "TermsFirst$BestOrder" "notes" "I") (List.mem_cons_of_mem _ (List.mem_append_left _ (List.mem_append_left _ (List.mem_append_left _ (List.mem_append_left _ (List.mem_of_getElem? (i := 3) rfl))))))
  have hiX0 : ∀ w ∈ u_ws RX0 TX0 9, w ∈ wsX6_least := fun _ h => (List.mem_cons_of_mem _ (List.mem_append_left _ (List.mem_append_right _ h)))
  have hiX6 : ∀ w ∈ u_ws RX6 TX6 10, w ∈ wsX6_least := fun _ h => (List.mem_cons_of_mem _ (List.mem_append_left _ (List.mem_append_left _ (List.mem_append_right _ h))))
  have hl := lv_entry ([.ref x0, .int x1]) (n := 2) (Nat.le_of_ble_eq_true rfl)
  rw [lg_entry_eq]
  generalize (lg_sl ([.ref x0, .int x1]) ++ List.replicate (2 - (lg_sl ([.ref x0, .int x1])).length) Slot.unset).toArray = ls at hl ⊢
  have hl : lv_has ls 2 [(0, .ref x0), (1, .int x1)] := hl
  have hS : va_S A s.heap s.heap [] := va_S.rf
  unfold m_X6_least at hf
  refine lv_iload_n hx hb dX6_least_0 rfl (lv_at hl 1 rfl) ?_
  refine lv_if_lt (tgt := 9) hx hb dX6_least_1 (by decide) (fun hc => ?_) (fun hc => ?_)
  · have hf := ifp hc hf
    refine lv_bipush (v := (-3 : Int32)) hx hb dX6_least_9 bp_m3 ?_
    cases hf
    exact W.iret hx hb hr (fun t ht _ => ⟨⟨rfl, by rw [ht]; exact hP, hD⟩, hS.F ht⟩) hS.2.2 dX6_least_11
  · have hf := ifn hc hf
    refine lv_iload_n hx hb dX6_least_4 rfl (lv_at hl 1 rfl) ?_
    refine lv_iconst (v := (nI 3)) hx hb dX6_least_5 ic_3 ?_
    refine lv_icmp_le (tgt := 12) hx hb dX6_least_6 (by decide) (fun hc => ?_) (fun hc => ?_)
    · have hf := ifp hc hf
      refine lv_aload_n hx hb dX6_least_12 rfl (lv_at hl 0 rfl) ?_
      refine va_get (D := D) (ci := 6) (v := .ref q0) (C := RX6) (T := TX6) (N := 10) hx hb hts hiX6 hown hK.1 hP 0 rfl rfl 9 (by decide) hfl_64 (fun _ h9 => h9) rfl dX6_least_13 ?_
      refine lv_aload_n hx hb dX6_least_16 rfl (lv_at hl 0 rfl) ?_
      refine va_get (D := D) (ci := 6) (v := .ref a0) (C := RX6) (T := TX6) (N := 10) hx hb hts hiX6 hown hK.1 hP 0 rfl rfl 0 (by decide) hfl_10 (fun _ h9 => h9) rfl dX6_least_17 ?_
      obtain ⟨rv1, hrv1, hf⟩ := bd hf
      refine muV0 (wr := [(x0, .inr (6, [.ref a0, .ref b0, .ref w0, .ref t0, .ref r0, .ref h0, .ref u0, .ref u1, .ref g0, .ref q0]))]) (va_runV (As := [.ref a0]) (rest := []) ⟨hx, hb, hml, hown, hts⟩ (c_X0_find l D cI cZ cM q0 q1 q2 q3 q4 q5 v0 v1 v2 v3 v4 v5 a0 a1 a2 a3 a4 a5 _ q_nt q_iv q_fd q_or q_df q_se q_co q_ch v_n v_L v_U v_H v_O v_B a_n a_L a_U a_H a_O a_B fu rv1.1 rv1.2.1 rv1.2.2.1 rv1.2.2.2.1 rv1.2.2.2.2.1 rv1.2.2.2.2.2.1 rv1.2.2.2.2.2.2.1 rv1.2.2.2.2.2.2.2.1 rv1.2.2.2.2.2.2.2.2.1 rv1.2.2.2.2.2.2.2.2.2.1 rv1.2.2.2.2.2.2.2.2.2.2.1 rv1.2.2.2.2.2.2.2.2.2.2.2.1 rv1.2.2.2.2.2.2.2.2.2.2.2.2.1 rv1.2.2.2.2.2.2.2.2.2.2.2.2.2 hrv1) (cwV 1 hts gX6_least_X0_find rfl rfl rfl ⟨rfl, hdc_X0_find⟩ ⟨Nat.le_of_ble_eq_true rfl, Nat.le_of_ble_eq_true rfl⟩) (pmV hK hP hD [7, 8, 9, 10, 11, 12, 13, 14, 15, 16, 17, 18, 1, 2, 3, 4, 5, 6] (by decide) rfl rfl (ci := 0) (q0 := 7) rfl rfl) rfl rfl hl.1 rfl (lv_room (Nat.le_of_ble_eq_true rfl)) dX6_least_20 ⟨Nat.zero_le _, Nat.zero_le _⟩) hP hD hS hA [7, 8, 9, 10, 11, 12, 13, 14, 15, 16, 17, 18, 1, 2, 3, 4, 5, 6] [0] rfl rfl (by decide) (by decide) (fun H locs hP hD hS => ?_)
      have hP : va_P D vwCl [(x0, .inr (6, [.ref a0, .ref b0, .ref w0, .ref t0, .ref r0, .ref h0, .ref u0, .ref u1, .ref g0, .ref q0])), (q0, .inr (0, [.int rv1.1, .int rv1.2.1, .ref q1, .ref v0, .int rv1.2.2.1, .ref q2, .ref q3, .ref q4, .ref q5])), (q1, .inl (cI, 10, .inl rv1.2.2.2.1)), (q2, .inl (cI, 10, .inl rv1.2.2.2.2.1)), (q3, .inl (cI, 1024, .inl rv1.2.2.2.2.2.1)), (q4, .inl (cI, 1024, .inl rv1.2.2.2.2.2.2.1)), (q5, .inl (cI, 1024, .inl rv1.2.2.2.2.2.2.2.1)), (v0, .inr (3, [.int rv1.2.2.2.2.2.2.2.2.1, .ref v1, .ref v2, .ref v3, .ref v4, .ref v5])), (v1, .inl (cI, 10, .inl rv1.2.2.2.2.2.2.2.2.2.1)), (v2, .inl (cI, 10, .inl rv1.2.2.2.2.2.2.2.2.2.2.1)), (v3, .inl (cI, 12, .inl rv1.2.2.2.2.2.2.2.2.2.2.2.1)), (v4, .inl (cI, 10, .inl rv1.2.2.2.2.2.2.2.2.2.2.2.2.1)), (v5, .inl (cI, 10, .inl rv1.2.2.2.2.2.2.2.2.2.2.2.2.2)), (a0, .inr (3, [.int a_n, .ref a1, .ref a2, .ref a3, .ref a4, .ref a5])), (a1, .inl (cI, 10, .inl a_L)), (a2, .inl (cI, 10, .inl a_U)), (a3, .inl (cI, 12, .inl a_H)), (a4, .inl (cI, 10, .inl a_O)), (a5, .inl (cI, 10, .inl a_B))] H := hP
      have hD : va_D A [(x0, .inr (6, [.ref a0, .ref b0, .ref w0, .ref t0, .ref r0, .ref h0, .ref u0, .ref u1, .ref g0, .ref q0])), (q0, .inr (0, [.int rv1.1, .int rv1.2.1, .ref q1, .ref v0, .int rv1.2.2.1, .ref q2, .ref q3, .ref q4, .ref q5])), (q1, .inl (cI, 10, .inl rv1.2.2.2.1)), (q2, .inl (cI, 10, .inl rv1.2.2.2.2.1)), (q3, .inl (cI, 1024, .inl rv1.2.2.2.2.2.1)), (q4, .inl (cI, 1024, .inl rv1.2.2.2.2.2.2.1)), (q5, .inl (cI, 1024, .inl rv1.2.2.2.2.2.2.2.1)), (v0, .inr (3, [.int rv1.2.2.2.2.2.2.2.2.1, .ref v1, .ref v2, .ref v3, .ref v4, .ref v5])), (v1, .inl (cI, 10, .inl rv1.2.2.2.2.2.2.2.2.2.1)), (v2, .inl (cI, 10, .inl rv1.2.2.2.2.2.2.2.2.2.2.1)), (v3, .inl (cI, 12, .inl rv1.2.2.2.2.2.2.2.2.2.2.2.1)), (v4, .inl (cI, 10, .inl rv1.2.2.2.2.2.2.2.2.2.2.2.2.1)), (v5, .inl (cI, 10, .inl rv1.2.2.2.2.2.2.2.2.2.2.2.2.2)), (a0, .inr (3, [.int a_n, .ref a1, .ref a2, .ref a3, .ref a4, .ref a5])), (a1, .inl (cI, 10, .inl a_L)), (a2, .inl (cI, 10, .inl a_U)), (a3, .inl (cI, 12, .inl a_H)), (a4, .inl (cI, 10, .inl a_O)), (a5, .inl (cI, 10, .inl a_B))] := hD
      refine lv_iload_n hx hb dX6_least_23 rfl (lv_at hl 1 rfl) ?_
      by_cases hk0 : x1 = (nI 0)
      · have hf := ifp hk0 hf
        refine lv_tableIn (off := 28) (tgt := 52) hx hb dX6_least_24 (by rw [hk0]; decide +kernel) (by rw [hk0]; decide +kernel) (by rw [hk0]; decide +kernel) (by decide) ?_
        refine lv_aload_n hx hb dX6_least_52 rfl (lv_at hl 0 rfl) ?_
        refine va_get (D := D) (ci := 6) (v := .ref a0) (C := RX6) (T := TX6) (N := 10) hx hb hts hiX6 hown hK.1 hP 0 rfl rfl 0 (by decide) hfl_10 (fun _ h9 => h9) rfl dX6_least_53 ?_
        refine lv_aload_n hx hb dX6_least_56 rfl (lv_at hl 0 rfl) ?_
        refine va_get (D := D) (ci := 6) (v := .ref q0) (C := RX6) (T := TX6) (N := 10) hx hb hts hiX6 hown hK.1 hP 0 rfl rfl 9 (by decide) hfl_64 (fun _ h9 => h9) rfl dX6_least_57 ?_
        refine va_get (D := D) (ci := 0) (v := .ref q1) (C := RX0) (T := TX0) (N := 9) hx hb hts hiX0 hown hK.1 hP 1 rfl rfl 2 (by decide) hfl_143 (fun _ h9 => h9) rfl dX6_least_60 ?_
        obtain ⟨rv2, hrv2, hf⟩ := bd hf
        refine roI (va_runV (As := [.ref q1]) (rest := []) ⟨hx, hb, hml, hown, hts⟩ (c_X3_notedTerms l D cI cZ cM a0 a1 a2 a3 a4 a5 q1 a_n a_L a_U a_H a_O a_B rv1.2.2.2.1 fu rv2 hrv2) (cwV 1 hts gX6_least_X3_notedTerms rfl rfl rfl ⟨rfl, hdc_X3_notedTerms⟩ ⟨Nat.le_of_ble_eq_true rfl, Nat.le_of_ble_eq_true rfl⟩) (prV hK hP [13, 14, 15, 16, 17, 18, 2] rfl (ci := 3) (q0 := 13) rfl rfl) rfl rfl hl.1 rfl (lv_room (Nat.le_of_ble_eq_true rfl)) dX6_least_63 ⟨Nat.zero_le _, Nat.zero_le _⟩) ?_
        cases hf
        exact W.iret hx hb hr (fun t ht _ => ⟨⟨rfl, by rw [ht]; exact (hP.sub [0, 13, 14, 15, 16, 17, 18, 1, 2, 3, 4, 5, 6, 7, 8, 9, 10, 11, 12] rfl), (hD.sub [0, 13, 14, 15, 16, 17, 18, 1, 2, 3, 4, 5, 6, 7, 8, 9, 10, 11, 12] (by decide) rfl)⟩, hS.F ht⟩) hS.2.2 dX6_least_66
      · have hf := ifn hk0 hf
        by_cases hk1 : x1 = (nI 1)
        · have hf := ifp hk1 hf
          refine lv_tableIn (off := 43) (tgt := 67) hx hb dX6_least_24 (by rw [hk1]; decide +kernel) (by rw [hk1]; decide +kernel) (by rw [hk1]; decide +kernel) (by decide) ?_
          refine lv_aload_n hx hb dX6_least_67 rfl (lv_at hl 0 rfl) ?_
          refine va_get (D := D) (ci := 6) (v := .ref q0) (C := RX6) (T := TX6) (N := 10) hx hb hts hiX6 hown hK.1 hP 0 rfl rfl 9 (by decide) hfl_64 (fun _ h9 => h9) rfl dX6_least_68 ?_
          refine va_get (D := D) (ci := 0) (v := .int rv1.1) (C := RX0) (T := TX0) (N := 9) hx hb hts hiX0 hown hK.1 hP 1 rfl rfl 0 (by decide) hfl_210 (fun _ h9 => h9) rfl dX6_least_71 ?_
          cases hf
          exact W.iret hx hb hr (fun t ht _ => ⟨⟨rfl, by rw [ht]; exact (hP.sub [0, 13, 14, 15, 16, 17, 18, 1, 2, 3, 4, 5, 6, 7, 8, 9, 10, 11, 12] rfl), (hD.sub [0, 13, 14, 15, 16, 17, 18, 1, 2, 3, 4, 5, 6, 7, 8, 9, 10, 11, 12] (by decide) rfl)⟩, hS.F ht⟩) hS.2.2 dX6_least_74
        · have hf := ifn hk1 hf
          by_cases hk2 : x1 = (nI 2)
          · have hf := ifp hk2 hf
            refine lv_tableIn (off := 51) (tgt := 75) hx hb dX6_least_24 (by rw [hk2]; decide +kernel) (by rw [hk2]; decide +kernel) (by rw [hk2]; decide +kernel) (by decide) ?_
            refine lv_aload_n hx hb dX6_least_75 rfl (lv_at hl 0 rfl) ?_
            refine va_get (D := D) (ci := 6) (v := .ref q0) (C := RX6) (T := TX6) (N := 10) hx hb hts hiX6 hown hK.1 hP 0 rfl rfl 9 (by decide) hfl_64 (fun _ h9 => h9) rfl dX6_least_76 ?_
            refine va_get (D := D) (ci := 0) (v := .int rv1.2.1) (C := RX0) (T := TX0) (N := 9) hx hb hts hiX0 hown hK.1 hP 1 rfl rfl 1 (by decide) hfl_146 (fun _ h9 => h9) rfl dX6_least_79 ?_
            cases hf
            exact W.iret hx hb hr (fun t ht _ => ⟨⟨rfl, by rw [ht]; exact (hP.sub [0, 13, 14, 15, 16, 17, 18, 1, 2, 3, 4, 5, 6, 7, 8, 9, 10, 11, 12] rfl), (hD.sub [0, 13, 14, 15, 16, 17, 18, 1, 2, 3, 4, 5, 6, 7, 8, 9, 10, 11, 12] (by decide) rfl)⟩, hS.F ht⟩) hS.2.2 dX6_least_82
          · have hf := ifn hk2 hf
            refine lv_tableOut (tgt := 83) hx hb dX6_least_24 (tsOut (fun k h1 _ => by rcases (show k = 0 ∨ k = 1 ∨ k = 2 by omega) with rfl | rfl | rfl <;> assumption)) (by decide) ?_
            refine lv_aload_n hx hb dX6_least_83 rfl (lv_at hl 0 rfl) ?_
            refine va_get (D := D) (ci := 6) (v := .ref a0) (C := RX6) (T := TX6) (N := 10) hx hb hts hiX6 hown hK.1 hP 0 rfl rfl 0 (by decide) hfl_10 (fun _ h9 => h9) rfl dX6_least_84 ?_
            refine lv_aload_n hx hb dX6_least_87 rfl (lv_at hl 0 rfl) ?_
            refine va_get (D := D) (ci := 6) (v := .ref q0) (C := RX6) (T := TX6) (N := 10) hx hb hts hiX6 hown hK.1 hP 0 rfl rfl 9 (by decide) hfl_64 (fun _ h9 => h9) rfl dX6_least_88 ?_
            refine va_get (D := D) (ci := 0) (v := .ref q1) (C := RX0) (T := TX0) (N := 9) hx hb hts hiX0 hown hK.1 hP 1 rfl rfl 2 (by decide) hfl_143 (fun _ h9 => h9) rfl dX6_least_91 ?_
            obtain ⟨rv3, hrv3, hf⟩ := bd hf
            refine roI (va_runV (As := [.ref q1]) (rest := []) ⟨hx, hb, hml, hown, hts⟩ (c_X3_sumNoteLengths l D cI cZ cM a0 a1 a2 a3 a4 a5 q1 a_n a_L a_U a_H a_O a_B rv1.2.2.2.1 fu rv3 hrv3) (cwV 1 hts gX6_least_X3_sumNoteLengths rfl rfl rfl ⟨rfl, hdc_X3_sumNoteLengths⟩ ⟨Nat.le_of_ble_eq_true rfl, Nat.le_of_ble_eq_true rfl⟩) (prV hK hP [13, 14, 15, 16, 17, 18, 2] rfl (ci := 3) (q0 := 13) rfl rfl) rfl rfl hl.1 rfl (lv_room (Nat.le_of_ble_eq_true rfl)) dX6_least_94 ⟨Nat.zero_le _, Nat.zero_le _⟩) ?_
            cases hf
            exact W.iret hx hb hr (fun t ht _ => ⟨⟨rfl, by rw [ht]; exact (hP.sub [0, 13, 14, 15, 16, 17, 18, 1, 2, 3, 4, 5, 6, 7, 8, 9, 10, 11, 12] rfl), (hD.sub [0, 13, 14, 15, 16, 17, 18, 1, 2, 3, 4, 5, 6, 7, 8, 9, 10, 11, 12] (by decide) rfl)⟩, hS.F ht⟩) hS.2.2 dX6_least_97
    · have hf := ifn hc hf
      refine lv_bipush (v := (-3 : Int32)) hx hb dX6_least_9 bp_m3 ?_
      cases hf
      exact W.iret hx hb hr (fun t ht _ => ⟨⟨rfl, by rw [ht]; exact hP, hD⟩, hS.F ht⟩) hS.2.2 dX6_least_11
