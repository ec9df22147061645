theorem hdc_X6_would : yX6_would.cls ≠ "java/lang/invoke/MethodHandle" ∧ yX6_would.cls ≠ "java/lang/invoke/VarHandle" ∧ (parseMethodDescriptor yX6_would.desc).map (fun d => d.parameters.length) = some 2 := by decide +kernel
set_option maxHeartbeats 4000000 in
set_option maxRecDepth 100000 in
theorem c_X6_would (l : Launch) (D : va_G) (cI cZ cM : ClassId) (x0 a0 a1 a2 a3 a4 a5 b0 b1 b2 b3 b4 b5 q0 q1 q2 q3 q4 q5 v0 v1 v2 v3 v4 v5 w0 t0 r0 h0 u0 u1 g0 : Nat) (sz : Nat) (a_n : Int32) (a_L : Nat → Int32) (a_U : Nat → Int32) (a_H : Nat → Int32) (a_O : Nat → Int32) (a_B : Nat → Int32) (b_n : Int32) (b_L : Nat → Int32) (b_U : Nat → Int32) (b_H : Nat → Int32) (b_O : Nat → Int32) (b_B : Nat → Int32) (q_nt : Int32) (q_iv : Int32) (q_fd : Int32) (q_or : Nat → Int32) (q_df : Nat → Int32) (q_se : Nat → Int32) (q_co : Nat → Int32) (q_ch : Nat → Int32) (v_n : Int32) (v_L : Nat → Int32) (v_U : Nat → Int32) (v_H : Nat → Int32) (v_O : Nat → Int32) (v_B : Nat → Int32) (x1 : Int32) (x2 : Int32) (fu : Nat) (r : Int32) (b_n' : Int32) (b_L' : Nat → Int32) (b_U' : Nat → Int32) (b_H' : Nat → Int32) (b_O' : Nat → Int32) (b_B' : Nat → Int32) (q_nt' : Int32) (q_iv' : Int32) (q_fd' : Int32) (q_or' : Nat → Int32) (q_df' : Nat → Int32) (q_se' : Nat → Int32) (q_co' : Nat → Int32) (q_ch' : Nat → Int32) (v_n' : Int32) (v_L' : Nat → Int32) (v_U' : Nat → Int32) (v_H' : Nat → Int32) (v_O' : Nat → Int32) (v_B' : Nat → Int32) (hf : m_X6_would fu a_n a_L a_U a_H a_O a_B b_n b_L b_U b_H b_O b_B q_nt q_iv q_fd q_or q_df q_se q_co q_ch v_n v_L v_U v_H v_O v_B x1 x2 = some (r, b_n', b_L', b_U', b_H', b_O', b_B', q_nt', q_iv', q_fd', q_or', q_df', q_se', q_co', q_ch', v_n', v_L', v_U', v_H', v_O', v_B')) : Met l yX6_would wsX6_would ({ frames := 4, cells := 0, slots := 0, locals := 93 }) (pM D cI cZ cM sz [(x0, .inr (6, [.ref a0, .ref b0, .ref w0, .ref t0, .ref r0, .ref h0, .ref u0, .ref u1, .ref g0, .ref q0])), (a0, .inr (3, [.int a_n, .ref a1, .ref a2, .ref a3, .ref a4, .ref a5])), (a1, .inl (cI, 10, .inl a_L)), (a2, .inl (cI, 10, .inl a_U)), (a3, .inl (cI, 12, .inl a_H)), (a4, .inl (cI, 10, .inl a_O)), (a5, .inl (cI, 10, .inl a_B)), (b0, .inr (3, [.int b_n, .ref b1, .ref b2, .ref b3, .ref b4, .ref b5])), (b1, .inl (cI, 10, .inl b_L)), (b2, .inl (cI, 10, .inl b_U)), (b3, .inl (cI, 12, .inl b_H)), (b4, .inl (cI, 10, .inl b_O)), (b5, .inl (cI, 10, .inl b_B)), (q0, .inr (0, [.int q_nt, .int q_iv, .ref q1, .ref v0, .int q_fd, .ref q2, .ref q3, .ref q4, .ref q5])), (q1, .inl (cI, 10, .inl q_or)), (q2, .inl (cI, 10, .inl q_df)), (q3, .inl (cI, 1024, .inl q_se)), (q4, .inl (cI, 1024, .inl q_co)), (q5, .inl (cI, 1024, .inl q_ch)), (v0, .inr (3, [.int v_n, .ref v1, .ref v2, .ref v3, .ref v4, .ref v5])), (v1, .inl (cI, 10, .inl v_L)), (v2, .inl (cI, 10, .inl v_U)), (v3, .inl (cI, 12, .inl v_H)), (v4, .inl (cI, 10, .inl v_O)), (v5, .inl (cI, 10, .inl v_B))] [.ref x0, .int x1, .int x2]) (qI D r [(x0, .inr (6, [.ref a0, .ref b0, .ref w0, .ref t0, .ref r0, .ref h0, .ref u0, .ref u1, .ref g0, .ref q0])), (a0, .inr (3, [.int a_n, .ref a1, .ref a2, .ref a3, .ref a4, .ref a5])), (a1, .inl (cI, 10, .inl a_L)), (a2, .inl (cI, 10, .inl a_U)), (a3, .inl (cI, 12, .inl a_H)), (a4, .inl (cI, 10, .inl a_O)), (a5, .inl (cI, 10, .inl a_B)), (b0, .inr (3, [.int b_n', .ref b1, .ref b2, .ref b3, .ref b4, .ref b5])), (b1, .inl (cI, 10, .inl b_L')), (b2, .inl (cI, 10, .inl b_U')), (b3, .inl (cI, 12, .inl b_H')), (b4, .inl (cI, 10, .inl b_O')), (b5, .inl (cI, 10, .inl b_B')), (q0, .inr (0, [.int q_nt', .int q_iv', .ref q1, .ref v0, .int q_fd', .ref q2, .ref q3, .ref q4, .ref q5])), (q1, .inl (cI, 10, .inl q_or')), (q2, .inl (cI, 10, .inl q_df')), (q3, .inl (cI, 1024, .inl q_se')), (q4, .inl (cI, 1024, .inl q_co')), (q5, .inl (cI, 1024, .inl q_ch')), (v0, .inr (3, [.int v_n', .ref v1, .ref v2, .ref v3, .ref v4, .ref v5])), (v1, .inl (cI, 10, .inl v_L')), (v2, .inl (cI, 10, .inl v_U')), (v3, .inl (cI, 12, .inl v_H')), (v4, .inl (cI, 10, .inl v_O')), (v5, .inl (cI, 10, .inl v_B'))] (va_A [(x0, .inr (6, [.ref a0, .ref b0, .ref w0, .ref t0, .ref r0, .ref h0, .ref u0, .ref u1, .ref g0, .ref q0])), (a0, .inr (3, [.int a_n, .ref a1, .ref a2, .ref a3, .ref a4, .ref a5])), (a1, .inl (cI, 10, .inl a_L)), (a2, .inl (cI, 10, .inl a_U)), (a3, .inl (cI, 12, .inl a_H)), (a4, .inl (cI, 10, .inl a_O)), (a5, .inl (cI, 10, .inl a_B)), (b0, .inr (3, [.int b_n, .ref b1, .ref b2, .ref b3, .ref b4, .ref b5])), (b1, .inl (cI, 10, .inl b_L)), (b2, .inl (cI, 10, .inl b_U)), (b3, .inl (cI, 12, .inl b_H)), (b4, .inl (cI, 10, .inl b_O)), (b5, .inl (cI, 10, .inl b_B)), (q0, .inr (0, [.int q_nt, .int q_iv, .ref q1, .ref v0, .int q_fd, .ref q2, .ref q3, .ref q4, .ref q5])), (q1, .inl (cI, 10, .inl q_or)), (q2, .inl (cI, 10, .inl q_df)), (q3, .inl (cI, 1024, .inl q_se)), (q4, .inl (cI, 1024, .inl q_co)), (q5, .inl (cI, 1024, .inl q_ch)), (v0, .inr (3, [.int v_n, .ref v1, .ref v2, .ref v3, .ref v4, .ref v5])), (v1, .inl (cI, 10, .inl v_L)), (v2, .inl (cI, 10, .inl v_U)), (v3, .inl (cI, 12, .inl v_H)), (v4, .inl (cI, 10, .inl v_O)), (v5, .inl (cI, 10, .inl v_B))] sz)) 0 0 (va_A [(x0, .inr (6, [.ref a0, .ref b0, .ref w0, .ref t0, .ref r0, .ref h0, .ref u0, .ref u1, .ref g0, .ref q0])), (a0, .inr (3, [.int a_n, .ref a1, .ref a2, .ref a3, .ref a4, .ref a5])), (a1, .inl (cI, 10, .inl a_L)), (a2, .inl (cI, 10, .inl a_U)), (a3, .inl (cI, 12, .inl a_H)), (a4, .inl (cI, 10, .inl a_O)), (a5, .inl (cI, 10, .inl a_B)), (b0, .inr (3, [.int b_n, .ref b1, .ref b2, .ref b3, .ref b4, .ref b5])), (b1, .inl (cI, 10, .inl b_L)), (b2, .inl (cI, 10, .inl b_U)), (b3, .inl (cI, 12, .inl b_H)), (b4, .inl (cI, 10, .inl b_O)), (b5, .inl (cI, 10, .inl b_B)), (q0, .inr (0, [.int q_nt, .int q_iv, .ref q1, .ref v0, .int q_fd, .ref q2, .ref q3, .ref q4, .ref q5])), (q1, .inl (cI, 10, .inl q_or)), (q2, .inl (cI, 10, .inl q_df)), (q3, .inl (cI, 1024, .inl q_se)), (q4, .inl (cI, 1024, .inl q_co)), (q5, .inl (cI, 1024, .inl q_ch)), (v0, .inr (3, [.int v_n, .ref v1, .ref v2, .ref v3, .ref v4, .ref v5])), (v1, .inl (cI, 10, .inl v_L)), (v2, .inl (cI, 10, .inl v_U)), (v3, .inl (cI, 12, .inl v_H)), (v4, .inl (cI, 10, .inl v_O)), (v5, .inl (cI, 10, .inl v_B))] sz) := by
  refine Met.ofW (cc := cX6_would) (maxL := 3) (ret := (some .int)) (by decide) rfl ?_
  intro p e s m args below meth c s₁ B hml hv
  obtain ⟨rfl, hsz, hP, hK, hD0⟩ := hv
  have hx := B.exec
  have hb := B.bytes
  have hr := B.returns
  have hts := atoms_spec (ws := wsX6_would) B.pre
  have hown : s.vm.findClass RX6 = some m.cls := findClass_of_methodNamed B.named
  have hlocks := B.notSynchronized
  subst hsz
  have hD := hD0.self (sz := s.heap.size)
  generalize hAe : va_A [(x0, .inr (6, [.ref a0, .ref b0, .ref w0, .ref t0, .ref r0, .ref h0, .ref u0, .ref u1, .ref g0, .ref q0])), (a0, .inr (3, [.int a_n, .ref a1, .ref a2, .ref a3, .ref a4, .ref a5])), (a1, .inl (cI, 10, .inl a_L)), (a2, .inl (cI, 10, .inl a_U)), (a3, .inl (cI, 12, .inl a_H)), (a4, .inl (cI, 10, .inl a_O)), (a5, .inl (cI, 10, .inl a_B)), (b0, .inr (3, [.int b_n, .ref b1, .ref b2, .ref b3, .ref b4, .ref b5])), (b1, .inl (cI, 10, .inl b_L)), (b2, .inl (cI, 10, .inl b_U)), (b3, .inl (cI, 12, .inl b_H)), (b4, .inl (cI, 10, .inl b_O)), (b5, .inl (cI, 10, .inl b_B)), (q0, .inr (0, [.int q_nt, .int q_iv, .ref q1, .ref v0, .int q_fd, .ref q2, .ref q3, .ref q4, .ref q5])), (q1, .inl (cI, 10, .inl q_or)), (q2, .inl (cI, 10, .inl q_df)), (q3, .inl (cI, 1024, .inl q_se)), (q4, .inl (cI, 1024, .inl q_co)), (q5, .inl (cI, 1024, .inl q_ch)), (v0, .inr (3, [.int v_n, .ref v1, .ref v2, .ref v3, .ref v4, .ref v5])), (v1, .inl (cI, 10, .inl v_L)), (v2, .inl (cI, 10, .inl v_U)), (v3, .inl (cI, 12, .inl v_H)), (v4, .inl (cI, 10, .inl v_O)), (v5, .inl (cI, 10, .inl v_B))] s.heap.size = A at hD ⊢
  have hA : ∀ q : Nat, s.heap.size ≤ q → A q := fun q h => by rw [← hAe]; exact Or.inr h
  clear hAe hD0
  have hfl_10 := hts (.fieldLink RX6 10 "TermsFirst" "manual" "LTermsFirst$Manual;") (List.mem_cons_of_mem _ (List.mem_append_left _ (List.mem_append_left _ (List.mem_append_left _ (List.mem_append_left _ (List.mem_of_getElem? (i := 0) rfl))))))
  have hfl_16 := hts (.fieldLink RX6 16 "TermsFirst" "draft" "LTermsFirst$Manual;") (List.mem_cons_of_mem _ (List.mem_append_left _ (List.mem_append_left _ (List.mem_append_left _ (List.mem_append_left _ (List.mem_of_getElem? (i := 1) rfl))))))
  have hfl_64 := hts (.fieldLink RX6 64 "TermsFirst" "bestOrder" "LTermsFirst$BestOrder;") (List.mem_cons_of_mem _ (List.mem_append_left _ (List.mem_append_left _ (List.mem_append_left _ (List.mem_append_left _ (List.mem_of_getElem? (i := 3) rfl))))))
  have hfl_106 := hts (.fieldLink RX6 106 "TermsFirst$Manual" "used" "[I") (List.mem_cons_of_mem _ (List.mem_append_left _ (List.mem_append_left _ (List.mem_append_left _ (List.mem_append_left _ (List.mem_of_getElem? (i := 2) rfl))))))
  have hfl_210 := hts (.fieldLink RX6 210 "TermsFirst$BestOrder" "notes" "I") (List.mem_cons_of_mem _ (List.mem_append_left _ (List.mem_append_left _ (List.mem_append_left _ (List.mem_append_left _ (List.mem_of_getElem? (i := 4) rfl))))))
  have hiX0 : ∀ w ∈ u_ws RX0 TX0 9, w ∈ wsX6_would := fun _ h => (List.mem_cons_of_mem _ (List.mem_append_right _ h))
  have hiX3 : ∀ w ∈ u_ws RX3 TX3 6, w ∈ wsX6_would := fun _ h => (List.mem_cons_of_mem _ (List.mem_append_left _ (List.mem_append_right _ h)))
  have hiX6 : ∀ w ∈ u_ws RX6 TX6 10, w ∈ wsX6_would := fun _ h => (List.mem_cons_of_mem _ (List.mem_append_left _ (List.mem_append_left _ (List.mem_append_right _ h))))
  have hl := lv_entry ([.ref x0, .int x1, .int x2]) (n := 3) (Nat.le_of_ble_eq_true rfl)
  rw [lg_entry_eq]
  generalize (lg_sl ([.ref x0, .int x1, .int x2]) ++ List.replicate (3 - (lg_sl ([.ref x0, .int x1, .int x2])).length) Slot.unset).toArray = ls at hl ⊢
  have hl : lv_has ls 3 [(0, .ref x0), (1, .int x1), (2, .int x2)] := hl
  have hS : va_S A s.heap s.heap [] := va_S.rf
  unfold m_X6_would at hf
  refine lv_aload_n hx hb dX6_would_0 rfl (lv_at hl 0 rfl) ?_
  refine va_get (D := D) (ci := 6) (v := .ref a0) (C := RX6) (T := TX6) (N := 10) hx hb hts hiX6 hown hK.1 hP 0 rfl rfl 0 (by decide) hfl_10 (fun _ h9 => h9) rfl dX6_would_1 ?_
  refine lv_iload_n hx hb dX6_would_4 rfl (lv_at hl 1 rfl) ?_
  obtain ⟨rv1, hrv1, hf⟩ := bd hf
  refine roI (va_runV (As := [.int x1]) (rest := []) ⟨hx, hb, hml, hown, hts⟩ (c_X3_hasSection l D cI cZ cM a0 a1 a2 a3 a4 a5 a_n a_L a_U a_H a_O a_B x1 rv1 hrv1) (cwV 1 hts gX6_would_X3_hasSection rfl rfl rfl ⟨rfl, hdc_X3_hasSection⟩ ⟨Nat.le_of_ble_eq_true rfl, Nat.le_of_ble_eq_true rfl⟩) (prV hK hP [1, 2, 3, 4, 5, 6] rfl (ci := 3) (q0 := 1) rfl rfl) rfl rfl hl.1 rfl (lv_room (Nat.le_of_ble_eq_true rfl)) dX6_would_5 ⟨Nat.zero_le _, Nat.zero_le _⟩) ?_
  refine lv_if_eq (tgt := 18) hx hb dX6_would_8 (by decide) (fun hc => ?_) (fun hc => ?_)
  · have hf := ifp hc hf
    refine lv_bipush (v := (-2 : Int32)) hx hb dX6_would_18 bp_m2 ?_
    cases hf
    exact W.iret hx hb hr (fun t ht _ => ⟨⟨rfl, by rw [ht]; exact hP, hD⟩, hS.F ht⟩) hS.2.2 dX6_would_20
  · have hf := ifn hc hf
    refine lv_iload_n hx hb dX6_would_11 rfl (lv_at hl 2 rfl) ?_
    obtain ⟨rv2, hrv2, hf⟩ := bd hf
    refine roI (va_runS (As := [.int x2]) (rest := []) ⟨hx, hb, hml, hown, hts⟩ (c_X6_isTerm l D cI cZ cM x2 rv2 hrv2) (va_cwS 1 hts gX6_would_X6_isTerm rfl rfl rfl hdc_X6_isTerm ⟨Nat.le_of_ble_eq_true rfl, Nat.le_of_ble_eq_true rfl⟩) (prS hK hP [] rfl) rfl rfl hl.1 rfl (lv_room (Nat.le_of_ble_eq_true rfl)) dX6_would_12 ⟨Nat.zero_le _, Nat.zero_le _⟩) ?_
    refine lv_if_ne (tgt := 21) hx hb dX6_would_15 (by decide) (fun hc => ?_) (fun hc => ?_)
    · have hf := ifn hc hf
      refine lv_aload_n hx hb dX6_would_21 rfl (lv_at hl 0 rfl) ?_
      refine va_get (D := D) (ci := 6) (v := .ref b0) (C := RX6) (T := TX6) (N := 10) hx hb hts hiX6 hown hK.1 hP 0 rfl rfl 1 (by decide) hfl_16 (fun _ h9 => h9) rfl dX6_would_22 ?_
      refine lv_aload_n hx hb dX6_would_25 rfl (lv_at hl 0 rfl) ?_
      refine va_get (D := D) (ci := 6) (v := .ref a0) (C := RX6) (T := TX6) (N := 10) hx hb hts hiX6 hown hK.1 hP 0 rfl rfl 0 (by decide) hfl_10 (fun _ h9 => h9) rfl dX6_would_26 ?_
      obtain ⟨rv3, hrv3, hf⟩ := bd hf
      refine muV0 (wr := [(x0, .inr (6, [.ref a0, .ref b0, .ref w0, .ref t0, .ref r0, .ref h0, .ref u0, .ref u1, .ref g0, .ref q0])), (q0, .inr (0, [.int q_nt, .int q_iv, .ref q1, .ref v0, .int q_fd, .ref q2, .ref q3, .ref q4, .ref q5])), (q1, .inl (cI, 10, .inl q_or)), (q2, .inl (cI, 10, .inl q_df)), (q3, .inl (cI, 1024, .inl q_se)), (q4, .inl (cI, 1024, .inl q_co)), (q5, .inl (cI, 1024, .inl q_ch)), (v0, .inr (3, [.int v_n, .ref v1, .ref v2, .ref v3, .ref v4, .ref v5])), (v1, .inl (cI, 10, .inl v_L)), (v2, .inl (cI, 10, .inl v_U)), (v3, .inl (cI, 12, .inl v_H)), (v4, .inl (cI, 10, .inl v_O)), (v5, .inl (cI, 10, .inl v_B))]) (va_runV (As := [.ref a0]) (rest := []) ⟨hx, hb, hml, hown, hts⟩ (c_X3_become l D cI cZ cM b0 b1 b2 b3 b4 b5 a0 a1 a2 a3 a4 a5 _ b_n b_L b_U b_H b_O b_B a_n a_L a_U a_H a_O a_B fu rv3.1 rv3.2.1 rv3.2.2.1 rv3.2.2.2.1 rv3.2.2.2.2.1 rv3.2.2.2.2.2 hrv3) (cwV 1 hts gX6_would_X3_become rfl rfl rfl ⟨rfl, hdc_X3_become⟩ ⟨Nat.le_of_ble_eq_true rfl, Nat.le_of_ble_eq_true rfl⟩) (pmV hK hP hD [7, 8, 9, 10, 11, 12, 1, 2, 3, 4, 5, 6] (by decide) rfl rfl (ci := 3) (q0 := 7) rfl rfl) rfl rfl hl.1 rfl (lv_room (Nat.le_of_ble_eq_true rfl)) dX6_would_29 ⟨Nat.zero_le _, Nat.zero_le _⟩) hP hD hS hA [7, 8, 9, 10, 11, 12, 1, 2, 3, 4, 5, 6] [0, 13, 14, 15, 16, 17, 18, 19, 20, 21, 22, 23, 24] rfl rfl (by decide) (by decide) (fun H locs hP hD hS => ?_)
      have hP : va_P D vwCl [(x0, .inr (6, [.ref a0, .ref b0, .ref w0, .ref t0, .ref r0, .ref h0, .ref u0, .ref u1, .ref g0, .ref q0])), (q0, .inr (0, [.int q_nt, .int q_iv, .ref q1, .ref v0, .int q_fd, .ref q2, .ref q3, .ref q4, .ref q5])), (q1, .inl (cI, 10, .inl q_or)), (q2, .inl (cI, 10, .inl q_df)), (q3, .inl (cI, 1024, .inl q_se)), (q4, .inl (cI, 1024, .inl q_co)), (q5, .inl (cI, 1024, .inl q_ch)), (v0, .inr (3, [.int v_n, .ref v1, .ref v2, .ref v3, .ref v4, .ref v5])), (v1, .inl (cI, 10, .inl v_L)), (v2, .inl (cI, 10, .inl v_U)), (v3, .inl (cI, 12, .inl v_H)), (v4, .inl (cI, 10, .inl v_O)), (v5, .inl (cI, 10, .inl v_B)), (b0, .inr (3, [.int rv3.1, .ref b1, .ref b2, .ref b3, .ref b4, .ref b5])), (b1, .inl (cI, 10, .inl rv3.2.1)), (b2, .inl (cI, 10, .inl rv3.2.2.1)), (b3, .inl (cI, 12, .inl rv3.2.2.2.1)), (b4, .inl (cI, 10, .inl rv3.2.2.2.2.1)), (b5, .inl (cI, 10, .inl rv3.2.2.2.2.2)), (a0, .inr (3, [.int a_n, .ref a1, .ref a2, .ref a3, .ref a4, .ref a5])), (a1, .inl (cI, 10, .inl a_L)), (a2, .inl (cI, 10, .inl a_U)), (a3, .inl (cI, 12, .inl a_H)), (a4, .inl (cI, 10, .inl a_O)), (a5, .inl (cI, 10, .inl a_B))] H := hP
      have hD : va_D A [(x0, .inr (6, [.ref a0, .ref b0, .ref w0, .ref t0, .ref r0, .ref h0, .ref u0, .ref u1, .ref g0, .ref q0])), (q0, .inr (0, [.int q_nt, .int q_iv, .ref q1, .ref v0, .int q_fd, .ref q2, .ref q3, .ref q4, .ref q5])), (q1, .inl (cI, 10, .inl q_or)), (q2, .inl (cI, 10, .inl q_df)), (q3, .inl (cI, 1024, .inl q_se)), (q4, .inl (cI, 1024, .inl q_co)), (q5, .inl (cI, 1024, .inl q_ch)), (v0, .inr (3, [.int v_n, .ref v1, .ref v2, .ref v3, .ref v4, .ref v5])), (v1, .inl (cI, 10, .inl v_L)), (v2, .inl (cI, 10, .inl v_U)), (v3, .inl (cI, 12, .inl v_H)), (v4, .inl (cI, 10, .inl v_O)), (v5, .inl (cI, 10, .inl v_B)), (b0, .inr (3, [.int rv3.1, .ref b1, .ref b2, .ref b3, .ref b4, .ref b5])), (b1, .inl (cI, 10, .inl rv3.2.1)), (b2, .inl (cI, 10, .inl rv3.2.2.1)), (b3, .inl (cI, 12, .inl rv3.2.2.2.1)), (b4, .inl (cI, 10, .inl rv3.2.2.2.2.1)), (b5, .inl (cI, 10, .inl rv3.2.2.2.2.2)), (a0, .inr (3, [.int a_n, .ref a1, .ref a2, .ref a3, .ref a4, .ref a5])), (a1, .inl (cI, 10, .inl a_L)), (a2, .inl (cI, 10, .inl a_U)), (a3, .inl (cI, 12, .inl a_H)), (a4, .inl (cI, 10, .inl a_O)), (a5, .inl (cI, 10, .inl a_B))] := hD
      refine lv_aload_n hx hb dX6_would_32 rfl (lv_at hl 0 rfl) ?_
      refine va_get (D := D) (ci := 6) (v := .ref b0) (C := RX6) (T := TX6) (N := 10) hx hb hts hiX6 hown hK.1 hP 0 rfl rfl 1 (by decide) hfl_16 (fun _ h9 => h9) rfl dX6_would_33 ?_
      refine va_get (D := D) (ci := 3) (v := .ref b2) (C := RX3) (T := TX3) (N := 6) hx hb hts hiX3 hown hK.1 hP 13 rfl rfl 2 (by decide) hfl_106 (fun _ h9 => h9) rfl dX6_would_36 ?_
      refine lv_iload_n hx hb dX6_would_39 rfl (lv_at hl 1 rfl) ?_
      refine lv_aload_n hx hb dX6_would_40 rfl (lv_at hl 0 rfl) ?_
      refine va_get (D := D) (ci := 6) (v := .ref b0) (C := RX6) (T := TX6) (N := 10) hx hb hts hiX6 hown hK.1 hP 0 rfl rfl 1 (by decide) hfl_16 (fun _ h9 => h9) rfl dX6_would_41 ?_
      refine va_get (D := D) (ci := 3) (v := .ref b2) (C := RX3) (T := TX3) (N := 6) hx hb hts hiX3 hown hK.1 hP 13 rfl rfl 2 (by decide) hfl_106 (fun _ h9 => h9) rfl dX6_would_44 ?_
      refine lv_iload_n hx hb dX6_would_47 rfl (lv_at hl 1 rfl) ?_
      obtain ⟨hi, hf⟩ := gd_some hf
      refine va_iald hx hb hK.1 hP 15 0 rfl rfl hi dX6_would_48 ?_
      refine lv_iload_n hx hb dX6_would_49 rfl (lv_at hl 2 rfl) ?_
      obtain ⟨rv4, hrv4, hf⟩ := bd hf
      refine roI (va_runS (As := [.int (rv3.2.2.1 x1.toNatClampNeg), .int x2]) (rest := [.int x1, .ref b2]) ⟨hx, hb, hml, hown, hts⟩ (c_X6_with l D cI cZ cM (rv3.2.2.1 x1.toNatClampNeg) x2 rv4 hrv4) (va_cwS 2 hts gX6_would_X6_with rfl rfl rfl hdc_X6_with ⟨Nat.le_of_ble_eq_true rfl, Nat.le_of_ble_eq_true rfl⟩) (prS hK hP [] rfl) rfl rfl hl.1 rfl (lv_room (Nat.le_of_ble_eq_true rfl)) dX6_would_50 ⟨Nat.zero_le _, Nat.zero_le _⟩) ?_
      obtain ⟨hi, hf⟩ := gd_some hf
      refine va_iast hx hb hK.1 hP hD hS 15 0 rfl rfl hi dX6_would_53 (fun H locs hP hD hS => ?_)
      have hP : va_P D vwCl [(x0, .inr (6, [.ref a0, .ref b0, .ref w0, .ref t0, .ref r0, .ref h0, .ref u0, .ref u1, .ref g0, .ref q0])), (q0, .inr (0, [.int q_nt, .int q_iv, .ref q1, .ref v0, .int q_fd, .ref q2, .ref q3, .ref q4, .ref q5])), (q1, .inl (cI, 10, .inl q_or)), (q2, .inl (cI, 10, .inl q_df)), (q3, .inl (cI, 1024, .inl q_se)), (q4, .inl (cI, 1024, .inl q_co)), (q5, .inl (cI, 1024, .inl q_ch)), (v0, .inr (3, [.int v_n, .ref v1, .ref v2, .ref v3, .ref v4, .ref v5])), (v1, .inl (cI, 10, .inl v_L)), (v2, .inl (cI, 10, .inl v_U)), (v3, .inl (cI, 12, .inl v_H)), (v4, .inl (cI, 10, .inl v_O)), (v5, .inl (cI, 10, .inl v_B)), (b0, .inr (3, [.int rv3.1, .ref b1, .ref b2, .ref b3, .ref b4, .ref b5])), (b1, .inl (cI, 10, .inl rv3.2.1)), (b2, .inl (cI, 10, .inl (upd rv3.2.2.1 x1.toNatClampNeg rv4))), (b3, .inl (cI, 12, .inl rv3.2.2.2.1)), (b4, .inl (cI, 10, .inl rv3.2.2.2.2.1)), (b5, .inl (cI, 10, .inl rv3.2.2.2.2.2)), (a0, .inr (3, [.int a_n, .ref a1, .ref a2, .ref a3, .ref a4, .ref a5])), (a1, .inl (cI, 10, .inl a_L)), (a2, .inl (cI, 10, .inl a_U)), (a3, .inl (cI, 12, .inl a_H)), (a4, .inl (cI, 10, .inl a_O)), (a5, .inl (cI, 10, .inl a_B))] H := hP
      have hD : va_D A [(x0, .inr (6, [.ref a0, .ref b0, .ref w0, .ref t0, .ref r0, .ref h0, .ref u0, .ref u1, .ref g0, .ref q0])), (q0, .inr (0, [.int q_nt, .int q_iv, .ref q1, .ref v0, .int q_fd, .ref q2, .ref q3, .ref q4, .ref q5])), (q1, .inl (cI, 10, .inl q_or)), (q2, .inl (cI, 10, .inl q_df)), (q3, .inl (cI, 1024, .inl q_se)), (q4, .inl (cI, 1024, .inl q_co)), (q5, .inl (cI, 1024, .inl q_ch)), (v0, .inr (3, [.int v_n, .ref v1, .ref v2, .ref v3, .ref v4, .ref v5])), (v1, .inl (cI, 10, .inl v_L)), (v2, .inl (cI, 10, .inl v_U)), (v3, .inl (cI, 12, .inl v_H)), (v4, .inl (cI, 10, .inl v_O)), (v5, .inl (cI, 10, .inl v_B)), (b0, .inr (3, [.int rv3.1, .ref b1, .ref b2, .ref b3, .ref b4, .ref b5])), (b1, .inl (cI, 10, .inl rv3.2.1)), (b2, .inl (cI, 10, .inl (upd rv3.2.2.1 x1.toNatClampNeg rv4))), (b3, .inl (cI, 12, .inl rv3.2.2.2.1)), (b4, .inl (cI, 10, .inl rv3.2.2.2.2.1)), (b5, .inl (cI, 10, .inl rv3.2.2.2.2.2)), (a0, .inr (3, [.int a_n, .ref a1, .ref a2, .ref a3, .ref a4, .ref a5])), (a1, .inl (cI, 10, .inl a_L)), (a2, .inl (cI, 10, .inl a_U)), (a3, .inl (cI, 12, .inl a_H)), (a4, .inl (cI, 10, .inl a_O)), (a5, .inl (cI, 10, .inl a_B))] := hD
      refine lv_aload_n hx hb dX6_would_54 rfl (lv_at hl 0 rfl) ?_
      refine va_get (D := D) (ci := 6) (v := .ref q0) (C := RX6) (T := TX6) (N := 10) hx hb hts hiX6 hown hK.1 hP 0 rfl rfl 9 (by decide) hfl_64 (fun _ h9 => h9) rfl dX6_would_55 ?_
      refine lv_aload_n hx hb dX6_would_58 rfl (lv_at hl 0 rfl) ?_
      refine va_get (D := D) (ci := 6) (v := .ref b0) (C := RX6) (T := TX6) (N := 10) hx hb hts hiX6 hown hK.1 hP 0 rfl rfl 1 (by decide) hfl_16 (fun _ h9 => h9) rfl dX6_would_59 ?_
      obtain ⟨rv5, hrv5, hf⟩ := bd hf
      refine muV0 (wr := [(x0, .inr (6, [.ref a0, .ref b0, .ref w0, .ref t0, .ref r0, .ref h0, .ref u0, .ref u1, .ref g0, .ref q0])), (a0, .inr (3, [.int a_n, .ref a1, .ref a2, .ref a3, .ref a4, .ref a5])), (a1, .inl (cI, 10, .inl a_L)), (a2, .inl (cI, 10, .inl a_U)), (a3, .inl (cI, 12, .inl a_H)), (a4, .inl (cI, 10, .inl a_O)), (a5, .inl (cI, 10, .inl a_B))]) (va_runV (As := [.ref b0]) (rest := []) ⟨hx, hb, hml, hown, hts⟩ (c_X0_find l D cI cZ cM q0 q1 q2 q3 q4 q5 v0 v1 v2 v3 v4 v5 b0 b1 b2 b3 b4 b5 _ q_nt q_iv q_fd q_or q_df q_se q_co q_ch v_n v_L v_U v_H v_O v_B rv3.1 rv3.2.1 (upd rv3.2.2.1 x1.toNatClampNeg rv4) rv3.2.2.2.1 rv3.2.2.2.2.1 rv3.2.2.2.2.2 fu rv5.1 rv5.2.1 rv5.2.2.1 rv5.2.2.2.1 rv5.2.2.2.2.1 rv5.2.2.2.2.2.1 rv5.2.2.2.2.2.2.1 rv5.2.2.2.2.2.2.2.1 rv5.2.2.2.2.2.2.2.2.1 rv5.2.2.2.2.2.2.2.2.2.1 rv5.2.2.2.2.2.2.2.2.2.2.1 rv5.2.2.2.2.2.2.2.2.2.2.2.1 rv5.2.2.2.2.2.2.2.2.2.2.2.2.1 rv5.2.2.2.2.2.2.2.2.2.2.2.2.2 hrv5) (cwV 1 hts gX6_would_X0_find rfl rfl rfl ⟨rfl, hdc_X0_find⟩ ⟨Nat.le_of_ble_eq_true rfl, Nat.le_of_ble_eq_true rfl⟩) (pmV hK hP hD [1, 2, 3, 4, 5, 6, 7, 8, 9, 10, 11, 12, 13, 14, 15, 16, 17, 18] (by decide) rfl rfl (ci := 0) (q0 := 1) rfl rfl) rfl rfl hl.1 rfl (lv_room (Nat.le_of_ble_eq_true rfl)) dX6_would_62 ⟨Nat.zero_le _, Nat.zero_le _⟩) hP hD hS hA [1, 2, 3, 4, 5, 6, 7, 8, 9, 10, 11, 12, 13, 14, 15, 16, 17, 18] [0, 19, 20, 21, 22, 23, 24] rfl rfl (by decide) (by decide) (fun H locs hP hD hS => ?_)
      have hP : va_P D vwCl [(x0, .inr (6, [.ref a0, .ref b0, .ref w0, .ref t0, .ref r0, .ref h0, .ref u0, .ref u1, .ref g0, .ref q0])), (a0, .inr (3, [.int a_n, .ref a1, .ref a2, .ref a3, .ref a4, .ref a5])), (a1, .inl (cI, 10, .inl a_L)), (a2, .inl (cI, 10, .inl a_U)), (a3, .inl (cI, 12, .inl a_H)), (a4, .inl (cI, 10, .inl a_O)), (a5, .inl (cI, 10, .inl a_B)), (q0, .inr (0, [.int rv5.1, .int rv5.2.1, .ref q1, .ref v0, .int rv5.2.2.1, .ref q2, .ref q3, .ref q4, .ref q5])), (q1, .inl (cI, 10, .inl rv5.2.2.2.1)), (q2, .inl (cI, 10, .inl rv5.2.2.2.2.1)), (q3, .inl (cI, 1024, .inl rv5.2.2.2.2.2.1)), (q4, .inl (cI, 1024, .inl rv5.2.2.2.2.2.2.1)), (q5, .inl (cI, 1024, .inl rv5.2.2.2.2.2.2.2.1)), (v0, .inr (3, [.int rv5.2.2.2.2.2.2.2.2.1, .ref v1, .ref v2, .ref v3, .ref v4, .ref v5])), (v1, .inl (cI, 10, .inl rv5.2.2.2.2.2.2.2.2.2.1)), (v2, .inl (cI, 10, .inl rv5.2.2.2.2.2.2.2.2.2.2.1)), (v3, .inl (cI, 12, .inl rv5.2.2.2.2.2.2.2.2.2.2.2.1)), (v4, .inl (cI, 10, .inl rv5.2.2.2.2.2.2.2.2.2.2.2.2.1)), (v5, .inl (cI, 10, .inl rv5.2.2.2.2.2.2.2.2.2.2.2.2.2)), (b0, .inr (3, [.int rv3.1, .ref b1, .ref b2, .ref b3, .ref b4, .ref b5])), (b1, .inl (cI, 10, .inl rv3.2.1)), (b2, .inl (cI, 10, .inl (upd rv3.2.2.1 x1.toNatClampNeg rv4))), (b3, .inl (cI, 12, .inl rv3.2.2.2.1)), (b4, .inl (cI, 10, .inl rv3.2.2.2.2.1)), (b5, .inl (cI, 10, .inl rv3.2.2.2.2.2))] H := hP
      have hD : va_D A [(x0, .inr (6, [.ref a0, .ref b0, .ref w0, .ref t0, .ref r0, .ref h0, .ref u0, .ref u1, .ref g0, .ref q0])), (a0, .inr (3, [.int a_n, .ref a1, .ref a2, .ref a3, .ref a4, .ref a5])), (a1, .inl (cI, 10, .inl a_L)), (a2, .inl (cI, 10, .inl a_U)), (a3, .inl (cI, 12, .inl a_H)), (a4, .inl (cI, 10, .inl a_O)), (a5, .inl (cI, 10, .inl a_B)), (q0, .inr (0, [.int rv5.1, .int rv5.2.1, .ref q1, .ref v0, .int rv5.2.2.1, .ref q2, .ref q3, .ref q4, .ref q5])), (q1, .inl (cI, 10, .inl rv5.2.2.2.1)), (q2, .inl (cI, 10, .inl rv5.2.2.2.2.1)), (q3, .inl (cI, 1024, .inl rv5.2.2.2.2.2.1)), (q4, .inl (cI, 1024, .inl rv5.2.2.2.2.2.2.1)), (q5, .inl (cI, 1024, .inl rv5.2.2.2.2.2.2.2.1)), (v0, .inr (3, [.int rv5.2.2.2.2.2.2.2.2.1, .ref v1, .ref v2, .ref v3, .ref v4, .ref v5])), (v1, .inl (cI, 10, .inl rv5.2.2.2.2.2.2.2.2.2.1)), (v2, .inl (cI, 10, .inl rv5.2.2.2.2.2.2.2.2.2.2.1)), (v3, .inl (cI, 12, .inl rv5.2.2.2.2.2.2.2.2.2.2.2.1)), (v4, .inl (cI, 10, .inl rv5.2.2.2.2.2.2.2.2.2.2.2.2.1)), (v5, .inl (cI, 10, .inl rv5.2.2.2.2.2.2.2.2.2.2.2.2.2)), (b0, .inr (3, [.int rv3.1, .ref b1, .ref b2, .ref b3, .ref b4, .ref b5])), (b1, .inl (cI, 10, .inl rv3.2.1)), (b2, .inl (cI, 10, .inl (upd rv3.2.2.1 x1.toNatClampNeg rv4))), (b3, .inl (cI, 12, .inl rv3.2.2.2.1)), (b4, .inl (cI, 10, .inl rv3.2.2.2.2.1)), (b5, .inl (cI, 10, .inl rv3.2.2.2.2.2))] := hD
      refine lv_aload_n hx hb dX6_would_65 rfl (lv_at hl 0 rfl) ?_
      refine va_get (D := D) (ci := 6) (v := .ref q0) (C := RX6) (T := TX6) (N := 10) hx hb hts hiX6 hown hK.1 hP 0 rfl rfl 9 (by decide) hfl_64 (fun _ h9 => h9) rfl dX6_would_66 ?_
      refine va_get (D := D) (ci := 0) (v := .int rv5.1) (C := RX0) (T := TX0) (N := 9) hx hb hts hiX0 hown hK.1 hP 7 rfl rfl 0 (by decide) hfl_210 (fun _ h9 => h9) rfl dX6_would_69 ?_
      cases hf
      exact W.iret hx hb hr (fun t ht _ => ⟨⟨rfl, by rw [ht]; exact (hP.sub [0, 1, 2, 3, 4, 5, 6, 19, 20, 21, 22, 23, 24, 7, 8, 9, 10, 11, 12, 13, 14, 15, 16, 17, 18] rfl), (hD.sub [0, 1, 2, 3, 4, 5, 6, 19, 20, 21, 22, 23, 24, 7, 8, 9, 10, 11, 12, 13, 14, 15, 16, 17, 18] (by decide) rfl)⟩, hS.F ht⟩) hS.2.2 dX6_would_72
    · have hf := ifp hc hf
      refine lv_bipush (v := (-2 : Int32)) hx hb dX6_would_18 bp_m2 ?_
      cases hf
      exact W.iret hx hb hr (fun t ht _ => ⟨⟨rfl, by rw [ht]; exact hP, hD⟩, hS.F ht⟩) hS.2.2 dX6_would_20
theorem hdc_X6_after : yX6_after.cls ≠ "java/lang/invoke/MethodHandle" ∧ yX6_after.cls ≠ "java/lang/invoke/VarHandle" ∧ (parseMethodDescriptor yX6_after.desc).map (fun d => d.parameters.length) = some 2 := by decide +kernel
set_option maxHeartbeats 4000000 in
set_option maxRecDepth 100000 in
theorem c_X6_after (l : Launch) (D : va_G) (cI cZ cM : ClassId) (x0 a0 a1 a2 a3 a4 a5 w0 b0 t0 r0 h0 u0 u1 g0 q0 : Nat) (sz : Nat) (a_n : Int32) (a_L : Nat → Int32) (a_U : Nat → Int32) (a_H : Nat → Int32) (a_O : Nat → Int32) (a_B : Nat → Int32) (w_a : Nat → Int32) (x1 : Int32) (x2 : Int32) (fu : Nat) (r : Int32) (w_a' : Nat → Int32) (hf : m_X6_after fu a_n a_U a_H a_O a_B w_a x1 x2 = some (r, w_a')) : Met l yX6_after wsX6_after ({ frames := 5, cells := 0, slots := 0, locals := 112 }) (pM D cI cZ cM sz [(x0, .inr (6, [.ref a0, .ref b0, .ref w0, .ref t0, .ref r0, .ref h0, .ref u0, .ref u1, .ref g0, .ref q0])), (a0, .inr (3, [.int a_n, .ref a1, .ref a2, .ref a3, .ref a4, .ref a5])), (a1, .inl (cI, 10, .inl a_L)), (a2, .inl (cI, 10, .inl a_U)), (a3, .inl (cI, 12, .inl a_H)), (a4, .inl (cI, 10, .inl a_O)), (a5, .inl (cI, 10, .inl a_B)), (w0, .inl (cI, 10, .inl w_a))] [.ref x0, .int x1, .int x2]) (qI D r [(x0, .inr (6, [.ref a0, .ref b0, .ref w0, .ref t0, .ref r0, .ref h0, .ref u0, .ref u1, .ref g0, .ref q0])), (a0, .inr (3, [.int a_n, .ref a1, .ref a2, .ref a3, .ref a4, .ref a5])), (a1, .inl (cI, 10, .inl a_L)), (a2, .inl (cI, 10, .inl a_U)), (a3, .inl (cI, 12, .inl a_H)), (a4, .inl (cI, 10, .inl a_O)), (a5, .inl (cI, 10, .inl a_B)), (w0, .inl (cI, 10, .inl w_a'))] (va_A [(x0, .inr (6, [.ref a0, .ref b0, .ref w0, .ref t0, .ref r0, .ref h0, .ref u0, .ref u1, .ref g0, .ref q0])), (a0, .inr (3, [.int a_n, .ref a1, .ref a2, .ref a3, .ref a4, .ref a5])), (a1, .inl (cI, 10, .inl a_L)), (a2, .inl (cI, 10, .inl a_U)), (a3, .inl (cI, 12, .inl a_H)), (a4, .inl (cI, 10, .inl a_O)), (a5, .inl (cI, 10, .inl a_B)), (w0, .inl (cI, 10, .inl w_a))] sz)) 0 0 (va_A [(x0, .inr (6, [.ref a0, .ref b0, .ref w0, .ref t0, .ref r0, .ref h0, .ref u0, .ref u1, .ref g0, .ref q0])), (a0, .inr (3, [.int a_n, .ref a1, .ref a2, .ref a3, .ref a4, .ref a5])), (a1, .inl (cI, 10, .inl a_L)), (a2, .inl (cI, 10, .inl a_U)), (a3, .inl (cI, 12, .inl a_H)), (a4, .inl (cI, 10, .inl a_O)), (a5, .inl (cI, 10, .inl a_B)), (w0, .inl (cI, 10, .inl w_a))] sz) := by
  refine Met.ofW (cc := cX6_after) (maxL := 3) (ret := (some .int)) (by decide) rfl ?_
  intro p e s m args below meth c s₁ B hml hv
  obtain ⟨rfl, hsz, hP, hK, hD0⟩ := hv
  have hx := B.exec
  have hb := B.bytes
  have hr := B.returns
  have hts := atoms_spec (ws := wsX6_after) B.pre
  have hown : s.vm.findClass RX6 = some m.cls := findClass_of_methodNamed B.named
  have hlocks := B.notSynchronized
  subst hsz
  have hD := hD0.self (sz := s.heap.size)
  generalize hAe : va_A [(x0, .inr (6, [.ref a0, .ref b0, .ref w0, .ref t0, .ref r0, .ref h0, .ref u0, .ref u1, .ref g0, .ref q0])), (a0, .inr (3, [.int a_n, .ref a1, .ref a2, .ref a3, .ref a4, .ref a5])), (a1, .inl (cI, 10, .inl a_L)), (a2, .inl (cI, 10, .inl a_U)), (a3, .inl (cI, 12, .inl a_H)), (a4, .inl (cI, 10, .inl a_O)), (a5, .inl (cI, 10, .inl a_B)), (w0, .inl (cI, 10, .inl w_a))] s.heap.size = A at hD ⊢
  have hA : ∀ q : Nat, s.heap.size ≤ q → A q := fun q h => by rw [← hAe]; exact Or.inr h
  clear hAe hD0
  have hl := lv_entry ([.ref x0, .int x1, .int x2]) (n := 3) (Nat.le_of_ble_eq_true rfl)
  rw [lg_entry_eq]
  generalize (lg_sl ([.ref x0, .int x1, .int x2]) ++ List.replicate (3 - (lg_sl ([.ref x0, .int x1, .int x2])).length) Slot.unset).toArray = ls at hl ⊢
  have hl : lv_has ls 3 [(0, .ref x0), (1, .int x1), (2, .int x2)] := hl
  have hS : va_S A s.heap s.heap [] := va_S.rf
  unfold m_X6_after at hf
  refine lv_aload_n hx hb dX6_after_0 rfl (lv_at hl 0 rfl) ?_
  refine lv_iload_n hx hb dX6_after_1 rfl (lv_at hl 1 rfl) ?_
  refine lv_iload_n hx hb dX6_after_2 rfl (lv_at hl 2 rfl) ?_
  obtain ⟨rv1, hrv1, hf⟩ := bd hf
  refine muI0 (wr := []) (va_runV (As := [.int x1, .int x2]) (rest := []) ⟨hx, hb, hml, hown, hts⟩ (c_X6_tryMove l D cI cZ cM x0 a0 a1 a2 a3 a4 a5 w0 b0 t0 r0 h0 u0 u1 g0 q0 _ a_n a_L a_U a_H a_O a_B w_a x1 x2 fu rv1.1 rv1.2 hrv1) (cwV 2 hts gX6_after_X6_tryMove rfl rfl rfl ⟨rfl, hdc_X6_tryMove⟩ ⟨Nat.le_of_ble_eq_true rfl, Nat.le_of_ble_eq_true rfl⟩) (pmV hK hP hD [0, 1, 2, 3, 4, 5, 6, 7] (by decide) rfl rfl (ci := 6) (q0 := 0) rfl rfl) rfl rfl hl.1 rfl (lv_room (Nat.le_of_ble_eq_true rfl)) dX6_after_3 ⟨Nat.zero_le _, Nat.zero_le _⟩) hP hD hS hA [0, 1, 2, 3, 4, 5, 6, 7] [] rfl rfl (by decide) (by decide) (fun H locs hP hD hS => ?_)
  have hP : va_P D vwCl [(x0, .inr (6, [.ref a0, .ref b0, .ref w0, .ref t0, .ref r0, .ref h0, .ref u0, .ref u1, .ref g0, .ref q0])), (a0, .inr (3, [.int a_n, .ref a1, .ref a2, .ref a3, .ref a4, .ref a5])), (a1, .inl (cI, 10, .inl a_L)), (a2, .inl (cI, 10, .inl a_U)), (a3, .inl (cI, 12, .inl a_H)), (a4, .inl (cI, 10, .inl a_O)), (a5, .inl (cI, 10, .inl a_B)), (w0, .inl (cI, 10, .inl rv1.2))] H := hP
  have hD : va_D A [(x0, .inr (6, [.ref a0, .ref b0, .ref w0, .ref t0, .ref r0, .ref h0, .ref u0, .ref u1, .ref g0, .ref q0])), (a0, .inr (3, [.int a_n, .ref a1, .ref a2, .ref a3, .ref a4, .ref a5])), (a1, .inl (cI, 10, .inl a_L)), (a2, .inl (cI, 10, .inl a_U)), (a3, .inl (cI, 12, .inl a_H)), (a4, .inl (cI, 10, .inl a_O)), (a5, .inl (cI, 10, .inl a_B)), (w0, .inl (cI, 10, .inl rv1.2))] := hD
  cases hf
  exact W.iret hx hb hr (fun t ht _ => ⟨⟨rfl, by rw [ht]; exact hP, hD⟩, hS.F ht⟩) hS.2.2 dX6_after_6
theorem hdc_X6_count : yX6_count.cls ≠ "java/lang/invoke/MethodHandle" ∧ yX6_count.cls ≠ "java/lang/invoke/VarHandle" ∧ (parseMethodDescriptor yX6_count.desc).map (fun d => d.parameters.length) = some 1 := by decide +kernel
set_option maxHeartbeats 4000000 in
set_option maxRecDepth 100000 in
theorem c_X6_count (l : Launch) (D : va_G) (cI cZ cM : ClassId) (x0 a0 a1 a2 a3 a4 a5 g0 g1 g2 g3 g4 h0 h1 t0 t1 b0 w0 r0 u0 u1 q0 : Nat) (sz : Nat) (a_n : Int32) (a_L : Nat → Int32) (a_U : Nat → Int32) (a_H : Nat → Int32) (a_O : Nat → Int32) (a_B : Nat → Int32) (g_rl : Int32) (g_n : Int32) (g_ri : Nat → Int32) (g_ne : Nat → Int32) (g_re : Nat → Int32) (g_ts : Nat → Int32) (h_sz : Int32) (h_nx : Int32) (h_st : Nat → Option Nat) (t_len : Int32) (t_st : Int32) (t_nx : Int32) (t_kd : Int32) (t_by : Nat → Int32) (x1 : Int32) (fu : Nat) (r : Int32) (g_n' : Int32) (g_ne' : Nat → Int32) (g_re' : Nat → Int32) (hf : m_X6_count fu a_n a_L a_U a_H a_O a_B g_n g_ne g_re h_sz t_len x1 = some (r, g_n', g_ne', g_re')) : Met l yX6_count wsX6_count ({ frames := 4, cells := 0, slots := 0, locals := 90 }) (pM D cI cZ cM sz [(x0, .inr (6, [.ref a0, .ref b0, .ref w0, .ref t0, .ref r0, .ref h0, .ref u0, .ref u1, .ref g0, .ref q0])), (a0, .inr (3, [.int a_n, .ref a1, .ref a2, .ref a3, .ref a4, .ref a5])), (a1, .inl (cI, 10, .inl a_L)), (a2, .inl (cI, 10, .inl a_U)), (a3, .inl (cI, 12, .inl a_H)), (a4, .inl (cI, 10, .inl a_O)), (a5, .inl (cI, 10, .inl a_B)), (g0, .inr (4, [.int g_rl, .ref g1, .int g_n, .ref g2, .ref g3, .ref g4])), (g1, .inl (cI, 10, .inl g_ri)), (g2, .inl (cI, 10, .inl g_ne)), (g3, .inl (cI, 10, .inl g_re)), (g4, .inl (cI, 11, .inl g_ts)), (h0, .inr (2, [.int h_sz, .int h_nx, .ref h1])), (h1, .inl (cM, 8, .inr (.inr (.inr (.inr h_st))))), (t0, .inr (5, [.int t_len, .int t_st, .int t_nx, .int t_kd, .ref t1])), (t1, .inl (cI, 200, .inl t_by))] [.ref x0, .int x1]) (qI D r [(x0, .inr (6, [.ref a0, .ref b0, .ref w0, .ref t0, .ref r0, .ref h0, .ref u0, .ref u1, .ref g0, .ref q0])), (a0, .inr (3, [.int a_n, .ref a1, .ref a2, .ref a3, .ref a4, .ref a5])), (a1, .inl (cI, 10, .inl a_L)), (a2, .inl (cI, 10, .inl a_U)), (a3, .inl (cI, 12, .inl a_H)), (a4, .inl (cI, 10, .inl a_O)), (a5, .inl (cI, 10, .inl a_B)), (g0, .inr (4, [.int g_rl, .ref g1, .int g_n', .ref g2, .ref g3, .ref g4])), (g1, .inl (cI, 10, .inl g_ri)), (g2, .inl (cI, 10, .inl g_ne')), (g3, .inl (cI, 10, .inl g_re')), (g4, .inl (cI, 11, .inl g_ts)), (h0, .inr (2, [.int h_sz, .int h_nx, .ref h1])), (h1, .inl (cM, 8, .inr (.inr (.inr (.inr h_st))))), (t0, .inr (5, [.int t_len, .int t_st, .int t_nx, .int t_kd, .ref t1])), (t1, .inl (cI, 200, .inl t_by))] (va_A [(x0, .inr (6, [.ref a0, .ref b0, .ref w0, .ref t0, .ref r0, .ref h0, .ref u0, .ref u1, .ref g0, .ref q0])), (a0, .inr (3, [.int a_n, .ref a1, .ref a2, .ref a3, .ref a4, .ref a5])), (a1, .inl (cI, 10, .inl a_L)), (a2, .inl (cI, 10, .inl a_U)), (a3, .inl (cI, 12, .inl a_H)), (a4, .inl (cI, 10, .inl a_O)), (a5, .inl (cI, 10, .inl a_B)), (g0, .inr (4, [.int g_rl, .ref g1, .int g_n, .ref g2, .ref g3, .ref g4])), (g1, .inl (cI, 10, .inl g_ri)), (g2, .inl (cI, 10, .inl g_ne)), (g3, .inl (cI, 10, .inl g_re)), (g4, .inl (cI, 11, .inl g_ts)), (h0, .inr (2, [.int h_sz, .int h_nx, .ref h1])), (h1, .inl (cM, 8, .inr (.inr (.inr (.inr h_st))))), (t0, .inr (5, [.int t_len, .int t_st, .int t_nx, .int t_kd, .ref t1])), (t1, .inl (cI, 200, .inl t_by))] sz)) 0 0 (va_A [(x0, .inr (6, [.ref a0, .ref b0, .ref w0, .ref t0, .ref r0, .ref h0, .ref u0, .ref u1, .ref g0, .ref q0])), (a0, .inr (3, [.int a_n, .ref a1, .ref a2, .ref a3, .ref a4, .ref a5])), (a1, .inl (cI, 10, .inl a_L)), (a2, .inl (cI, 10, .inl a_U)), (a3, .inl (cI, 12, .inl a_H)), (a4, .inl (cI, 10, .inl a_O)), (a5, .inl (cI, 10, .inl a_B)), (g0, .inr (4, [.int g_rl, .ref g1, .int g_n, .ref g2, .ref g3, .ref g4])), (g1, .inl (cI, 10, .inl g_ri)), (g2, .inl (cI, 10, .inl g_ne)), (g3, .inl (cI, 10, .inl g_re)), (g4, .inl (cI, 11, .inl g_ts)), (h0, .inr (2, [.int h_sz, .int h_nx, .ref h1])), (h1, .inl (cM, 8, .inr (.inr (.inr (.inr h_st))))), (t0, .inr (5, [.int t_len, .int t_st, .int t_nx, .int t_kd, .ref t1])), (t1, .inl (cI, 200, .inl t_by))] sz) := by
  refine Met.ofW (cc := cX6_count) (maxL := 2) (ret := (some .int)) (by decide) rfl ?_
  intro p e s m args below meth c s₁ B hml hv
  obtain ⟨rfl, hsz, hP, hK, hD0⟩ := hv
  have hx := B.exec
  have hb := B.bytes
  have hr := B.returns
  have hts := atoms_spec (ws := wsX6_count) B.pre
  have hown : s.vm.findClass RX6 = some m.cls := findClass_of_methodNamed B.named
  have hlocks := B.notSynchronized
  subst hsz
  have hD := hD0.self (sz := s.heap.size)
  generalize hAe : va_A [(x0, .inr (6, [.ref a0, .ref b0, .ref w0, .ref t0, .ref r0, .ref h0, .ref u0, .ref u1, .ref g0, .ref q0])), (a0, .inr (3, [.int a_n, .ref a1, .ref a2, .ref a3, .ref a4, .ref a5])), (a1, .inl (cI, 10, .inl a_L)), (a2, .inl (cI, 10, .inl a_U)), (a3, .inl (cI, 12, .inl a_H)), (a4, .inl (cI, 10, .inl a_O)), (a5, .inl (cI, 10, .inl a_B)), (g0, .inr (4, [.int g_rl, .ref g1, .int g_n, .ref g2, .ref g3, .ref g4])), (g1, .inl (cI, 10, .inl g_ri)), (g2, .inl (cI, 10, .inl g_ne)), (g3, .inl (cI, 10, .inl g_re)), (g4, .inl (cI, 11, .inl g_ts)), (h0, .inr (2, [.int h_sz, .int h_nx, .ref h1])), (h1, .inl (cM, 8, .inr (.inr (.inr (.inr h_st))))), (t0, .inr (5, [.int t_len, .int t_st, .int t_nx, .int t_kd, .ref t1])), (t1, .inl (cI, 200, .inl t_by))] s.heap.size = A at hD ⊢
  have hA : ∀ q : Nat, s.heap.size ≤ q → A q := fun q h => by rw [← hAe]; exact Or.inr h
  clear hAe hD0
  have hfl_10 := hts (.fieldLink RX6 10 "TermsFirst" "manual" "LTermsFirst$Manual;") (List.mem_cons_of_mem _ (List.mem_append_left _ (List.mem_append_left _ (List.mem_append_left _ (List.mem_append_left _ (List.mem_append_left _ (List.mem_append_left _ (List.mem_of_getElem? (i := 0) rfl))))))))
  have hfl_26 := hts (.fieldLink RX6 26 "TermsFirst" "text" "LTermsFirst$Text;") (List.mem_cons_of_mem _ (List.mem_append_left _ (List.mem_append_left _ (List.mem_append_left _ (List.mem_append_left _ (List.mem_append_left _ (List.mem_append_left _ (List.mem_of_getElem? (i := 6) rfl))))))))
  have hfl_42 := hts (.fieldLink RX6 42 "TermsFirst" "history" "LTermsFirst$History;") (List.mem_cons_of_mem _ (List.mem_append_left _ (List.mem_append_left _ (List.mem_append_left _ (List.mem_append_left _ (List.mem_append_left _ (List.mem_append_left _ (List.mem_of_getElem? (i := 4) rfl))))))))
  have hfl_57 := hts (.fieldLink RX6 57 "TermsFirst" "graph" "LTermsFirst$NeedGraph;") (List.mem_cons_of_mem _ (List.mem_append_left _ (List.mem_append_left _ (List.mem_append_left _ (List.mem_append_left _ (List.mem_append_left _ (List.mem_append_left _ (List.mem_of_getElem? (i := 3) rfl))))))))
  have hfl_68 := hts (.fieldLink RX6 68 "TermsFirst$Text" "length" "I") (List.mem_cons_of_mem _ (List.mem_append_left _ (List.mem_append_left _ (List.mem_append_left _ (List.mem_append_left _ (List.mem_append_left _ (List.mem_append_left _ (List.mem_of_getElem? (i := 7) rfl))))))))
  have hfl_149 := hts (.fieldLink RX6 149 "TermsFirst$History" "size" "I") (List.mem_cons_of_mem _ (List.mem_append_left _ (List.mem_append_left _ (List.mem_append_left _ (List.mem_append_left _ (List.mem_append_left _ (List.mem_append_left _ (List.mem_of_getElem? (i := 5) rfl))))))))
  have hfl_155 := hts (.fieldLink RX6 155 "TermsFirst$Manual" "order" "[I") (List.mem_cons_of_mem _ (List.mem_append_left _ (List.mem_append_left _ (List.mem_append_left _ (List.mem_append_left _ (List.mem_append_left _ (List.mem_append_left _ (List.mem_of_getElem? (i := 2) rfl))))))))
  have hfl_216 := hts (.fieldLink RX6 216 "TermsFirst$Manual" "n" "I") (List.mem_cons_of_mem _ (List.mem_append_left _ (List.mem_append_left _ (List.mem_append_left _ (List.mem_append_left _ (List.mem_append_left _ (List.mem_append_left _ (List.mem_of_getElem? (i := 1) rfl))))))))
  have hiX2 : ∀ w ∈ u_ws RX2 TX2 3, w ∈ wsX6_count := fun _ h => (List.mem_cons_of_mem _ (List.mem_append_left _ (List.mem_append_left _ (List.mem_append_right _ h))))
  have hiX3 : ∀ w ∈ u_ws RX3 TX3 6, w ∈ wsX6_count := fun _ h => (List.mem_cons_of_mem _ (List.mem_append_left _ (List.mem_append_left _ (List.mem_append_left _ (List.mem_append_right _ h)))))
  have hiX5 : ∀ w ∈ u_ws RX5 TX5 5, w ∈ wsX6_count := fun _ h => (List.mem_cons_of_mem _ (List.mem_append_left _ (List.mem_append_right _ h)))
  have hiX6 : ∀ w ∈ u_ws RX6 TX6 10, w ∈ wsX6_count := fun _ h => (List.mem_cons_of_mem _ (List.mem_append_left _ (List.mem_append_left _ (List.mem_append_left _ (List.mem_append_left _ (List.mem_append_right _ h))))))
  have hl := lv_entry ([.ref x0, .int x1]) (n := 2) (Nat.le_of_ble_eq_true rfl)
  rw [lg_entry_eq]
  generalize (lg_sl ([.ref x0, .int x1]) ++ List.replicate (2 - (lg_sl ([.ref x0, .int x1])).length) Slot.unset).toArray = ls at hl ⊢
  have hl : lv_has ls 2 [(0, .ref x0), (1, .int x1)] := hl
  have hS : va_S A s.heap s.heap [] := va_S.rf
  unfold m_X6_count at hf
  refine lv_iload_n hx hb dX6_count_0 rfl (lv_at hl 1 rfl) ?_
  by_cases hk0 : x1 = (nI 0)
  · have hf := ifp hk0 hf
    refine lv_tableIn (off := 63) (tgt := 64) hx hb dX6_count_1 (by rw [hk0]; decide +kernel) (by rw [hk0]; decide +kernel) (by rw [hk0]; decide +kernel) (by decide) ?_
    refine lv_aload_n hx hb dX6_count_64 rfl (lv_at hl 0 rfl) ?_
    refine va_get (D := D) (ci := 6) (v := .ref a0) (C := RX6) (T := TX6) (N := 10) hx hb hts hiX6 hown hK.1 hP 0 rfl rfl 0 (by decide) hfl_10 (fun _ h9 => h9) rfl dX6_count_65 ?_
    refine va_get (D := D) (ci := 3) (v := .int a_n) (C := RX3) (T := TX3) (N := 6) hx hb hts hiX3 hown hK.1 hP 1 rfl rfl 0 (by decide) hfl_216 (fun _ h9 => h9) rfl dX6_count_68 ?_
    cases hf
    exact W.iret hx hb hr (fun t ht _ => ⟨⟨rfl, by rw [ht]; exact hP, hD⟩, hS.F ht⟩) hS.2.2 dX6_count_71
  · have hf := ifn hk0 hf
    by_cases hk1 : x1 = (nI 1)
    · have hf := ifp hk1 hf
      refine lv_tableIn (off := 71) (tgt := 72) hx hb dX6_count_1 (by rw [hk1]; decide +kernel) (by rw [hk1]; decide +kernel) (by rw [hk1]; decide +kernel) (by decide) ?_
      refine lv_aload_n hx hb dX6_count_72 rfl (lv_at hl 0 rfl) ?_
      refine va_get (D := D) (ci := 6) (v := .ref a0) (C := RX6) (T := TX6) (N := 10) hx hb hts hiX6 hown hK.1 hP 0 rfl rfl 0 (by decide) hfl_10 (fun _ h9 => h9) rfl dX6_count_73 ?_
      refine lv_aload_n hx hb dX6_count_76 rfl (lv_at hl 0 rfl) ?_
      refine va_get (D := D) (ci := 6) (v := .ref a0) (C := RX6) (T := TX6) (N := 10) hx hb hts hiX6 hown hK.1 hP 0 rfl rfl 0 (by decide) hfl_10 (fun _ h9 => h9) rfl dX6_count_77 ?_
      refine va_get (D := D) (ci := 3) (v := .ref a4) (C := RX3) (T := TX3) (N := 6) hx hb hts hiX3 hown hK.1 hP 1 rfl rfl 4 (by decide) hfl_155 (fun _ h9 => h9) rfl dX6_count_80 ?_
      obtain ⟨rv1, hrv1, hf⟩ := bd hf
      refine roI (va_runV (As := [.ref a4]) (rest := []) ⟨hx, hb, hml, hown, hts⟩ (c_X3_countNotes l D cI cZ cM a0 a1 a2 a3 a4 a5 a4 a_n a_L a_U a_H a_O a_B a_O fu rv1 hrv1) (cwV 1 hts gX6_count_X3_countNotes rfl rfl rfl ⟨rfl, hdc_X3_countNotes⟩ ⟨Nat.le_of_ble_eq_true rfl, Nat.le_of_ble_eq_true rfl⟩) (prV hK hP [1, 2, 3, 4, 5, 6, 5] rfl (ci := 3) (q0 := 1) rfl rfl) rfl rfl hl.1 rfl (lv_room (Nat.le_of_ble_eq_true rfl)) dX6_count_83 ⟨Nat.zero_le _, Nat.zero_le _⟩) ?_
      cases hf
      exact W.iret hx hb hr (fun t ht _ => ⟨⟨rfl, by rw [ht]; exact hP, hD⟩, hS.F ht⟩) hS.2.2 dX6_count_86
    · have hf := ifn hk1 hf
      by_cases hk2 : x1 = (nI 2)
      · have hf := ifp hk2 hf
        refine lv_tableIn (off := 86) (tgt := 87) hx hb dX6_count_1 (by rw [hk2]; decide +kernel) (by rw [hk2]; decide +kernel) (by rw [hk2]; decide +kernel) (by decide) ?_
        refine lv_aload_n hx hb dX6_count_87 rfl (lv_at hl 0 rfl) ?_
        refine va_get (D := D) (ci := 6) (v := .ref a0) (C := RX6) (T := TX6) (N := 10) hx hb hts hiX6 hown hK.1 hP 0 rfl rfl 0 (by decide) hfl_10 (fun _ h9 => h9) rfl dX6_count_88 ?_
        obtain ⟨rv2, hrv2, hf⟩ := bd hf
        refine roI (va_runV (As := []) (rest := []) ⟨hx, hb, hml, hown, hts⟩ (c_X3_countLoose l D cI cZ cM a0 a1 a2 a3 a4 a5 a_n a_L a_U a_H a_O a_B fu rv2 hrv2) (cwV 0 hts gX6_count_X3_countLoose rfl rfl rfl ⟨rfl, hdc_X3_countLoose⟩ ⟨Nat.le_of_ble_eq_true rfl, Nat.le_of_ble_eq_true rfl⟩) (prV hK hP [1, 2, 3, 4, 5, 6] rfl (ci := 3) (q0 := 1) rfl rfl) rfl rfl hl.1 rfl (lv_room (Nat.le_of_ble_eq_true rfl)) dX6_count_91 ⟨Nat.zero_le _, Nat.zero_le _⟩) ?_
        cases hf
        exact W.iret hx hb hr (fun t ht _ => ⟨⟨rfl, by rw [ht]; exact hP, hD⟩, hS.F ht⟩) hS.2.2 dX6_count_94
      · have hf := ifn hk2 hf
        by_cases hk3 : x1 = (nI 3)
        · have hf := ifp hk3 hf
          refine lv_tableIn (off := 94) (tgt := 95) hx hb dX6_count_1 (by rw [hk3]; decide +kernel) (by rw [hk3]; decide +kernel) (by rw [hk3]; decide +kernel) (by decide) ?_
          refine lv_aload_n hx hb dX6_count_95 rfl (lv_at hl 0 rfl) ?_
          refine va_get (D := D) (ci := 6) (v := .ref a0) (C := RX6) (T := TX6) (N := 10) hx hb hts hiX6 hown hK.1 hP 0 rfl rfl 0 (by decide) hfl_10 (fun _ h9 => h9) rfl dX6_count_96 ?_
          obtain ⟨rv3, hrv3, hf⟩ := bd hf
          refine roI (va_runV (As := []) (rest := []) ⟨hx, hb, hml, hown, hts⟩ (c_X3_countHomes l D cI cZ cM a0 a1 a2 a3 a4 a5 a_n a_L a_U a_H a_O a_B fu rv3 hrv3) (cwV 0 hts gX6_count_X3_countHomes rfl rfl rfl ⟨rfl, hdc_X3_countHomes⟩ ⟨Nat.le_of_ble_eq_true rfl, Nat.le_of_ble_eq_true rfl⟩) (prV hK hP [1, 2, 3, 4, 5, 6] rfl (ci := 3) (q0 := 1) rfl rfl) rfl rfl hl.1 rfl (lv_room (Nat.le_of_ble_eq_true rfl)) dX6_count_99 ⟨Nat.zero_le _, Nat.zero_le _⟩) ?_
          cases hf
          exact W.iret hx hb hr (fun t ht _ => ⟨⟨rfl, by rw [ht]; exact hP, hD⟩, hS.F ht⟩) hS.2.2 dX6_count_102
        · have hf := ifn hk3 hf
          by_cases hk4 : x1 = (nI 4)
          · have hf := ifp hk4 hf
            refine lv_tableIn (off := 102) (tgt := 103) hx hb dX6_count_1 (by rw [hk4]; decide +kernel) (by rw [hk4]; decide +kernel) (by rw [hk4]; decide +kernel) (by decide) ?_
            refine lv_aload_n hx hb dX6_count_103 rfl (lv_at hl 0 rfl) ?_
            refine va_get (D := D) (ci := 6) (v := .ref a0) (C := RX6) (T := TX6) (N := 10) hx hb hts hiX6 hown hK.1 hP 0 rfl rfl 0 (by decide) hfl_10 (fun _ h9 => h9) rfl dX6_count_104 ?_
            obtain ⟨rv4, hrv4, hf⟩ := bd hf
            refine roI (va_runV (As := []) (rest := []) ⟨hx, hb, hml, hown, hts⟩ (c_X3_countUses l D cI cZ cM a0 a1 a2 a3 a4 a5 a_n a_L a_U a_H a_O a_B fu rv4 hrv4) (cwV 0 hts gX6_count_X3_countUses rfl rfl rfl ⟨rfl, hdc_X3_countUses⟩ ⟨Nat.le_of_ble_eq_true rfl, Nat.le_of_ble_eq_true rfl⟩) (prV hK hP [1, 2, 3, 4, 5, 6] rfl (ci := 3) (q0 := 1) rfl rfl) rfl rfl hl.1 rfl (lv_room (Nat.le_of_ble_eq_true rfl)) dX6_count_107 ⟨Nat.zero_le _, Nat.zero_le _⟩) ?_
            cases hf
            exact W.iret hx hb hr (fun t ht _ => ⟨⟨rfl, by rw [ht]; exact hP, hD⟩, hS.F ht⟩) hS.2.2 dX6_count_110
          · have hf := ifn hk4 hf
            by_cases hk5 : x1 = (nI 5)
            · have hf := ifp hk5 hf
              refine lv_tableIn (off := 110) (tgt := 111) hx hb dX6_count_1 (by rw [hk5]; decide +kernel) (by rw [hk5]; decide +kernel) (by rw [hk5]; decide +kernel) (by decide) ?_
              refine lv_aload_n hx hb dX6_count_111 rfl (lv_at hl 0 rfl) ?_
              refine va_get (D := D) (ci := 6) (v := .ref a0) (C := RX6) (T := TX6) (N := 10) hx hb hts hiX6 hown hK.1 hP 0 rfl rfl 0 (by decide) hfl_10 (fun _ h9 => h9) rfl dX6_count_112 ?_
              obtain ⟨rv5, hrv5, hf⟩ := bd hf
              refine roI (va_runV (As := []) (rest := []) ⟨hx, hb, hml, hown, hts⟩ (c_X3_countEarly l D cI cZ cM a0 a1 a2 a3 a4 a5 a_n a_L a_U a_H a_O a_B fu rv5 hrv5) (cwV 0 hts gX6_count_X3_countEarly rfl rfl rfl ⟨rfl, hdc_X3_countEarly⟩ ⟨Nat.le_of_ble_eq_true rfl, Nat.le_of_ble_eq_true rfl⟩) (prV hK hP [1, 2, 3, 4, 5, 6] rfl (ci := 3) (q0 := 1) rfl rfl) rfl rfl hl.1 rfl (lv_room (Nat.le_of_ble_eq_true rfl)) dX6_count_115 ⟨Nat.zero_le _, Nat.zero_le _⟩) ?_
              cases hf
              exact W.iret hx hb hr (fun t ht _ => ⟨⟨rfl, by rw [ht]; exact hP, hD⟩, hS.F ht⟩) hS.2.2 dX6_count_118
            · have hf := ifn hk5 hf
              by_cases hk6 : x1 = (nI 6)
              · have hf := ifp hk6 hf
                refine lv_tableIn (off := 118) (tgt := 119) hx hb dX6_count_1 (by rw [hk6]; decide +kernel) (by rw [hk6]; decide +kernel) (by rw [hk6]; decide +kernel) (by decide) ?_
                refine lv_aload_n hx hb dX6_count_119 rfl (lv_at hl 0 rfl) ?_
                refine va_get (D := D) (ci := 6) (v := .ref a0) (C := RX6) (T := TX6) (N := 10) hx hb hts hiX6 hown hK.1 hP 0 rfl rfl 0 (by decide) hfl_10 (fun _ h9 => h9) rfl dX6_count_120 ?_
                obtain ⟨rv6, hrv6, hf⟩ := bd hf
                refine roI (va_runV (As := []) (rest := []) ⟨hx, hb, hml, hown, hts⟩ (c_X3_countPrecedences l D cI cZ cM a0 a1 a2 a3 a4 a5 a_n a_L a_U a_H a_O a_B fu rv6 hrv6) (cwV 0 hts gX6_count_X3_countPrecedences rfl rfl rfl ⟨rfl, hdc_X3_countPrecedences⟩ ⟨Nat.le_of_ble_eq_true rfl, Nat.le_of_ble_eq_true rfl⟩) (prV hK hP [1, 2, 3, 4, 5, 6] rfl (ci := 3) (q0 := 1) rfl rfl) rfl rfl hl.1 rfl (lv_room (Nat.le_of_ble_eq_true rfl)) dX6_count_123 ⟨Nat.zero_le _, Nat.zero_le _⟩) ?_
                cases hf
                exact W.iret hx hb hr (fun t ht _ => ⟨⟨rfl, by rw [ht]; exact hP, hD⟩, hS.F ht⟩) hS.2.2 dX6_count_126
              · have hf := ifn hk6 hf
                by_cases hk7 : x1 = (nI 7)
                · have hf := ifp hk7 hf
                  refine lv_tableIn (off := 126) (tgt := 127) hx hb dX6_count_1 (by rw [hk7]; decide +kernel) (by rw [hk7]; decide +kernel) (by rw [hk7]; decide +kernel) (by decide) ?_
                  refine lv_aload_n hx hb dX6_count_127 rfl (lv_at hl 0 rfl) ?_
                  refine va_get (D := D) (ci := 6) (v := .ref a0) (C := RX6) (T := TX6) (N := 10) hx hb hts hiX6 hown hK.1 hP 0 rfl rfl 0 (by decide) hfl_10 (fun _ h9 => h9) rfl dX6_count_128 ?_
                  refine lv_aload_n hx hb dX6_count_131 rfl (lv_at hl 0 rfl) ?_
                  refine va_get (D := D) (ci := 6) (v := .ref a0) (C := RX6) (T := TX6) (N := 10) hx hb hts hiX6 hown hK.1 hP 0 rfl rfl 0 (by decide) hfl_10 (fun _ h9 => h9) rfl dX6_count_132 ?_
                  refine va_get (D := D) (ci := 3) (v := .ref a4) (C := RX3) (T := TX3) (N := 6) hx hb hts hiX3 hown hK.1 hP 1 rfl rfl 4 (by decide) hfl_155 (fun _ h9 => h9) rfl dX6_count_135 ?_
                  obtain ⟨rv7, hrv7, hf⟩ := bd hf
                  refine roI (va_runV (As := [.ref a4]) (rest := []) ⟨hx, hb, hml, hown, hts⟩ (c_X3_sumNoteLengths l D cI cZ cM a0 a1 a2 a3 a4 a5 a4 a_n a_L a_U a_H a_O a_B a_O fu rv7 hrv7) (cwV 1 hts gX6_count_X3_sumNoteLengths rfl rfl rfl ⟨rfl, hdc_X3_sumNoteLengths⟩ ⟨Nat.le_of_ble_eq_true rfl, Nat.le_of_ble_eq_true rfl⟩) (prV hK hP [1, 2, 3, 4, 5, 6, 5] rfl (ci := 3) (q0 := 1) rfl rfl) rfl rfl hl.1 rfl (lv_room (Nat.le_of_ble_eq_true rfl)) dX6_count_138 ⟨Nat.zero_le _, Nat.zero_le _⟩) ?_
                  cases hf
                  exact W.iret hx hb hr (fun t ht _ => ⟨⟨rfl, by rw [ht]; exact hP, hD⟩, hS.F ht⟩) hS.2.2 dX6_count_141
                · have hf := ifn hk7 hf
                  by_cases hk8 : x1 = (nI 8)
                  · have hf := ifp hk8 hf
                    refine lv_tableIn (off := 141) (tgt := 142) hx hb dX6_count_1 (by rw [hk8]; decide +kernel) (by rw [hk8]; decide +kernel) (by rw [hk8]; decide +kernel) (by decide) ?_
                    refine lv_aload_n hx hb dX6_count_142 rfl (lv_at hl 0 rfl) ?_
                    refine va_get (D := D) (ci := 6) (v := .ref g0) (C := RX6) (T := TX6) (N := 10) hx hb hts hiX6 hown hK.1 hP 0 rfl rfl 8 (by decide) hfl_57 (fun _ h9 => h9) rfl dX6_count_143 ?_
                    refine lv_aload_n hx hb dX6_count_146 rfl (lv_at hl 0 rfl) ?_
                    refine va_get (D := D) (ci := 6) (v := .ref a0) (C := RX6) (T := TX6) (N := 10) hx hb hts hiX6 hown hK.1 hP 0 rfl rfl 0 (by decide) hfl_10 (fun _ h9 => h9) rfl dX6_count_147 ?_
                    obtain ⟨rv8, hrv8, hf⟩ := bd hf
                    refine muV0 (wr := [(x0, .inr (6, [.ref a0, .ref b0, .ref w0, .ref t0, .ref r0, .ref h0, .ref u0, .ref u1, .ref g0, .ref q0])), (h0, .inr (2, [.int h_sz, .int h_nx, .ref h1])), (h1, .inl (cM, 8, .inr (.inr (.inr (.inr h_st))))), (t0, .inr (5, [.int t_len, .int t_st, .int t_nx, .int t_kd, .ref t1])), (t1, .inl (cI, 200, .inl t_by))]) (va_runV (As := [.ref a0]) (rest := []) ⟨hx, hb, hml, hown, hts⟩ (c_X4_draw l D cI cZ cM g0 g1 g2 g3 g4 a0 a1 a2 a3 a4 a5 _ g_rl g_n g_ri g_ne g_re g_ts a_n a_L a_U a_H a_O a_B fu rv8.1 rv8.2.1 rv8.2.2 hrv8) (cwV 1 hts gX6_count_X4_draw rfl rfl rfl ⟨rfl, hdc_X4_draw⟩ ⟨Nat.le_of_ble_eq_true rfl, Nat.le_of_ble_eq_true rfl⟩) (pmV hK hP hD [7, 8, 9, 10, 11, 1, 2, 3, 4, 5, 6] (by decide) rfl rfl (ci := 4) (q0 := 7) rfl rfl) rfl rfl hl.1 rfl (lv_room (Nat.le_of_ble_eq_true rfl)) dX6_count_150 ⟨Nat.zero_le _, Nat.zero_le _⟩) hP hD hS hA [7, 8, 9, 10, 11, 1, 2, 3, 4, 5, 6] [0, 12, 13, 14, 15] rfl rfl (by decide) (by decide) (fun H locs hP hD hS => ?_)
                    have hP : va_P D vwCl [(x0, .inr (6, [.ref a0, .ref b0, .ref w0, .ref t0, .ref r0, .ref h0, .ref u0, .ref u1, .ref g0, .ref q0])), (h0, .inr (2, [.int h_sz, .int h_nx, .ref h1])), (h1, .inl (cM, 8, .inr (.inr (.inr (.inr h_st))))), (t0, .inr (5, [.int t_len, .int t_st, .int t_nx, .int t_kd, .ref t1])), (t1, .inl (cI, 200, .inl t_by)), (g0, .inr (4, [.int g_rl, .ref g1, .int rv8.1, .ref g2, .ref g3, .ref g4])), (g1, .inl (cI, 10, .inl g_ri)), (g2, .inl (cI, 10, .inl rv8.2.1)), (g3, .inl (cI, 10, .inl rv8.2.2)), (g4, .inl (cI, 11, .inl g_ts)), (a0, .inr (3, [.int a_n, .ref a1, .ref a2, .ref a3, .ref a4, .ref a5])), (a1, .inl (cI, 10, .inl a_L)), (a2, .inl (cI, 10, .inl a_U)), (a3, .inl (cI, 12, .inl a_H)), (a4, .inl (cI, 10, .inl a_O)), (a5, .inl (cI, 10, .inl a_B))] H := hP
                    have hD : va_D A [(x0, .inr (6, [.ref a0, .ref b0, .ref w0, .ref t0, .ref r0, .ref h0, .ref u0, .ref u1, .ref g0, .ref q0])), (h0, .inr (2, [.int h_sz, .int h_nx, .ref h1])), (h1, .inl (cM, 8, .inr (.inr (.inr (.inr h_st))))), (t0, .inr (5, [.int t_len, .int t_st, .int t_nx, .int t_kd, .ref t1])), (t1, .inl (cI, 200, .inl t_by)), (g0, .inr (4, [.int g_rl, .ref g1, .int rv8.1, .ref g2, .ref g3, .ref g4])), (g1, .inl (cI, 10, .inl g_ri)), (g2, .inl (cI, 10, .inl rv8.2.1)), (g3, .inl (cI, 10, .inl rv8.2.2)), (g4, .inl (cI, 11, .inl g_ts)), (a0, .inr (3, [.int a_n, .ref a1, .ref a2, .ref a3, .ref a4, .ref a5])), (a1, .inl (cI, 10, .inl a_L)), (a2, .inl (cI, 10, .inl a_U)), (a3, .inl (cI, 12, .inl a_H)), (a4, .inl (cI, 10, .inl a_O)), (a5, .inl (cI, 10, .inl a_B))] := hD
                    refine lv_aload_n hx hb dX6_count_153 rfl (lv_at hl 0 rfl) ?_
                    refine va_get (D := D) (ci := 6) (v := .ref g0) (C := RX6) (T := TX6) (N := 10) hx hb hts hiX6 hown hK.1 hP 0 rfl rfl 8 (by decide) hfl_57 (fun _ h9 => h9) rfl dX6_count_154 ?_
                    obtain ⟨rv9, hrv9, hf⟩ := bd hf
                    refine roI (va_runV (As := []) (rest := []) ⟨hx, hb, hml, hown, hts⟩ (c_X4_countLargeComponents l D cI cZ cM g0 g1 g2 g3 g4 g_rl rv8.1 g_ri rv8.2.1 rv8.2.2 g_ts fu rv9 hrv9) (cwV 0 hts gX6_count_X4_countLargeComponents rfl rfl rfl ⟨rfl, hdc_X4_countLargeComponents⟩ ⟨Nat.le_of_ble_eq_true rfl, Nat.le_of_ble_eq_true rfl⟩) (prV hK hP [5, 6, 7, 8, 9] rfl (ci := 4) (q0 := 5) rfl rfl) rfl rfl hl.1 rfl (lv_room (Nat.le_of_ble_eq_true rfl)) dX6_count_157 ⟨Nat.zero_le _, Nat.zero_le _⟩) ?_
                    cases hf
                    exact W.iret hx hb hr (fun t ht _ => ⟨⟨rfl, by rw [ht]; exact (hP.sub [0, 10, 11, 12, 13, 14, 15, 5, 6, 7, 8, 9, 1, 2, 3, 4] rfl), (hD.sub [0, 10, 11, 12, 13, 14, 15, 5, 6, 7, 8, 9, 1, 2, 3, 4] (by decide) rfl)⟩, hS.F ht⟩) hS.2.2 dX6_count_160
                  · have hf := ifn hk8 hf
                    by_cases hk9 : x1 = (nI 9)
                    · have hf := ifp hk9 hf
                      refine lv_tableIn (off := 160) (tgt := 161) hx hb dX6_count_1 (by rw [hk9]; decide +kernel) (by rw [hk9]; decide +kernel) (by rw [hk9]; decide +kernel) (by decide) ?_
                      refine lv_aload_n hx hb dX6_count_161 rfl (lv_at hl 0 rfl) ?_
                      refine va_get (D := D) (ci := 6) (v := .ref h0) (C := RX6) (T := TX6) (N := 10) hx hb hts hiX6 hown hK.1 hP 0 rfl rfl 5 (by decide) hfl_42 (fun _ h9 => h9) rfl dX6_count_162 ?_
                      refine va_get (D := D) (ci := 2) (v := .int h_sz) (C := RX2) (T := TX2) (N := 3) hx hb hts hiX2 hown hK.1 hP 12 rfl rfl 0 (by decide) hfl_149 (fun _ h9 => h9) rfl dX6_count_165 ?_
                      cases hf
                      exact W.iret hx hb hr (fun t ht _ => ⟨⟨rfl, by rw [ht]; exact hP, hD⟩, hS.F ht⟩) hS.2.2 dX6_count_168
                    · have hf := ifn hk9 hf
                      by_cases hk10 : x1 = (nI 10)
                      · have hf := ifp hk10 hf
                        refine lv_tableIn (off := 168) (tgt := 169) hx hb dX6_count_1 (by rw [hk10]; decide +kernel) (by rw [hk10]; decide +kernel) (by rw [hk10]; decide +kernel) (by decide) ?_
                        refine lv_aload_n hx hb dX6_count_169 rfl (lv_at hl 0 rfl) ?_
                        refine va_get (D := D) (ci := 6) (v := .ref t0) (C := RX6) (T := TX6) (N := 10) hx hb hts hiX6 hown hK.1 hP 0 rfl rfl 3 (by decide) hfl_26 (fun _ h9 => h9) rfl dX6_count_170 ?_
                        refine va_get (D := D) (ci := 5) (v := .int t_len) (C := RX5) (T := TX5) (N := 5) hx hb hts hiX5 hown hK.1 hP 14 rfl rfl 0 (by decide) hfl_68 (fun _ h9 => h9) rfl dX6_count_173 ?_
                        cases hf
                        exact W.iret hx hb hr (fun t ht _ => ⟨⟨rfl, by rw [ht]; exact hP, hD⟩, hS.F ht⟩) hS.2.2 dX6_count_176
                      · have hf := ifn hk10 hf
                        by_cases hk11 : x1 = (nI 11)
                        · have hf := ifp hk11 hf
                          refine lv_tableIn (off := 176) (tgt := 177) hx hb dX6_count_1 (by rw [hk11]; decide +kernel) (by rw [hk11]; decide +kernel) (by rw [hk11]; decide +kernel) (by decide) ?_
                          refine lv_aload_n hx hb dX6_count_177 rfl (lv_at hl 0 rfl) ?_
                          refine va_get (D := D) (ci := 6) (v := .ref a0) (C := RX6) (T := TX6) (N := 10) hx hb hts hiX6 hown hK.1 hP 0 rfl rfl 0 (by decide) hfl_10 (fun _ h9 => h9) rfl dX6_count_178 ?_
                          obtain ⟨rv10, hrv10, hf⟩ := bd hf
                          refine roI (va_runV (As := []) (rest := []) ⟨hx, hb, hml, hown, hts⟩ (c_X3_sumPages l D cI cZ cM a0 a1 a2 a3 a4 a5 a_n a_L a_U a_H a_O a_B fu rv10 hrv10) (cwV 0 hts gX6_count_X3_sumPages rfl rfl rfl ⟨rfl, hdc_X3_sumPages⟩ ⟨Nat.le_of_ble_eq_true rfl, Nat.le_of_ble_eq_true rfl⟩) (prV hK hP [1, 2, 3, 4, 5, 6] rfl (ci := 3) (q0 := 1) rfl rfl) rfl rfl hl.1 rfl (lv_room (Nat.le_of_ble_eq_true rfl)) dX6_count_181 ⟨Nat.zero_le _, Nat.zero_le _⟩) ?_
                          cases hf
                          exact W.iret hx hb hr (fun t ht _ => ⟨⟨rfl, by rw [ht]; exact hP, hD⟩, hS.F ht⟩) hS.2.2 dX6_count_184
                        · have hf := ifn hk11 hf
                          refine lv_tableOut (tgt := 185) hx hb dX6_count_1 (tsOut (fun k h1 _ => by rcases (show k = 0 ∨ k = 1 ∨ k = 2 ∨ k = 3 ∨ k = 4 ∨ k = 5 ∨ k = 6 ∨ k = 7 ∨ k = 8 ∨ k = 9 ∨ k = 10 ∨ k = 11 by omega) with rfl | rfl | rfl | rfl | rfl | rfl | rfl | rfl | rfl | rfl | rfl | rfl <;> assumption)) (by decide) ?_
                          refine lv_bipush (v := (-3 : Int32)) hx hb dX6_count_185 bp_m3 ?_
                          cases hf
                          exact W.iret hx hb hr (fun t ht _ => ⟨⟨rfl, by rw [ht]; exact hP, hD⟩, hS.F ht⟩) hS.2.2 dX6_count_187
theorem hdc_X7_begins : yX7_begins.cls ≠ "java/lang/invoke/MethodHandle" ∧ yX7_begins.cls ≠ "java/lang/invoke/VarHandle" ∧ (parseMethodDescriptor yX7_begins.desc).map (fun d => d.parameters.length) = some 1 := by decide +kernel
set_option maxHeartbeats 4000000 in
set_option maxRecDepth 100000 in
theorem c_X7_begins (l : Launch) (D : va_G) (cI cZ cM : ClassId) (k0 k1 k2 k3 k4 k5 k6 k7 : Nat) (sz : Nat) (k_un : Int32) (k_len : Int32) (k_fi : Int32) (k_be : Int32) (k_to : Int32) (k_cl : Int32) (k_do : Int32) (k_ro : Nat → Int32) (k_ke : Nat → Int32) (k_te : Nat → Int32) (k_nu : Nat → Int32) (k_na : Nat → Int32) (k_no : Nat → Int32) (k_tu : Nat → Int32) (x1 : Int32) (fu : Nat) (k_ro' : Nat → Int32) (hf : m_X7_begins fu k_ro x1 = some k_ro') : Met l yX7_begins wsX7_begins ({ frames := 0, cells := 0, slots := 0, locals := 0 }) (pM D cI cZ cM sz [(k0, .inr (7, [.ref k1, .int k_un, .ref k2, .ref k3, .int k_len, .int k_fi, .int k_be, .int k_to, .int k_cl, .int k_do, .ref k4, .ref k5, .ref k6, .ref k7])), (k1, .inl (cI, 583, .inl k_ro)), (k2, .inl (cZ, 2, .inl k_ke)), (k3, .inl (cI, 200, .inl k_te)), (k4, .inl (cI, 10, .inl k_nu)), (k5, .inl (cI, 48, .inl k_na)), (k6, .inl (cI, 1024, .inl k_no)), (k7, .inl (cI, 1024, .inl k_tu))] [.ref k0, .int x1]) (qV D [(k0, .inr (7, [.ref k1, .int k_un, .ref k2, .ref k3, .int k_len, .int k_fi, .int k_be, .int k_to, .int k_cl, .int k_do, .ref k4, .ref k5, .ref k6, .ref k7])), (k1, .inl (cI, 583, .inl k_ro')), (k2, .inl (cZ, 2, .inl k_ke)), (k3, .inl (cI, 200, .inl k_te)), (k4, .inl (cI, 10, .inl k_nu)), (k5, .inl (cI, 48, .inl k_na)), (k6, .inl (cI, 1024, .inl k_no)), (k7, .inl (cI, 1024, .inl k_tu))] (va_A [(k0, .inr (7, [.ref k1, .int k_un, .ref k2, .ref k3, .int k_len, .int k_fi, .int k_be, .int k_to, .int k_cl, .int k_do, .ref k4, .ref k5, .ref k6, .ref k7])), (k1, .inl (cI, 583, .inl k_ro)), (k2, .inl (cZ, 2, .inl k_ke)), (k3, .inl (cI, 200, .inl k_te)), (k4, .inl (cI, 10, .inl k_nu)), (k5, .inl (cI, 48, .inl k_na)), (k6, .inl (cI, 1024, .inl k_no)), (k7, .inl (cI, 1024, .inl k_tu))] sz)) 0 0 (va_A [(k0, .inr (7, [.ref k1, .int k_un, .ref k2, .ref k3, .int k_len, .int k_fi, .int k_be, .int k_to, .int k_cl, .int k_do, .ref k4, .ref k5, .ref k6, .ref k7])), (k1, .inl (cI, 583, .inl k_ro)), (k2, .inl (cZ, 2, .inl k_ke)), (k3, .inl (cI, 200, .inl k_te)), (k4, .inl (cI, 10, .inl k_nu)), (k5, .inl (cI, 48, .inl k_na)), (k6, .inl (cI, 1024, .inl k_no)), (k7, .inl (cI, 1024, .inl k_tu))] sz) := by
  refine Met.ofW (cc := cX7_begins) (maxL := 3) (ret := none) (by decide) rfl ?_
  intro p e s m args below meth c s₁ B hml hv
  obtain ⟨rfl, hsz, hP, hK, hD0⟩ := hv
  have hx := B.exec
  have hb := B.bytes
  have hr := B.returns
  have hts := atoms_spec (ws := wsX7_begins) B.pre
  have hown : s.vm.findClass RX7 = some m.cls := findClass_of_methodNamed B.named
  have hlocks := B.notSynchronized
  subst hsz
  have hD := hD0.self (sz := s.heap.size)
  generalize hAe : va_A [(k0, .inr (7, [.ref k1, .int k_un, .ref k2, .ref k3, .int k_len, .int k_fi, .int k_be, .int k_to, .int k_cl, .int k_do, .ref k4, .ref k5, .ref k6, .ref k7])), (k1, .inl (cI, 583, .inl k_ro)), (k2, .inl (cZ, 2, .inl k_ke)), (k3, .inl (cI, 200, .inl k_te)), (k4, .inl (cI, 10, .inl k_nu)), (k5, .inl (cI, 48, .inl k_na)), (k6, .inl (cI, 1024, .inl k_no)), (k7, .inl (cI, 1024, .inl k_tu))] s.heap.size = A at hD ⊢
  have hA : ∀ q : Nat, s.heap.size ≤ q → A q := fun q h => by rw [← hAe]; exact Or.inr h
  clear hAe hD0
  have hfl_7 := hts (.fieldLink RX7 7 "TermsFirstModel" "rows" "[I") (List.mem_cons_of_mem _ (List.mem_append_left _ (List.mem_of_getElem? (i := 0) rfl)))
  have hiX7 : ∀ w ∈ u_ws RX7 TX7 14, w ∈ wsX7_begins := fun _ h => (List.mem_cons_of_mem _ (List.mem_append_right _ h))
  have hB_62 : ∀ (fn : Nat) (x2 : Int32) (k_ro : Nat → Int32), m_X7_begins_62 fn k_ro x2 = some k_ro' → ∀ (H : Heap) (locs : List Loc), va_P D vwCl [(k0, .inr (7, [.ref k1, .int k_un, .ref k2, .ref k3, .int k_len, .int k_fi, .int k_be, .int k_to, .int k_cl, .int k_do, .ref k4, .ref k5, .ref k6, .ref k7])), (k1, .inl (cI, 583, .inl k_ro)), (k2, .inl (cZ, 2, .inl k_ke)), (k3, .inl (cI, 200, .inl k_te)), (k4, .inl (cI, 10, .inl k_nu)), (k5, .inl (cI, 48, .inl k_na)), (k6, .inl (cI, 1024, .inl k_no)), (k7, .inl (cI, 1024, .inl k_tu))] H → va_D A [(k0, .inr (7, [.ref k1, .int k_un, .ref k2, .ref k3, .int k_len, .int k_fi, .int k_be, .int k_to, .int k_cl, .int k_do, .ref k4, .ref k5, .ref k6, .ref k7])), (k1, .inl (cI, 583, .inl k_ro)), (k2, .inl (cZ, 2, .inl k_ke)), (k3, .inl (cI, 200, .inl k_te)), (k4, .inl (cI, 10, .inl k_nu)), (k5, .inl (cI, 48, .inl k_na)), (k6, .inl (cI, 1024, .inl k_no)), (k7, .inl (cI, 1024, .inl k_tu))] → va_S A s.heap H locs → ∀ ls : Array Slot, lv_has ls 3 [(0, .ref k0), (2, .int x2)] → W p l e (headSpec wsX7_begins { frames := 0, cells := 0, slots := 0, locals := 0 }).room s m ([.ref k0, .int x1] : List Value).toArray below meth c H locs 0 0 (MQ below (qV D [(k0, .inr (7, [.ref k1, .int k_un, .ref k2, .ref k3, .int k_len, .int k_fi, .int k_be, .int k_to, .int k_cl, .int k_do, .ref k4, .ref k5, .ref k6, .ref k7])), (k1, .inl (cI, 583, .inl k_ro')), (k2, .inl (cZ, 2, .inl k_ke)), (k3, .inl (cI, 200, .inl k_te)), (k4, .inl (cI, 10, .inl k_nu)), (k5, .inl (cI, 48, .inl k_na)), (k6, .inl (cI, 1024, .inl k_no)), (k7, .inl (cI, 1024, .inl k_tu))] A) ([.ref k0, .int x1] : List Value).toArray s 0 0 A) (F0 m 62 ls []) := by
    intro fn
    induction fn with
    | zero => intro x2 k_ro hf; rw [m_X7_begins_62] at hf; cases hf
    | succ fn ih =>
      intro x2 k_ro hf H locs hP hD hS ls hl
      rw [m_X7_begins_62] at hf
      refine lv_iload_n hx hb dX7_begins_62 rfl (lv_at hl 1 rfl) ?_
      refine lv_bipush (v := (nI 12)) hx hb dX7_begins_63 bp_12 ?_
      refine lv_icmp_ge (tgt := 84) hx hb dX7_begins_65 (by decide) (fun hc => ?_) (fun hc => ?_)
      · have hf := ifp hc hf
        cases hf
        exact W.vret hx hb hr (fun t ht _ => ⟨⟨rfl, by rw [ht]; exact hP, hD⟩, hS.F ht⟩) hS.2.2 dX7_begins_84
      · have hf := ifn hc hf
        refine lv_aload_n hx hb dX7_begins_68 rfl (lv_at hl 0 rfl) ?_
        refine va_get (D := D) (ci := 7) (v := .ref k1) (C := RX7) (T := TX7) (N := 14) hx hb hts hiX7 hown hK.1 hP 0 rfl rfl 0 (by decide) hfl_7 (fun _ h9 => h9) rfl dX7_begins_69 ?_
        refine lv_bipush (v := (nI 11)) hx hb dX7_begins_72 bp_11 ?_
        refine lv_iload_n hx hb dX7_begins_74 rfl (lv_at hl 1 rfl) ?_
        refine lv_iadd hx hb dX7_begins_75 ?_
        refine lv_iconst (v := (-1 : Int32)) hx hb dX7_begins_76 ic_m1 ?_
        obtain ⟨hi, hf⟩ := gd_some hf
        refine va_iast hx hb hK.1 hP hD hS 1 0 rfl rfl hi dX7_begins_77 (fun H locs hP hD hS => ?_)
        have hP : va_P D vwCl [(k0, .inr (7, [.ref k1, .int k_un, .ref k2, .ref k3, .int k_len, .int k_fi, .int k_be, .int k_to, .int k_cl, .int k_do, .ref k4, .ref k5, .ref k6, .ref k7])), (k1, .inl (cI, 583, .inl (upd k_ro ((nI 11) + x2).toNatClampNeg (-1 : Int32)))), (k2, .inl (cZ, 2, .inl k_ke)), (k3, .inl (cI, 200, .inl k_te)), (k4, .inl (cI, 10, .inl k_nu)), (k5, .inl (cI, 48, .inl k_na)), (k6, .inl (cI, 1024, .inl k_no)), (k7, .inl (cI, 1024, .inl k_tu))] H := hP
        have hD : va_D A [(k0, .inr (7, [.ref k1, .int k_un, .ref k2, .ref k3, .int k_len, .int k_fi, .int k_be, .int k_to, .int k_cl, .int k_do, .ref k4, .ref k5, .ref k6, .ref k7])), (k1, .inl (cI, 583, .inl (upd k_ro ((nI 11) + x2).toNatClampNeg (-1 : Int32)))), (k2, .inl (cZ, 2, .inl k_ke)), (k3, .inl (cI, 200, .inl k_te)), (k4, .inl (cI, 10, .inl k_nu)), (k5, .inl (cI, 48, .inl k_na)), (k6, .inl (cI, 1024, .inl k_no)), (k7, .inl (cI, 1024, .inl k_tu))] := hD
        refine lv_iinc (v := (x2 + (nI 1))) (lv' := [(2, .int (x2 + (nI 1))), (0, .ref k0)]) hx hb dX7_begins_78 hl (k := 1) rfl (ii_1 _) (by decide) rfl (fun ls hl => ?_)
        refine lv_goto (tgt := 62) hx hb dX7_begins_81 (by decide) ?_
        exact ih (x2 + (nI 1)) (upd k_ro ((nI 11) + x2).toNatClampNeg (-1 : Int32)) hf _ _ hP hD hS ls (lv_sub hl [1, 0] rfl)
  have hB_9 : ∀ (fn : Nat) (x2 : Int32) (k_ro : Nat → Int32), m_X7_begins_9 fu fn k_ro x2 = some k_ro' → ∀ (H : Heap) (locs : List Loc), va_P D vwCl [(k0, .inr (7, [.ref k1, .int k_un, .ref k2, .ref k3, .int k_len, .int k_fi, .int k_be, .int k_to, .int k_cl, .int k_do, .ref k4, .ref k5, .ref k6, .ref k7])), (k1, .inl (cI, 583, .inl k_ro)), (k2, .inl (cZ, 2, .inl k_ke)), (k3, .inl (cI, 200, .inl k_te)), (k4, .inl (cI, 10, .inl k_nu)), (k5, .inl (cI, 48, .inl k_na)), (k6, .inl (cI, 1024, .inl k_no)), (k7, .inl (cI, 1024, .inl k_tu))] H → va_D A [(k0, .inr (7, [.ref k1, .int k_un, .ref k2, .ref k3, .int k_len, .int k_fi, .int k_be, .int k_to, .int k_cl, .int k_do, .ref k4, .ref k5, .ref k6, .ref k7])), (k1, .inl (cI, 583, .inl k_ro)), (k2, .inl (cZ, 2, .inl k_ke)), (k3, .inl (cI, 200, .inl k_te)), (k4, .inl (cI, 10, .inl k_nu)), (k5, .inl (cI, 48, .inl k_na)), (k6, .inl (cI, 1024, .inl k_no)), (k7, .inl (cI, 1024, .inl k_tu))] → va_S A s.heap H locs → ∀ ls : Array Slot, lv_has ls 3 [(0, .ref k0), (2, .int x2)] → W p l e (headSpec wsX7_begins { frames := 0, cells := 0, slots := 0, locals := 0 }).room s m ([.ref k0, .int x1] : List Value).toArray below meth c H locs 0 0 (MQ below (qV D [(k0, .inr (7, [.ref k1, .int k_un, .ref k2, .ref k3, .int k_len, .int k_fi, .int k_be, .int k_to, .int k_cl, .int k_do, .ref k4, .ref k5, .ref k6, .ref k7])), (k1, .inl (cI, 583, .inl k_ro')), (k2, .inl (cZ, 2, .inl k_ke)), (k3, .inl (cI, 200, .inl k_te)), (k4, .inl (cI, 10, .inl k_nu)), (k5, .inl (cI, 48, .inl k_na)), (k6, .inl (cI, 1024, .inl k_no)), (k7, .inl (cI, 1024, .inl k_tu))] A) ([.ref k0, .int x1] : List Value).toArray s 0 0 A) (F0 m 9 ls []) := by
    intro fn
    induction fn with
    | zero => intro x2 k_ro hf; rw [m_X7_begins_9] at hf; cases hf
    | succ fn ih =>
      intro x2 k_ro hf H locs hP hD hS ls hl
      rw [m_X7_begins_9] at hf
      refine lv_iload_n hx hb dX7_begins_9 rfl (lv_at hl 1 rfl) ?_
      refine lv_bipush (v := (nI 10)) hx hb dX7_begins_10 bp_10 ?_
      refine lv_icmp_ge (tgt := 60) hx hb dX7_begins_12 (by decide) (fun hc => ?_) (fun hc => ?_)
      · have hf := ifp hc hf
        refine lv_iconst (v := (nI 0)) hx hb dX7_begins_60 ic_0 ?_
        refine lv_istore_n (lv' := [(2, .int (nI 0)), (0, .ref k0)]) hx hb dX7_begins_61 rfl hl (by decide) rfl (fun ls hl => ?_)
        exact hB_62 fu (nI 0) k_ro hf _ _ hP hD hS ls (lv_sub hl [1, 0] rfl)
      · have hf := ifn hc hf
        refine lv_aload_n hx hb dX7_begins_15 rfl (lv_at hl 0 rfl) ?_
        refine va_get (D := D) (ci := 7) (v := .ref k1) (C := RX7) (T := TX7) (N := 14) hx hb hts hiX7 hown hK.1 hP 0 rfl rfl 0 (by decide) hfl_7 (fun _ h9 => h9) rfl dX7_begins_16 ?_
        refine lv_iconst (v := (nI 1)) hx hb dX7_begins_19 ic_1 ?_
        refine lv_iload_n hx hb dX7_begins_20 rfl (lv_at hl 1 rfl) ?_
        refine lv_iadd hx hb dX7_begins_21 ?_
        refine lv_iconst (v := (nI 1)) hx hb dX7_begins_22 ic_1 ?_
        obtain ⟨hi, hf⟩ := gd_some hf
        refine va_iast hx hb hK.1 hP hD hS 1 0 rfl rfl hi dX7_begins_23 (fun H locs hP hD hS => ?_)
        have hP : va_P D vwCl [(k0, .inr (7, [.ref k1, .int k_un, .ref k2, .ref k3, .int k_len, .int k_fi, .int k_be, .int k_to, .int k_cl, .int k_do, .ref k4, .ref k5, .ref k6, .ref k7])), (k1, .inl (cI, 583, .inl (upd k_ro ((nI 1) + x2).toNatClampNeg (nI 1)))), (k2, .inl (cZ, 2, .inl k_ke)), (k3, .inl (cI, 200, .inl k_te)), (k4, .inl (cI, 10, .inl k_nu)), (k5, .inl (cI, 48, .inl k_na)), (k6, .inl (cI, 1024, .inl k_no)), (k7, .inl (cI, 1024, .inl k_tu))] H := hP
        have hD : va_D A [(k0, .inr (7, [.ref k1, .int k_un, .ref k2, .ref k3, .int k_len, .int k_fi, .int k_be, .int k_to, .int k_cl, .int k_do, .ref k4, .ref k5, .ref k6, .ref k7])), (k1, .inl (cI, 583, .inl (upd k_ro ((nI 1) + x2).toNatClampNeg (nI 1)))), (k2, .inl (cZ, 2, .inl k_ke)), (k3, .inl (cI, 200, .inl k_te)), (k4, .inl (cI, 10, .inl k_nu)), (k5, .inl (cI, 48, .inl k_na)), (k6, .inl (cI, 1024, .inl k_no)), (k7, .inl (cI, 1024, .inl k_tu))] := hD
        refine lv_aload_n hx hb dX7_begins_24 rfl (lv_at hl 0 rfl) ?_
        refine va_get (D := D) (ci := 7) (v := .ref k1) (C := RX7) (T := TX7) (N := 14) hx hb hts hiX7 hown hK.1 hP 0 rfl rfl 0 (by decide) hfl_7 (fun _ h9 => h9) rfl dX7_begins_25 ?_
        refine lv_bipush (v := (nI 23)) hx hb dX7_begins_28 bp_23 ?_
        refine lv_iload_n hx hb dX7_begins_30 rfl (lv_at hl 1 rfl) ?_
        refine lv_iadd hx hb dX7_begins_31 ?_
        refine lv_iconst (v := (nI 0)) hx hb dX7_begins_32 ic_0 ?_
        obtain ⟨hi, hf⟩ := gd_some hf
        refine va_iast hx hb hK.1 hP hD hS 1 0 rfl rfl hi dX7_begins_33 (fun H locs hP hD hS => ?_)
        have hP : va_P D vwCl [(k0, .inr (7, [.ref k1, .int k_un, .ref k2, .ref k3, .int k_len, .int k_fi, .int k_be, .int k_to, .int k_cl, .int k_do, .ref k4, .ref k5, .ref k6, .ref k7])), (k1, .inl (cI, 583, .inl (upd (upd k_ro ((nI 1) + x2).toNatClampNeg (nI 1)) ((nI 23) + x2).toNatClampNeg (nI 0)))), (k2, .inl (cZ, 2, .inl k_ke)), (k3, .inl (cI, 200, .inl k_te)), (k4, .inl (cI, 10, .inl k_nu)), (k5, .inl (cI, 48, .inl k_na)), (k6, .inl (cI, 1024, .inl k_no)), (k7, .inl (cI, 1024, .inl k_tu))] H := hP
        have hD : va_D A [(k0, .inr (7, [.ref k1, .int k_un, .ref k2, .ref k3, .int k_len, .int k_fi, .int k_be, .int k_to, .int k_cl, .int k_do, .ref k4, .ref k5, .ref k6, .ref k7])), (k1, .inl (cI, 583, .inl (upd (upd k_ro ((nI 1) + x2).toNatClampNeg (nI 1)) ((nI 23) + x2).toNatClampNeg (nI 0)))), (k2, .inl (cZ, 2, .inl k_ke)), (k3, .inl (cI, 200, .inl k_te)), (k4, .inl (cI, 10, .inl k_nu)), (k5, .inl (cI, 48, .inl k_na)), (k6, .inl (cI, 1024, .inl k_no)), (k7, .inl (cI, 1024, .inl k_tu))] := hD
        refine lv_aload_n hx hb dX7_begins_34 rfl (lv_at hl 0 rfl) ?_
        refine va_get (D := D) (ci := 7) (v := .ref k1) (C := RX7) (T := TX7) (N := 14) hx hb hts hiX7 hown hK.1 hP 0 rfl rfl 0 (by decide) hfl_7 (fun _ h9 => h9) rfl dX7_begins_35 ?_
        refine lv_bipush (v := (nI 33)) hx hb dX7_begins_38 bp_33 ?_
        refine lv_iload_n hx hb dX7_begins_40 rfl (lv_at hl 1 rfl) ?_
        refine lv_iadd hx hb dX7_begins_41 ?_
        refine lv_iload_n hx hb dX7_begins_42 rfl (lv_at hl 1 rfl) ?_
        obtain ⟨hi, hf⟩ := gd_some hf
        refine va_iast hx hb hK.1 hP hD hS 1 0 rfl rfl hi dX7_begins_43 (fun H locs hP hD hS => ?_)
        have hP : va_P D vwCl [(k0, .inr (7, [.ref k1, .int k_un, .ref k2, .ref k3, .int k_len, .int k_fi, .int k_be, .int k_to, .int k_cl, .int k_do, .ref k4, .ref k5, .ref k6, .ref k7])), (k1, .inl (cI, 583, .inl (upd (upd (upd k_ro ((nI 1) + x2).toNatClampNeg (nI 1)) ((nI 23) + x2).toNatClampNeg (nI 0)) ((nI 33) + x2).toNatClampNeg x2))), (k2, .inl (cZ, 2, .inl k_ke)), (k3, .inl (cI, 200, .inl k_te)), (k4, .inl (cI, 10, .inl k_nu)), (k5, .inl (cI, 48, .inl k_na)), (k6, .inl (cI, 1024, .inl k_no)), (k7, .inl (cI, 1024, .inl k_tu))] H := hP
        have hD : va_D A [(k0, .inr (7, [.ref k1, .int k_un, .ref k2, .ref k3, .int k_len, .int k_fi, .int k_be, .int k_to, .int k_cl, .int k_do, .ref k4, .ref k5, .ref k6, .ref k7])), (k1, .inl (cI, 583, .inl (upd (upd (upd k_ro ((nI 1) + x2).toNatClampNeg (nI 1)) ((nI 23) + x2).toNatClampNeg (nI 0)) ((nI 33) + x2).toNatClampNeg x2))), (k2, .inl (cZ, 2, .inl k_ke)), (k3, .inl (cI, 200, .inl k_te)), (k4, .inl (cI, 10, .inl k_nu)), (k5, .inl (cI, 48, .inl k_na)), (k6, .inl (cI, 1024, .inl k_no)), (k7, .inl (cI, 1024, .inl k_tu))] := hD
        refine lv_aload_n hx hb dX7_begins_44 rfl (lv_at hl 0 rfl) ?_
        refine va_get (D := D) (ci := 7) (v := .ref k1) (C := RX7) (T := TX7) (N := 14) hx hb hts hiX7 hown hK.1 hP 0 rfl rfl 0 (by decide) hfl_7 (fun _ h9 => h9) rfl dX7_begins_45 ?_
        refine lv_bipush (v := (nI 43)) hx hb dX7_begins_48 bp_43 ?_
        refine lv_iload_n hx hb dX7_begins_50 rfl (lv_at hl 1 rfl) ?_
        refine lv_iadd hx hb dX7_begins_51 ?_
        refine lv_iconst (v := (nI 0)) hx hb dX7_begins_52 ic_0 ?_
        obtain ⟨hi, hf⟩ := gd_some hf
        refine va_iast hx hb hK.1 hP hD hS 1 0 rfl rfl hi dX7_begins_53 (fun H locs hP hD hS => ?_)
        have hP : va_P D vwCl [(k0, .inr (7, [.ref k1, .int k_un, .ref k2, .ref k3, .int k_len, .int k_fi, .int k_be, .int k_to, .int k_cl, .int k_do, .ref k4, .ref k5, .ref k6, .ref k7])), (k1, .inl (cI, 583, .inl (upd (upd (upd (upd k_ro ((nI 1) + x2).toNatClampNeg (nI 1)) ((nI 23) + x2).toNatClampNeg (nI 0)) ((nI 33) + x2).toNatClampNeg x2) ((nI 43) + x2).toNatClampNeg (nI 0)))), (k2, .inl (cZ, 2, .inl k_ke)), (k3, .inl (cI, 200, .inl k_te)), (k4, .inl (cI, 10, .inl k_nu)), (k5, .inl (cI, 48, .inl k_na)), (k6, .inl (cI, 1024, .inl k_no)), (k7, .inl (cI, 1024, .inl k_tu))] H := hP
        have hD : va_D A [(k0, .inr (7, [.ref k1, .int k_un, .ref k2, .ref k3, .int k_len, .int k_fi, .int k_be, .int k_to, .int k_cl, .int k_do, .ref k4, .ref k5, .ref k6, .ref k7])), (k1, .inl (cI, 583, .inl (upd (upd (upd (upd k_ro ((nI 1) + x2).toNatClampNeg (nI 1)) ((nI 23) + x2).toNatClampNeg (nI 0)) ((nI 33) + x2).toNatClampNeg x2) ((nI 43) + x2).toNatClampNeg (nI 0)))), (k2, .inl (cZ, 2, .inl k_ke)), (k3, .inl (cI, 200, .inl k_te)), (k4, .inl (cI, 10, .inl k_nu)), (k5, .inl (cI, 48, .inl k_na)), (k6, .inl (cI, 1024, .inl k_no)), (k7, .inl (cI, 1024, .inl k_tu))] := hD
        refine lv_iinc (v := (x2 + (nI 1))) (lv' := [(2, .int (x2 + (nI 1))), (0, .ref k0)]) hx hb dX7_begins_54 hl (k := 1) rfl (ii_1 _) (by decide) rfl (fun ls hl => ?_)
        refine lv_goto (tgt := 9) hx hb dX7_begins_57 (by decide) ?_
        exact ih (x2 + (nI 1)) (upd (upd (upd (upd k_ro ((nI 1) + x2).toNatClampNeg (nI 1)) ((nI 23) + x2).toNatClampNeg (nI 0)) ((nI 33) + x2).toNatClampNeg x2) ((nI 43) + x2).toNatClampNeg (nI 0)) hf _ _ hP hD hS ls (lv_sub hl [1, 0] rfl)
  have hl := lv_entry ([.ref k0, .int x1]) (n := 3) (Nat.le_of_ble_eq_true rfl)
  rw [lg_entry_eq]
  generalize (lg_sl ([.ref k0, .int x1]) ++ List.replicate (3 - (lg_sl ([.ref k0, .int x1])).length) Slot.unset).toArray = ls at hl ⊢
  have hl : lv_has ls 3 [(0, .ref k0), (1, .int x1)] := hl
  have hS : va_S A s.heap s.heap [] := va_S.rf
  unfold m_X7_begins at hf
  refine lv_aload_n hx hb dX7_begins_0 rfl (lv_at hl 0 rfl) ?_
  refine va_get (D := D) (ci := 7) (v := .ref k1) (C := RX7) (T := TX7) (N := 14) hx hb hts hiX7 hown hK.1 hP 0 rfl rfl 0 (by decide) hfl_7 (fun _ h9 => h9) rfl dX7_begins_1 ?_
  refine lv_iconst (v := (nI 0)) hx hb dX7_begins_4 ic_0 ?_
  refine lv_iload_n hx hb dX7_begins_5 rfl (lv_at hl 1 rfl) ?_
  obtain ⟨hi, hf⟩ := gd_some hf
  refine va_iast hx hb hK.1 hP hD hS 1 0 rfl rfl hi dX7_begins_6 (fun H locs hP hD hS => ?_)
  have hP : va_P D vwCl [(k0, .inr (7, [.ref k1, .int k_un, .ref k2, .ref k3, .int k_len, .int k_fi, .int k_be, .int k_to, .int k_cl, .int k_do, .ref k4, .ref k5, .ref k6, .ref k7])), (k1, .inl (cI, 583, .inl (upd k_ro (nI 0).toNatClampNeg x1))), (k2, .inl (cZ, 2, .inl k_ke)), (k3, .inl (cI, 200, .inl k_te)), (k4, .inl (cI, 10, .inl k_nu)), (k5, .inl (cI, 48, .inl k_na)), (k6, .inl (cI, 1024, .inl k_no)), (k7, .inl (cI, 1024, .inl k_tu))] H := hP
  have hD : va_D A [(k0, .inr (7, [.ref k1, .int k_un, .ref k2, .ref k3, .int k_len, .int k_fi, .int k_be, .int k_to, .int k_cl, .int k_do, .ref k4, .ref k5, .ref k6, .ref k7])), (k1, .inl (cI, 583, .inl (upd k_ro (nI 0).toNatClampNeg x1))), (k2, .inl (cZ, 2, .inl k_ke)), (k3, .inl (cI, 200, .inl k_te)), (k4, .inl (cI, 10, .inl k_nu)), (k5, .inl (cI, 48, .inl k_na)), (k6, .inl (cI, 1024, .inl k_no)), (k7, .inl (cI, 1024, .inl k_tu))] := hD
  refine lv_iconst (v := (nI 0)) hx hb dX7_begins_7 ic_0 ?_
  refine lv_istore_n (lv' := [(2, .int (nI 0)), (0, .ref k0), (1, .int x1)]) hx hb dX7_begins_8 rfl hl (by decide) rfl (fun ls hl => ?_)
  exact hB_9 fu (nI 0) (upd k_ro (nI 0).toNatClampNeg x1) hf _ _ hP hD hS ls (lv_sub hl [1, 0] rfl)
theorem hdc_X7_in : yX7_in.cls ≠ "java/lang/invoke/MethodHandle" ∧ yX7_in.cls ≠ "java/lang/invoke/VarHandle" ∧ (parseMethodDescriptor yX7_in.desc).map (fun d => d.parameters.length) = some 3 := by decide +kernel
set_option maxHeartbeats 4000000 in
set_option maxRecDepth 100000 in
theorem c_X7_in (l : Launch) (D : va_G) (cI cZ cM : ClassId) (x0 : Int64) (x2 : Int64) (x4 : Int64) (r : Int32) (hf : m_X7_in x0 x2 x4 = some r) : Met l yX7_in wsX7_in ({ frames := 0, cells := 0, slots := 0, locals := 0 }) (pR D cI cZ cM [] [.long x0, .long x2, .long x4]) (qR r) 0 0 (fun _ => False) := by
  refine Met.ofW (cc := cX7_in) (maxL := 6) (ret := (some .boolean)) (by decide) rfl ?_
  intro p e s m args below meth c s₁ B hml hv
  obtain ⟨rfl, hP, hK⟩ := hv
  have hx := B.exec
  have hb := B.bytes
  have hr := B.returns
  have hts := atoms_spec (ws := wsX7_in) B.pre
  have hown : s.vm.findClass RX7 = some m.cls := findClass_of_methodNamed B.named
  have hlocks := B.notSynchronized
  have hl := lv_entry ([.long x0, .long x2, .long x4]) (n := 6) (Nat.le_of_ble_eq_true rfl)
  rw [lg_entry_eq]
  generalize (lg_sl ([.long x0, .long x2, .long x4]) ++ List.replicate (6 - (lg_sl ([.long x0, .long x2, .long x4])).length) Slot.unset).toArray = ls at hl ⊢
  have hl : lv_has ls 6 [(0, .long x0), (2, .long x2), (4, .long x4)] := hl
  unfold m_X7_in at hf
  refine lv_lload_n hx hb dX7_in_0 rfl (lv_at hl 0 rfl) ?_
  refine lv_lload_n hx hb dX7_in_1 rfl (lv_at hl 1 rfl) ?_
  refine W.lcmp hx hb dX7_in_2 ?_
  refine lv_if_lt (tgt := 17) hx hb dX7_in_3 (by decide) (fun hc => ?_) (fun hc => ?_)
  · have hf := ifp hc hf
    refine lv_iconst (v := (nI 0)) hx hb dX7_in_17 ic_0 ?_
    cases hf
    exact W.zret hx hb hr zbl_0.1 (fun t ht _ => ⟨rfl, ht⟩) (fun _ h => nomatch h) dX7_in_18
  · have hf := ifn hc hf
    refine lv_lload_n hx hb dX7_in_6 rfl (lv_at hl 0 rfl) ?_
    refine lv_lload hx hb dX7_in_7 (lv_at hl 2 rfl) ?_
    refine W.lcmp hx hb dX7_in_9 ?_
    refine lv_if_gt (tgt := 17) hx hb dX7_in_10 (by decide) (fun hc => ?_) (fun hc => ?_)
    · have hf := ifp hc hf
      refine lv_iconst (v := (nI 0)) hx hb dX7_in_17 ic_0 ?_
      cases hf
      exact W.zret hx hb hr zbl_0.1 (fun t ht _ => ⟨rfl, ht⟩) (fun _ h => nomatch h) dX7_in_18
    · have hf := ifn hc hf
      refine lv_iconst (v := (nI 1)) hx hb dX7_in_13 ic_1 ?_
      refine lv_goto (tgt := 18) hx hb dX7_in_14 (by decide) ?_
      cases hf
      exact W.zret hx hb hr zbl_1.1 (fun t ht _ => ⟨rfl, ht⟩) (fun _ h => nomatch h) dX7_in_18
theorem hdc_X7_has : yX7_has.cls ≠ "java/lang/invoke/MethodHandle" ∧ yX7_has.cls ≠ "java/lang/invoke/VarHandle" ∧ (parseMethodDescriptor yX7_has.desc).map (fun d => d.parameters.length) = some 2 := by decide +kernel
set_option maxHeartbeats 4000000 in
set_option maxRecDepth 100000 in
theorem c_X7_has (l : Launch) (D : va_G) (cI cZ cM : ClassId) (x0 : Int32) (x1 : Int32) (r : Int32) (hf : m_X7_has x0 x1 = some r) : Met l yX7_has wsX7_has ({ frames := 0, cells := 0, slots := 0, locals := 0 }) (pR D cI cZ cM [] [.int x0, .int x1]) (qR r) 0 0 (fun _ => False) := by
  refine Met.ofW (cc := cX7_has) (maxL := 2) (ret := (some .boolean)) (by decide) rfl ?_
  intro p e s m args below meth c s₁ B hml hv
  obtain ⟨rfl, hP, hK⟩ := hv
  have hx := B.exec
  have hb := B.bytes
  have hr := B.returns
  have hts := atoms_spec (ws := wsX7_has) B.pre
  have hown : s.vm.findClass RX7 = some m.cls := findClass_of_methodNamed B.named
  have hlocks := B.notSynchronized
  have hl := lv_entry ([.int x0, .int x1]) (n := 2) (Nat.le_of_ble_eq_true rfl)
  rw [lg_entry_eq]
  generalize (lg_sl ([.int x0, .int x1]) ++ List.replicate (2 - (lg_sl ([.int x0, .int x1])).length) Slot.unset).toArray = ls at hl ⊢
  have hl : lv_has ls 2 [(0, .int x0), (1, .int x1)] := hl
  unfold m_X7_has at hf
  refine lv_iload_n hx hb dX7_has_0 rfl (lv_at hl 0 rfl) ?_
  refine lv_iload_n hx hb dX7_has_1 rfl (lv_at hl 1 rfl) ?_
  refine lv_ishr hx hb dX7_has_2 ?_
  refine lv_iconst (v := (nI 1)) hx hb dX7_has_3 ic_1 ?_
  refine lv_iand hx hb dX7_has_4 ?_
  refine lv_iconst (v := (nI 1)) hx hb dX7_has_5 ic_1 ?_
  refine lv_icmp_ne (tgt := 13) hx hb dX7_has_6 (by decide) (fun hc => ?_) (fun hc => ?_)
  · have hf := ifn hc hf
    refine lv_iconst (v := (nI 0)) hx hb dX7_has_13 ic_0 ?_
    cases hf
    exact W.zret hx hb hr zbl_0.1 (fun t ht _ => ⟨rfl, ht⟩) (fun _ h => nomatch h) dX7_has_14
  · have hf := ifp hc hf
    refine lv_iconst (v := (nI 1)) hx hb dX7_has_9 ic_1 ?_
    refine lv_goto (tgt := 14) hx hb dX7_has_10 (by decide) ?_
    cases hf
    exact W.zret hx hb hr zbl_1.1 (fun t ht _ => ⟨rfl, ht⟩) (fun _ h => nomatch h) dX7_has_14
theorem hdc_X7_ones : yX7_ones.cls ≠ "java/lang/invoke/MethodHandle" ∧ yX7_ones.cls ≠ "java/lang/invoke/VarHandle" ∧ (parseMethodDescriptor yX7_ones.desc).map (fun d => d.parameters.length) = some 1 := by decide +kernel
set_option maxHeartbeats 4000000 in
set_option maxRecDepth 100000 in
theorem c_X7_ones (l : Launch) (D : va_G) (cI cZ cM : ClassId) (x0 : Int32) (fu : Nat) (r : Int32) (hf : m_X7_ones fu x0 = some r) : Met l yX7_ones wsX7_ones ({ frames := 0, cells := 0, slots := 0, locals := 0 }) (pR D cI cZ cM [] [.int x0]) (qR r) 0 0 (fun _ => False) := by
  refine Met.ofW (cc := cX7_ones) (maxL := 3) (ret := (some .int)) (by decide) rfl ?_
  intro p e s m args below meth c s₁ B hml hv
  obtain ⟨rfl, hP, hK⟩ := hv
  have hx := B.exec
  have hb := B.bytes
  have hr := B.returns
  have hts := atoms_spec (ws := wsX7_ones) B.pre
  have hown : s.vm.findClass RX7 = some m.cls := findClass_of_methodNamed B.named
  have hlocks := B.notSynchronized
  have hB_4 : ∀ (fn : Nat) (x1 : Int32) (x2 : Int32), m_X7_ones_4 x0 fn x1 x2 = some r → ∀ ls : Array Slot, lv_has ls 3 [(0, .int x0), (1, .int x1), (2, .int x2)] → W p l e (headSpec wsX7_ones { frames := 0, cells := 0, slots := 0, locals := 0 }).room s m ([.int x0] : List Value).toArray below meth c s.heap [] 0 0 (MQ below (qR r) ([.int x0] : List Value).toArray s 0 0 (fun _ => False)) (F0 m 4 ls []) := by
    intro fn
    induction fn with
    | zero => intro x1 x2 hf; rw [m_X7_ones_4] at hf; cases hf
    | succ fn ih =>
      intro x1 x2 hf ls hl
      rw [m_X7_ones_4] at hf
      refine lv_iload_n hx hb dX7_ones_4 rfl (lv_at hl 2 rfl) ?_
      refine lv_bipush (v := (nI 12)) hx hb dX7_ones_5 bp_12 ?_
      refine lv_icmp_ge (tgt := 24) hx hb dX7_ones_7 (by decide) (fun hc => ?_) (fun hc => ?_)
      · have hf := ifp hc hf
        refine lv_iload_n hx hb dX7_ones_24 rfl (lv_at hl 1 rfl) ?_
        cases hf
        exact W.iret hx hb hr (fun t ht _ => ⟨rfl, ht⟩) (fun _ h => nomatch h) dX7_ones_25
      · have hf := ifn hc hf
        refine lv_iload_n hx hb dX7_ones_10 rfl (lv_at hl 1 rfl) ?_
        refine lv_iload_n hx hb dX7_ones_11 rfl (lv_at hl 0 rfl) ?_
        refine lv_iload_n hx hb dX7_ones_12 rfl (lv_at hl 2 rfl) ?_
        refine lv_ishr hx hb dX7_ones_13 ?_
        refine lv_iconst (v := (nI 1)) hx hb dX7_ones_14 ic_1 ?_
        refine lv_iand hx hb dX7_ones_15 ?_
        refine lv_iadd hx hb dX7_ones_16 ?_
        refine lv_istore_n (lv' := [(1, .int (x1 + ((x0 >>> (x2 &&& 31)) &&& (nI 1)))), (0, .int x0), (2, .int x2)]) hx hb dX7_ones_17 rfl hl (by decide) rfl (fun ls hl => ?_)
        refine lv_iinc (v := (x2 + (nI 1))) (lv' := [(2, .int (x2 + (nI 1))), (1, .int (x1 + ((x0 >>> (x2 &&& 31)) &&& (nI 1)))), (0, .int x0)]) hx hb dX7_ones_18 hl (k := 2) rfl (ii_1 _) (by decide) rfl (fun ls hl => ?_)
        refine lv_goto (tgt := 4) hx hb dX7_ones_21 (by decide) ?_
        exact ih (x1 + ((x0 >>> (x2 &&& 31)) &&& (nI 1))) (x2 + (nI 1)) hf  ls (lv_sub hl [2, 1, 0] rfl)
  have hl := lv_entry ([.int x0]) (n := 3) (Nat.le_of_ble_eq_true rfl)
  rw [lg_entry_eq]
  generalize (lg_sl ([.int x0]) ++ List.replicate (3 - (lg_sl ([.int x0])).length) Slot.unset).toArray = ls at hl ⊢
  have hl : lv_has ls 3 [(0, .int x0)] := hl
  unfold m_X7_ones at hf
  refine lv_iconst (v := (nI 0)) hx hb dX7_ones_0 ic_0 ?_
  refine lv_istore_n (lv' := [(1, .int (nI 0)), (0, .int x0)]) hx hb dX7_ones_1 rfl hl (by decide) rfl (fun ls hl => ?_)
  refine lv_iconst (v := (nI 0)) hx hb dX7_ones_2 ic_0 ?_
  refine lv_istore_n (lv' := [(2, .int (nI 0)), (1, .int (nI 0)), (0, .int x0)]) hx hb dX7_ones_3 rfl hl (by decide) rfl (fun ls hl => ?_)
  exact hB_4 fu (nI 0) (nI 0) hf  ls (lv_sub hl [2, 1, 0] rfl)
theorem hdc_X7_isSection : yX7_isSection.cls ≠ "java/lang/invoke/MethodHandle" ∧ yX7_isSection.cls ≠ "java/lang/invoke/VarHandle" ∧ (parseMethodDescriptor yX7_isSection.desc).map (fun d => d.parameters.length) = some 1 := by decide +kernel
set_option maxHeartbeats 4000000 in
set_option maxRecDepth 100000 in
theorem c_X7_isSection (l : Launch) (D : va_G) (cI cZ cM : ClassId) (k0 k1 k2 k3 k4 k5 k6 k7 : Nat) (k_un : Int32) (k_len : Int32) (k_fi : Int32) (k_be : Int32) (k_to : Int32) (k_cl : Int32) (k_do : Int32) (k_ro : Nat → Int32) (k_ke : Nat → Int32) (k_te : Nat → Int32) (k_nu : Nat → Int32) (k_na : Nat → Int32) (k_no : Nat → Int32) (k_tu : Nat → Int32) (x1 : Int32) (r : Int32) (hf : m_X7_isSection k_ro x1 = some r) : Met l yX7_isSection wsX7_isSection ({ frames := 1, cells := 0, slots := 0, locals := 25 }) (pR D cI cZ cM [(k0, .inr (7, [.ref k1, .int k_un, .ref k2, .ref k3, .int k_len, .int k_fi, .int k_be, .int k_to, .int k_cl, .int k_do, .ref k4, .ref k5, .ref k6, .ref k7])), (k1, .inl (cI, 583, .inl k_ro)), (k2, .inl (cZ, 2, .inl k_ke)), (k3, .inl (cI, 200, .inl k_te)), (k4, .inl (cI, 10, .inl k_nu)), (k5, .inl (cI, 48, .inl k_na)), (k6, .inl (cI, 1024, .inl k_no)), (k7, .inl (cI, 1024, .inl k_tu))] [.ref k0, .int x1]) (qR r) 0 0 (fun _ => False) := by
  refine Met.ofW (cc := cX7_isSection) (maxL := 2) (ret := (some .boolean)) (by decide) rfl ?_
  intro p e s m args below meth c s₁ B hml hv
  obtain ⟨rfl, hP, hK⟩ := hv
  have hx := B.exec
  have hb := B.bytes
  have hr := B.returns
  have hts := atoms_spec (ws := wsX7_isSection) B.pre
  have hown : s.vm.findClass RX7 = some m.cls := findClass_of_methodNamed B.named
  have hlocks := B.notSynchronized
  have hfl_7 := hts (.fieldLink RX7 7 "TermsFirstModel" "rows" "[I") (List.mem_cons_of_mem _ (List.mem_append_left _ (List.mem_of_getElem? (i := 0) rfl)))
  have hiX7 : ∀ w ∈ u_ws RX7 TX7 14, w ∈ wsX7_isSection := fun _ h => (List.mem_cons_of_mem _ (List.mem_append_right _ h))
  have hl := lv_entry ([.ref k0, .int x1]) (n := 2) (Nat.le_of_ble_eq_true rfl)
  rw [lg_entry_eq]
  generalize (lg_sl ([.ref k0, .int x1]) ++ List.replicate (2 - (lg_sl ([.ref k0, .int x1])).length) Slot.unset).toArray = ls at hl ⊢
  have hl : lv_has ls 2 [(0, .ref k0), (1, .int x1)] := hl
  unfold m_X7_isSection at hf
  refine lv_iload_n hx hb dX7_isSection_0 rfl (lv_at hl 1 rfl) ?_
  refine lv_i2l (v := x1.toInt64) hx hb dX7_isSection_1 rfl ?_
  refine lv_lconst (v := (lN 0)) hx hb dX7_isSection_2 rfl ?_
  refine lv_aload_n hx hb dX7_isSection_3 rfl (lv_at hl 0 rfl) ?_
  refine va_get (D := D) (ci := 7) (v := .ref k1) (C := RX7) (T := TX7) (N := 14) hx hb hts hiX7 hown hK.1 hP 0 rfl rfl 0 (by decide) hfl_7 (fun _ h9 => h9) rfl dX7_isSection_4 ?_
  refine lv_iconst (v := (nI 0)) hx hb dX7_isSection_7 ic_0 ?_
  obtain ⟨hi, hf⟩ := gd_some hf
  refine va_iald hx hb hK.1 hP 1 0 rfl rfl hi dX7_isSection_8 ?_
  refine lv_iconst (v := (nI 1)) hx hb dX7_isSection_9 ic_1 ?_
  refine lv_isub hx hb dX7_isSection_10 ?_
  refine lv_i2l (v := ((k_ro (nI 0).toNatClampNeg) - (nI 1)).toInt64) hx hb dX7_isSection_11 rfl ?_
  obtain ⟨rv1, hrv1, hf⟩ := bd hf
  refine roI (va_runS (As := [.long x1.toInt64, .long (lN 0), .long (((k_ro (nI 0).toNatClampNeg) - (nI 1)).toInt64)]) (rest := []) ⟨hx, hb, hml, hown, hts⟩ (c_X7_in l D cI cZ cM x1.toInt64 (lN 0) (((k_ro (nI 0).toNatClampNeg) - (nI 1)).toInt64) rv1 hrv1) (va_cwS 3 hts gX7_isSection_X7_in rfl rfl rfl hdc_X7_in ⟨Nat.le_of_ble_eq_true rfl, Nat.le_of_ble_eq_true rfl⟩) (prS hK hP [] rfl) rfl rfl hl.1 rfl (lv_room (Nat.le_of_ble_eq_true rfl)) dX7_isSection_12 ⟨Nat.zero_le _, Nat.zero_le _⟩) ?_
  obtain ⟨hz, hf⟩ := zb_some hf
  cases hf
  exact W.zret hx hb hr hz.1 (fun t ht _ => ⟨rfl, ht⟩) (fun _ h => nomatch h) dX7_isSection_15
theorem hdc_X7_isTerm : yX7_isTerm.cls ≠ "java/lang/invoke/MethodHandle" ∧ yX7_isTerm.cls ≠ "java/lang/invoke/VarHandle" ∧ (parseMethodDescriptor yX7_isTerm.desc).map (fun d => d.parameters.length) = some 1 := by decide +kernel
set_option maxHeartbeats 4000000 in
set_option maxRecDepth 100000 in
theorem c_X7_isTerm (l : Launch) (D : va_G) (cI cZ cM : ClassId) (x0 : Int32) (r : Int32) (hf : m_X7_isTerm x0 = some r) : Met l yX7_isTerm wsX7_isTerm ({ frames := 1, cells := 0, slots := 0, locals := 25 }) (pR D cI cZ cM [] [.int x0]) (qR r) 0 0 (fun _ => False) := by
  refine Met.ofW (cc := cX7_isTerm) (maxL := 1) (ret := (some .boolean)) (by decide) rfl ?_
  intro p e s m args below meth c s₁ B hml hv
  obtain ⟨rfl, hP, hK⟩ := hv
  have hx := B.exec
  have hb := B.bytes
  have hr := B.returns
  have hts := atoms_spec (ws := wsX7_isTerm) B.pre
  have hown : s.vm.findClass RX7 = some m.cls := findClass_of_methodNamed B.named
  have hlocks := B.notSynchronized
  have hkl_40 := hts (.constantLong RX7 40 (11)) (List.mem_cons_of_mem _ (List.mem_of_getElem? (i := 0) rfl))
  have hl := lv_entry ([.int x0]) (n := 1) (Nat.le_of_ble_eq_true rfl)
  rw [lg_entry_eq]
  generalize (lg_sl ([.int x0]) ++ List.replicate (1 - (lg_sl ([.int x0])).length) Slot.unset).toArray = ls at hl ⊢
  have hl : lv_has ls 1 [(0, .int x0)] := hl
  unfold m_X7_isTerm at hf
  refine lv_iload_n hx hb dX7_isTerm_0 rfl (lv_at hl 0 rfl) ?_
  refine lv_i2l (v := x0.toInt64) hx hb dX7_isTerm_1 rfl ?_
  refine lv_lconst (v := (lN 0)) hx hb dX7_isTerm_2 rfl ?_
  refine lv_ldc2 (v := (lN 11)) hx hb hown hkl_40 dX7_isTerm_3 ?_
  obtain ⟨rv1, hrv1, hf⟩ := bd hf
  refine roI (va_runS (As := [.long x0.toInt64, .long (lN 0), .long (lN 11)]) (rest := []) ⟨hx, hb, hml, hown, hts⟩ (c_X7_in l D cI cZ cM x0.toInt64 (lN 0) (lN 11) rv1 hrv1) (va_cwS 3 hts gX7_isTerm_X7_in rfl rfl rfl hdc_X7_in ⟨Nat.le_of_ble_eq_true rfl, Nat.le_of_ble_eq_true rfl⟩) (prS hK hP [] rfl) rfl rfl hl.1 rfl (lv_room (Nat.le_of_ble_eq_true rfl)) dX7_isTerm_6 ⟨Nat.zero_le _, Nat.zero_le _⟩) ?_
  obtain ⟨hz, hf⟩ := zb_some hf
  cases hf
  exact W.zret hx hb hr hz.1 (fun t ht _ => ⟨rfl, ht⟩) (fun _ h => nomatch h) dX7_isTerm_9
theorem hdc_X7_placeOf : yX7_placeOf.cls ≠ "java/lang/invoke/MethodHandle" ∧ yX7_placeOf.cls ≠ "java/lang/invoke/VarHandle" ∧ (parseMethodDescriptor yX7_placeOf.desc).map (fun d => d.parameters.length) = some 1 := by decide +kernel
set_option maxHeartbeats 4000000 in
set_option maxRecDepth 100000 in
theorem c_X7_placeOf (l : Launch) (D : va_G) (cI cZ cM : ClassId) (k0 k1 k2 k3 k4 k5 k6 k7 : Nat) (k_un : Int32) (k_len : Int32) (k_fi : Int32) (k_be : Int32) (k_to : Int32) (k_cl : Int32) (k_do : Int32) (k_ro : Nat → Int32) (k_ke : Nat → Int32) (k_te : Nat → Int32) (k_nu : Nat → Int32) (k_na : Nat → Int32) (k_no : Nat → Int32) (k_tu : Nat → Int32) (x1 : Int32) (fu : Nat) (r : Int32) (hf : m_X7_placeOf fu k_ro x1 = some r) : Met l yX7_placeOf wsX7_placeOf ({ frames := 0, cells := 0, slots := 0, locals := 0 }) (pR D cI cZ cM [(k0, .inr (7, [.ref k1, .int k_un, .ref k2, .ref k3, .int k_len, .int k_fi, .int k_be, .int k_to, .int k_cl, .int k_do, .ref k4, .ref k5, .ref k6, .ref k7])), (k1, .inl (cI, 583, .inl k_ro)), (k2, .inl (cZ, 2, .inl k_ke)), (k3, .inl (cI, 200, .inl k_te)), (k4, .inl (cI, 10, .inl k_nu)), (k5, .inl (cI, 48, .inl k_na)), (k6, .inl (cI, 1024, .inl k_no)), (k7, .inl (cI, 1024, .inl k_tu))] [.ref k0, .int x1]) (qR r) 0 0 (fun _ => False) := by
  refine Met.ofW (cc := cX7_placeOf) (maxL := 3) (ret := (some .int)) (by decide) rfl ?_
  intro p e s m args below meth c s₁ B hml hv
  obtain ⟨rfl, hP, hK⟩ := hv
  have hx := B.exec
  have hb := B.bytes
  have hr := B.returns
  have hts := atoms_spec (ws := wsX7_placeOf) B.pre
  have hown : s.vm.findClass RX7 = some m.cls := findClass_of_methodNamed B.named
  have hlocks := B.notSynchronized
  have hfl_7 := hts (.fieldLink RX7 7 "TermsFirstModel" "rows" "[I") (List.mem_cons_of_mem _ (List.mem_append_left _ (List.mem_of_getElem? (i := 0) rfl)))
  have hiX7 : ∀ w ∈ u_ws RX7 TX7 14, w ∈ wsX7_placeOf := fun _ h => (List.mem_cons_of_mem _ (List.mem_append_right _ h))
  have hB_2 : ∀ (fn : Nat) (x2 : Int32), m_X7_placeOf_2 k_ro x1 fn x2 = some r → ∀ ls : Array Slot, lv_has ls 3 [(0, .ref k0), (1, .int x1), (2, .int x2)] → W p l e (headSpec wsX7_placeOf { frames := 0, cells := 0, slots := 0, locals := 0 }).room s m ([.ref k0, .int x1] : List Value).toArray below meth c s.heap [] 0 0 (MQ below (qR r) ([.ref k0, .int x1] : List Value).toArray s 0 0 (fun _ => False)) (F0 m 2 ls []) := by
    intro fn
    induction fn with
    | zero => intro x2 hf; rw [m_X7_placeOf_2] at hf; cases hf
    | succ fn ih =>
      intro x2 hf ls hl
      rw [m_X7_placeOf_2] at hf
      refine lv_aload_n hx hb dX7_placeOf_2 rfl (lv_at hl 0 rfl) ?_
      refine va_get (D := D) (ci := 7) (v := .ref k1) (C := RX7) (T := TX7) (N := 14) hx hb hts hiX7 hown hK.1 hP 0 rfl rfl 0 (by decide) hfl_7 (fun _ h9 => h9) rfl dX7_placeOf_3 ?_
      refine lv_bipush (v := (nI 33)) hx hb dX7_placeOf_6 bp_33 ?_
      refine lv_iload_n hx hb dX7_placeOf_8 rfl (lv_at hl 2 rfl) ?_
      refine lv_iadd hx hb dX7_placeOf_9 ?_
      obtain ⟨hi, hf⟩ := gd_some hf
      refine va_iald hx hb hK.1 hP 1 0 rfl rfl hi dX7_placeOf_10 ?_
      refine lv_iload_n hx hb dX7_placeOf_11 rfl (lv_at hl 1 rfl) ?_
      refine lv_icmp_eq (tgt := 21) hx hb dX7_placeOf_12 (by decide) (fun hc => ?_) (fun hc => ?_)
      · have hf := ifp hc hf
        refine lv_iload_n hx hb dX7_placeOf_21 rfl (lv_at hl 2 rfl) ?_
        cases hf
        exact W.iret hx hb hr (fun t ht _ => ⟨rfl, ht⟩) (fun _ h => nomatch h) dX7_placeOf_22
      · have hf := ifn hc hf
        refine lv_iinc (v := (x2 + (nI 1))) (lv' := [(2, .int (x2 + (nI 1))), (0, .ref k0), (1, .int x1)]) hx hb dX7_placeOf_15 hl (k := 2) rfl (ii_1 _) (by decide) rfl (fun ls hl => ?_)
        refine lv_goto (tgt := 2) hx hb dX7_placeOf_18 (by decide) ?_
        exact ih (x2 + (nI 1)) hf  ls (lv_sub hl [1, 2, 0] rfl)
  have hl := lv_entry ([.ref k0, .int x1]) (n := 3) (Nat.le_of_ble_eq_true rfl)
  rw [lg_entry_eq]
  generalize (lg_sl ([.ref k0, .int x1]) ++ List.replicate (3 - (lg_sl ([.ref k0, .int x1])).length) Slot.unset).toArray = ls at hl ⊢
  have hl : lv_has ls 3 [(0, .ref k0), (1, .int x1)] := hl
  unfold m_X7_placeOf at hf
  refine lv_iconst (v := (nI 0)) hx hb dX7_placeOf_0 ic_0 ?_
  refine lv_istore_n (lv' := [(2, .int (nI 0)), (0, .ref k0), (1, .int x1)]) hx hb dX7_placeOf_1 rfl hl (by decide) rfl (fun ls hl => ?_)
  exact hB_2 fu (nI 0) hf  ls (lv_sub hl [1, 2, 0] rfl)
theorem hdc_X7_write : yX7_write.cls ≠ "java/lang/invoke/MethodHandle" ∧ yX7_write.cls ≠ "java/lang/invoke/VarHandle" ∧ (parseMethodDescriptor yX7_write.desc).map (fun d => d.parameters.length) = some 1 := by decide +kernel
set_option maxHeartbeats 4000000 in
set_option maxRecDepth 100000 in
theorem c_X7_write (l : Launch) (D : va_G) (cI cZ cM : ClassId) (k0 k1 k2 k3 k4 k5 k6 k7 : Nat) (sz : Nat) (k_un : Int32) (k_len : Int32) (k_fi : Int32) (k_be : Int32) (k_to : Int32) (k_cl : Int32) (k_do : Int32) (k_ro : Nat → Int32) (k_ke : Nat → Int32) (k_te : Nat → Int32) (k_nu : Nat → Int32) (k_na : Nat → Int32) (k_no : Nat → Int32) (k_tu : Nat → Int32) (x1 : Int32) (r : Int32) (k_len' : Int32) (k_te' : Nat → Int32) (hf : m_X7_write k_len k_te x1 = some (r, k_len', k_te')) : Met l yX7_write wsX7_write ({ frames := 1, cells := 0, slots := 0, locals := 25 }) (pM D cI cZ cM sz [(k0, .inr (7, [.ref k1, .int k_un, .ref k2, .ref k3, .int k_len, .int k_fi, .int k_be, .int k_to, .int k_cl, .int k_do, .ref k4, .ref k5, .ref k6, .ref k7])), (k1, .inl (cI, 583, .inl k_ro)), (k2, .inl (cZ, 2, .inl k_ke)), (k3, .inl (cI, 200, .inl k_te)), (k4, .inl (cI, 10, .inl k_nu)), (k5, .inl (cI, 48, .inl k_na)), (k6, .inl (cI, 1024, .inl k_no)), (k7, .inl (cI, 1024, .inl k_tu))] [.ref k0, .int x1]) (qI D r [(k0, .inr (7, [.ref k1, .int k_un, .ref k2, .ref k3, .int k_len', .int k_fi, .int k_be, .int k_to, .int k_cl, .int k_do, .ref k4, .ref k5, .ref k6, .ref k7])), (k1, .inl (cI, 583, .inl k_ro)), (k2, .inl (cZ, 2, .inl k_ke)), (k3, .inl (cI, 200, .inl k_te')), (k4, .inl (cI, 10, .inl k_nu)), (k5, .inl (cI, 48, .inl k_na)), (k6, .inl (cI, 1024, .inl k_no)), (k7, .inl (cI, 1024, .inl k_tu))] (va_A [(k0, .inr (7, [.ref k1, .int k_un, .ref k2, .ref k3, .int k_len, .int k_fi, .int k_be, .int k_to, .int k_cl, .int k_do, .ref k4, .ref k5, .ref k6, .ref k7])), (k1, .inl (cI, 583, .inl k_ro)), (k2, .inl (cZ, 2, .inl k_ke)), (k3, .inl (cI, 200, .inl k_te)), (k4, .inl (cI, 10, .inl k_nu)), (k5, .inl (cI, 48, .inl k_na)), (k6, .inl (cI, 1024, .inl k_no)), (k7, .inl (cI, 1024, .inl k_tu))] sz)) 0 0 (va_A [(k0, .inr (7, [.ref k1, .int k_un, .ref k2, .ref k3, .int k_len, .int k_fi, .int k_be, .int k_to, .int k_cl, .int k_do, .ref k4, .ref k5, .ref k6, .ref k7])), (k1, .inl (cI, 583, .inl k_ro)), (k2, .inl (cZ, 2, .inl k_ke)), (k3, .inl (cI, 200, .inl k_te)), (k4, .inl (cI, 10, .inl k_nu)), (k5, .inl (cI, 48, .inl k_na)), (k6, .inl (cI, 1024, .inl k_no)), (k7, .inl (cI, 1024, .inl k_tu))] sz) := by
  refine Met.ofW (cc := cX7_write) (maxL := 2) (ret := (some .int)) (by decide) rfl ?_
  intro p e s m args below meth c s₁ B hml hv
  obtain ⟨rfl, hsz, hP, hK, hD0⟩ := hv
  have hx := B.exec
  have hb := B.bytes
  have hr := B.returns
  have hts := atoms_spec (ws := wsX7_write) B.pre
  have hown : s.vm.findClass RX7 = some m.cls := findClass_of_methodNamed B.named
  have hlocks := B.notSynchronized
  subst hsz
  have hD := hD0.self (sz := s.heap.size)
  generalize hAe : va_A [(k0, .inr (7, [.ref k1, .int k_un, .ref k2, .ref k3, .int k_len, .int k_fi, .int k_be, .int k_to, .int k_cl, .int k_do, .ref k4, .ref k5, .ref k6, .ref k7])), (k1, .inl (cI, 583, .inl k_ro)), (k2, .inl (cZ, 2, .inl k_ke)), (k3, .inl (cI, 200, .inl k_te)), (k4, .inl (cI, 10, .inl k_nu)), (k5, .inl (cI, 48, .inl k_na)), (k6, .inl (cI, 1024, .inl k_no)), (k7, .inl (cI, 1024, .inl k_tu))] s.heap.size = A at hD ⊢
  have hA : ∀ q : Nat, s.heap.size ≤ q → A q := fun q h => by rw [← hAe]; exact Or.inr h
  clear hAe hD0
  have hfl_17 := hts (.fieldLink RX7 17 "TermsFirstModel" "text" "[I") (List.mem_cons_of_mem _ (List.mem_append_left _ (List.mem_of_getElem? (i := 2) rfl)))
  have hfl_44 := hts (.fieldLink RX7 44 "TermsFirstModel" "length" "I") (List.mem_cons_of_mem _ (List.mem_append_left _ (List.mem_of_getElem? (i := 1) rfl)))
  have hkl_42 := hts (.constantLong RX7 42 (255)) (List.mem_cons_of_mem _ (List.mem_append_left _ (List.mem_of_getElem? (i := 0) rfl)))
  have hiX7 : ∀ w ∈ u_ws RX7 TX7 14, w ∈ wsX7_write := fun _ h => (List.mem_cons_of_mem _ (List.mem_append_right _ h))
  have hl := lv_entry ([.ref k0, .int x1]) (n := 2) (Nat.le_of_ble_eq_true rfl)
  rw [lg_entry_eq]
  generalize (lg_sl ([.ref k0, .int x1]) ++ List.replicate (2 - (lg_sl ([.ref k0, .int x1])).length) Slot.unset).toArray = ls at hl ⊢
  have hl : lv_has ls 2 [(0, .ref k0), (1, .int x1)] := hl
  have hS : va_S A s.heap s.heap [] := va_S.rf
  unfold m_X7_write at hf
  refine lv_iload_n hx hb dX7_write_0 rfl (lv_at hl 1 rfl) ?_
  refine lv_i2l (v := x1.toInt64) hx hb dX7_write_1 rfl ?_
  refine lv_lconst (v := (lN 0)) hx hb dX7_write_2 rfl ?_
  refine lv_ldc2 (v := (lN 255)) hx hb hown hkl_42 dX7_write_3 ?_
  obtain ⟨rv1, hrv1, hf⟩ := bd hf
  refine roI (va_runS (As := [.long x1.toInt64, .long (lN 0), .long (lN 255)]) (rest := []) ⟨hx, hb, hml, hown, hts⟩ (c_X7_in l D cI cZ cM x1.toInt64 (lN 0) (lN 255) rv1 hrv1) (va_cwS 3 hts gX7_write_X7_in rfl rfl rfl hdc_X7_in ⟨Nat.le_of_ble_eq_true rfl, Nat.le_of_ble_eq_true rfl⟩) (prS hK hP [] rfl) rfl rfl hl.1 rfl (lv_room (Nat.le_of_ble_eq_true rfl)) dX7_write_6 ⟨Nat.zero_le _, Nat.zero_le _⟩) ?_
  refine lv_if_ne (tgt := 15) hx hb dX7_write_9 (by decide) (fun hc => ?_) (fun hc => ?_)
  · have hf := ifn hc hf
    refine lv_aload_n hx hb dX7_write_15 rfl (lv_at hl 0 rfl) ?_
    refine va_get (D := D) (ci := 7) (v := .int k_len) (C := RX7) (T := TX7) (N := 14) hx hb hts hiX7 hown hK.1 hP 0 rfl rfl 4 (by decide) hfl_44 (fun _ h9 => h9) rfl dX7_write_16 ?_
    refine lv_sipush (v := (nI 200)) hx hb dX7_write_19 sp_200 ?_
    refine lv_icmp_ne (tgt := 28) hx hb dX7_write_22 (by decide) (fun hc => ?_) (fun hc => ?_)
    · have hf := ifn hc hf
      refine lv_aload_n hx hb dX7_write_28 rfl (lv_at hl 0 rfl) ?_
      refine va_get (D := D) (ci := 7) (v := .ref k3) (C := RX7) (T := TX7) (N := 14) hx hb hts hiX7 hown hK.1 hP 0 rfl rfl 3 (by decide) hfl_17 (fun _ h9 => h9) rfl dX7_write_29 ?_
      refine lv_aload_n hx hb dX7_write_32 rfl (lv_at hl 0 rfl) ?_
      refine va_get (D := D) (ci := 7) (v := .int k_len) (C := RX7) (T := TX7) (N := 14) hx hb hts hiX7 hown hK.1 hP 0 rfl rfl 4 (by decide) hfl_44 (fun _ h9 => h9) rfl dX7_write_33 ?_
      refine lv_iload_n hx hb dX7_write_36 rfl (lv_at hl 1 rfl) ?_
      obtain ⟨hi, hf⟩ := gd_some hf
      refine va_iast hx hb hK.1 hP hD hS 3 0 rfl rfl hi dX7_write_37 (fun H locs hP hD hS => ?_)
      have hP : va_P D vwCl [(k0, .inr (7, [.ref k1, .int k_un, .ref k2, .ref k3, .int k_len, .int k_fi, .int k_be, .int k_to, .int k_cl, .int k_do, .ref k4, .ref k5, .ref k6, .ref k7])), (k1, .inl (cI, 583, .inl k_ro)), (k2, .inl (cZ, 2, .inl k_ke)), (k3, .inl (cI, 200, .inl (upd k_te k_len.toNatClampNeg x1))), (k4, .inl (cI, 10, .inl k_nu)), (k5, .inl (cI, 48, .inl k_na)), (k6, .inl (cI, 1024, .inl k_no)), (k7, .inl (cI, 1024, .inl k_tu))] H := hP
      have hD : va_D A [(k0, .inr (7, [.ref k1, .int k_un, .ref k2, .ref k3, .int k_len, .int k_fi, .int k_be, .int k_to, .int k_cl, .int k_do, .ref k4, .ref k5, .ref k6, .ref k7])), (k1, .inl (cI, 583, .inl k_ro)), (k2, .inl (cZ, 2, .inl k_ke)), (k3, .inl (cI, 200, .inl (upd k_te k_len.toNatClampNeg x1))), (k4, .inl (cI, 10, .inl k_nu)), (k5, .inl (cI, 48, .inl k_na)), (k6, .inl (cI, 1024, .inl k_no)), (k7, .inl (cI, 1024, .inl k_tu))] := hD
      refine lv_aload_n hx hb dX7_write_38 rfl (lv_at hl 0 rfl) ?_
      refine lv_dup hx hb dX7_write_39 rfl ?_
      refine va_get (D := D) (ci := 7) (v := .int k_len) (C := RX7) (T := TX7) (N := 14) hx hb hts hiX7 hown hK.1 hP 0 rfl rfl 4 (by decide) hfl_44 (fun _ h9 => h9) rfl dX7_write_40 ?_
      refine lv_iconst (v := (nI 1)) hx hb dX7_write_43 ic_1 ?_
      refine lv_iadd hx hb dX7_write_44 ?_
      refine va_put (D := D) (ci := 7) (v := .int (k_len + (nI 1))) (ty := .int) (C := RX7) (T := TX7) (N := 14) hx hb hts hiX7 tyX7 tyX7_ok nmX7 hown hK.1 hP hD hS 0 rfl rfl 4 (by decide) hfl_44 (fun _ h9 => h9) rfl (tyX7_ok 4 (by decide)) rfl rfl (Nat.le_of_ble_eq_true rfl) dX7_write_45 (fun H locs hP hD hS => ?_)
      have hP : va_P D vwCl [(k0, .inr (7, [.ref k1, .int k_un, .ref k2, .ref k3, .int (k_len + (nI 1)), .int k_fi, .int k_be, .int k_to, .int k_cl, .int k_do, .ref k4, .ref k5, .ref k6, .ref k7])), (k1, .inl (cI, 583, .inl k_ro)), (k2, .inl (cZ, 2, .inl k_ke)), (k3, .inl (cI, 200, .inl (upd k_te k_len.toNatClampNeg x1))), (k4, .inl (cI, 10, .inl k_nu)), (k5, .inl (cI, 48, .inl k_na)), (k6, .inl (cI, 1024, .inl k_no)), (k7, .inl (cI, 1024, .inl k_tu))] H := hP
      have hD : va_D A [(k0, .inr (7, [.ref k1, .int k_un, .ref k2, .ref k3, .int (k_len + (nI 1)), .int k_fi, .int k_be, .int k_to, .int k_cl, .int k_do, .ref k4, .ref k5, .ref k6, .ref k7])), (k1, .inl (cI, 583, .inl k_ro)), (k2, .inl (cZ, 2, .inl k_ke)), (k3, .inl (cI, 200, .inl (upd k_te k_len.toNatClampNeg x1))), (k4, .inl (cI, 10, .inl k_nu)), (k5, .inl (cI, 48, .inl k_na)), (k6, .inl (cI, 1024, .inl k_no)), (k7, .inl (cI, 1024, .inl k_tu))] := hD
      refine lv_aload_n hx hb dX7_write_48 rfl (lv_at hl 0 rfl) ?_
      refine va_get (D := D) (ci := 7) (v := .int (k_len + (nI 1))) (C := RX7) (T := TX7) (N := 14) hx hb hts hiX7 hown hK.1 hP 0 rfl rfl 4 (by decide) hfl_44 (fun _ h9 => h9) rfl dX7_write_49 ?_
      cases hf
      exact W.iret hx hb hr (fun t ht _ => ⟨⟨rfl, by rw [ht]; exact hP, hD⟩, hS.F ht⟩) hS.2.2 dX7_write_52
    · have hf := ifp hc hf
      refine lv_bipush (v := (-5 : Int32)) hx hb dX7_write_25 bp_m5 ?_
      cases hf
      exact W.iret hx hb hr (fun t ht _ => ⟨⟨rfl, by rw [ht]; exact hP, hD⟩, hS.F ht⟩) hS.2.2 dX7_write_27
  · have hf := ifp hc hf
    refine lv_bipush (v := (-3 : Int32)) hx hb dX7_write_12 bp_m3 ?_
    cases hf
    exact W.iret hx hb hr (fun t ht _ => ⟨⟨rfl, by rw [ht]; exact hP, hD⟩, hS.F ht⟩) hS.2.2 dX7_write_14
theorem hdc_X7_erase : yX7_erase.cls ≠ "java/lang/invoke/MethodHandle" ∧ yX7_erase.cls ≠ "java/lang/invoke/VarHandle" ∧ (parseMethodDescriptor yX7_erase.desc).map (fun d => d.parameters.length) = some 0 := by decide +kernel
set_option maxHeartbeats 4000000 in
set_option maxRecDepth 100000 in
theorem c_X7_erase (l : Launch) (D : va_G) (cI cZ cM : ClassId) (k0 k1 k2 k3 k4 k5 k6 k7 : Nat) (sz : Nat) (k_un : Int32) (k_len : Int32) (k_fi : Int32) (k_be : Int32) (k_to : Int32) (k_cl : Int32) (k_do : Int32) (k_ro : Nat → Int32) (k_ke : Nat → Int32) (k_te : Nat → Int32) (k_nu : Nat → Int32) (k_na : Nat → Int32) (k_no : Nat → Int32) (k_tu : Nat → Int32) (r : Int32) (k_len' : Int32) (hf : m_X7_erase k_len = some (r, k_len')) : Met l yX7_erase wsX7_erase ({ frames := 0, cells := 0, slots := 0, locals := 0 }) (pM D cI cZ cM sz [(k0, .inr (7, [.ref k1, .int k_un, .ref k2, .ref k3, .int k_len, .int k_fi, .int k_be, .int k_to, .int k_cl, .int k_do, .ref k4, .ref k5, .ref k6, .ref k7])), (k1, .inl (cI, 583, .inl k_ro)), (k2, .inl (cZ, 2, .inl k_ke)), (k3, .inl (cI, 200, .inl k_te)), (k4, .inl (cI, 10, .inl k_nu)), (k5, .inl (cI, 48, .inl k_na)), (k6, .inl (cI, 1024, .inl k_no)), (k7, .inl (cI, 1024, .inl k_tu))] [.ref k0]) (qI D r [(k0, .inr (7, [.ref k1, .int k_un, .ref k2, .ref k3, .int k_len', .int k_fi, .int k_be, .int k_to, .int k_cl, .int k_do, .ref k4, .ref k5, .ref k6, .ref k7])), (k1, .inl (cI, 583, .inl k_ro)), (k2, .inl (cZ, 2, .inl k_ke)), (k3, .inl (cI, 200, .inl k_te)), (k4, .inl (cI, 10, .inl k_nu)), (k5, .inl (cI, 48, .inl k_na)), (k6, .inl (cI, 1024, .inl k_no)), (k7, .inl (cI, 1024, .inl k_tu))] (va_A [(k0, .inr (7, [.ref k1, .int k_un, .ref k2, .ref k3, .int k_len, .int k_fi, .int k_be, .int k_to, .int k_cl, .int k_do, .ref k4, .ref k5, .ref k6, .ref k7])), (k1, .inl (cI, 583, .inl k_ro)), (k2, .inl (cZ, 2, .inl k_ke)), (k3, .inl (cI, 200, .inl k_te)), (k4, .inl (cI, 10, .inl k_nu)), (k5, .inl (cI, 48, .inl k_na)), (k6, .inl (cI, 1024, .inl k_no)), (k7, .inl (cI, 1024, .inl k_tu))] sz)) 0 0 (va_A [(k0, .inr (7, [.ref k1, .int k_un, .ref k2, .ref k3, .int k_len, .int k_fi, .int k_be, .int k_to, .int k_cl, .int k_do, .ref k4, .ref k5, .ref k6, .ref k7])), (k1, .inl (cI, 583, .inl k_ro)), (k2, .inl (cZ, 2, .inl k_ke)), (k3, .inl (cI, 200, .inl k_te)), (k4, .inl (cI, 10, .inl k_nu)), (k5, .inl (cI, 48, .inl k_na)), (k6, .inl (cI, 1024, .inl k_no)), (k7, .inl (cI, 1024, .inl k_tu))] sz) := by
  refine Met.ofW (cc := cX7_erase) (maxL := 2) (ret := (some .int)) (by decide) rfl ?_
  intro p e s m args below meth c s₁ B hml hv
  obtain ⟨rfl, hsz, hP, hK, hD0⟩ := hv
  have hx := B.exec
  have hb := B.bytes
  have hr := B.returns
  have hts := atoms_spec (ws := wsX7_erase) B.pre
  have hown : s.vm.findClass RX7 = some m.cls := findClass_of_methodNamed B.named
  have hlocks := B.notSynchronized
  subst hsz
  have hD := hD0.self (sz := s.heap.size)
  generalize hAe : va_A [(k0, .inr (7, [.ref k1, .int k_un, .ref k2, .ref k3, .int k_len, .int k_fi, .int k_be, .int k_to, .int k_cl, .int k_do, .ref k4, .ref k5, .ref k6, .ref k7])), (k1, .inl (cI, 583, .inl k_ro)), (k2, .inl (cZ, 2, .inl k_ke)), (k3, .inl (cI, 200, .inl k_te)), (k4, .inl (cI, 10, .inl k_nu)), (k5, .inl (cI, 48, .inl k_na)), (k6, .inl (cI, 1024, .inl k_no)), (k7, .inl (cI, 1024, .inl k_tu))] s.heap.size = A at hD ⊢
  have hA : ∀ q : Nat, s.heap.size ≤ q → A q := fun q h => by rw [← hAe]; exact Or.inr h
  clear hAe hD0
  have hfl_44 := hts (.fieldLink RX7 44 "TermsFirstModel" "length" "I") (List.mem_cons_of_mem _ (List.mem_append_left _ (List.mem_of_getElem? (i := 0) rfl)))
  have hiX7 : ∀ w ∈ u_ws RX7 TX7 14, w ∈ wsX7_erase := fun _ h => (List.mem_cons_of_mem _ (List.mem_append_right _ h))
  have hl := lv_entry ([.ref k0]) (n := 2) (Nat.le_of_ble_eq_true rfl)
  rw [lg_entry_eq]
  generalize (lg_sl ([.ref k0]) ++ List.replicate (2 - (lg_sl ([.ref k0])).length) Slot.unset).toArray = ls at hl ⊢
  have hl : lv_has ls 2 [(0, .ref k0)] := hl
  have hS : va_S A s.heap s.heap [] := va_S.rf
  unfold m_X7_erase at hf
  refine lv_aload_n hx hb dX7_erase_0 rfl (lv_at hl 0 rfl) ?_
  refine va_get (D := D) (ci := 7) (v := .int k_len) (C := RX7) (T := TX7) (N := 14) hx hb hts hiX7 hown hK.1 hP 0 rfl rfl 4 (by decide) hfl_44 (fun _ h9 => h9) rfl dX7_erase_1 ?_
  refine lv_istore_n (lv' := [(1, .int k_len), (0, .ref k0)]) hx hb dX7_erase_4 rfl hl (by decide) rfl (fun ls hl => ?_)
  refine lv_aload_n hx hb dX7_erase_5 rfl (lv_at hl 1 rfl) ?_
  refine lv_iconst (v := (nI 0)) hx hb dX7_erase_6 ic_0 ?_
  refine va_put (D := D) (ci := 7) (v := .int (nI 0)) (ty := .int) (C := RX7) (T := TX7) (N := 14) hx hb hts hiX7 tyX7 tyX7_ok nmX7 hown hK.1 hP hD hS 0 rfl rfl 4 (by decide) hfl_44 (fun _ h9 => h9) rfl (tyX7_ok 4 (by decide)) rfl rfl (Nat.le_of_ble_eq_true rfl) dX7_erase_7 (fun H locs hP hD hS => ?_)
  have hP : va_P D vwCl [(k0, .inr (7, [.ref k1, .int k_un, .ref k2, .ref k3, .int (nI 0), .int k_fi, .int k_be, .int k_to, .int k_cl, .int k_do, .ref k4, .ref k5, .ref k6, .ref k7])), (k1, .inl (cI, 583, .inl k_ro)), (k2, .inl (cZ, 2, .inl k_ke)), (k3, .inl (cI, 200, .inl k_te)), (k4, .inl (cI, 10, .inl k_nu)), (k5, .inl (cI, 48, .inl k_na)), (k6, .inl (cI, 1024, .inl k_no)), (k7, .inl (cI, 1024, .inl k_tu))] H := hP
  have hD : va_D A [(k0, .inr (7, [.ref k1, .int k_un, .ref k2, .ref k3, .int (nI 0), .int k_fi, .int k_be, .int k_to, .int k_cl, .int k_do, .ref k4, .ref k5, .ref k6, .ref k7])), (k1, .inl (cI, 583, .inl k_ro)), (k2, .inl (cZ, 2, .inl k_ke)), (k3, .inl (cI, 200, .inl k_te)), (k4, .inl (cI, 10, .inl k_nu)), (k5, .inl (cI, 48, .inl k_na)), (k6, .inl (cI, 1024, .inl k_no)), (k7, .inl (cI, 1024, .inl k_tu))] := hD
  refine lv_iload_n hx hb dX7_erase_10 rfl (lv_at hl 0 rfl) ?_
  cases hf
  exact W.iret hx hb hr (fun t ht _ => ⟨⟨rfl, by rw [ht]; exact hP, hD⟩, hS.F ht⟩) hS.2.2 dX7_erase_11
theorem hdc_X7_isSmall : yX7_isSmall.cls ≠ "java/lang/invoke/MethodHandle" ∧ yX7_isSmall.cls ≠ "java/lang/invoke/VarHandle" ∧ (parseMethodDescriptor yX7_isSmall.desc).map (fun d => d.parameters.length) = some 1 := by decide +kernel
set_option maxHeartbeats 4000000 in
set_option maxRecDepth 100000 in
theorem c_X7_isSmall (l : Launch) (D : va_G) (cI cZ cM : ClassId) (x0 : Int32) (r : Int32) (hf : m_X7_isSmall x0 = some r) : Met l yX7_isSmall wsX7_isSmall ({ frames := 1, cells := 0, slots := 0, locals := 25 }) (pR D cI cZ cM [] [.int x0]) (qR r) 0 0 (fun _ => False) := by
  refine Met.ofW (cc := cX7_isSmall) (maxL := 1) (ret := (some .boolean)) (by decide) rfl ?_
  intro p e s m args below meth c s₁ B hml hv
  obtain ⟨rfl, hP, hK⟩ := hv
  have hx := B.exec
  have hb := B.bytes
  have hr := B.returns
  have hts := atoms_spec (ws := wsX7_isSmall) B.pre
  have hown : s.vm.findClass RX7 = some m.cls := findClass_of_methodNamed B.named
  have hlocks := B.notSynchronized
  have hkl_48 := hts (.constantLong RX7 48 (97)) (List.mem_cons_of_mem _ (List.mem_of_getElem? (i := 0) rfl))
  have hkl_50 := hts (.constantLong RX7 50 (122)) (List.mem_cons_of_mem _ (List.mem_of_getElem? (i := 1) rfl))
  have hl := lv_entry ([.int x0]) (n := 1) (Nat.le_of_ble_eq_true rfl)
  rw [lg_entry_eq]
  generalize (lg_sl ([.int x0]) ++ List.replicate (1 - (lg_sl ([.int x0])).length) Slot.unset).toArray = ls at hl ⊢
  have hl : lv_has ls 1 [(0, .int x0)] := hl
  unfold m_X7_isSmall at hf
  refine lv_iload_n hx hb dX7_isSmall_0 rfl (lv_at hl 0 rfl) ?_
  refine lv_i2l (v := x0.toInt64) hx hb dX7_isSmall_1 rfl ?_
  refine lv_ldc2 (v := (lN 97)) hx hb hown hkl_48 dX7_isSmall_2 ?_
  refine lv_ldc2 (v := (lN 122)) hx hb hown hkl_50 dX7_isSmall_5 ?_
  obtain ⟨rv1, hrv1, hf⟩ := bd hf
  refine roI (va_runS (As := [.long x0.toInt64, .long (lN 97), .long (lN 122)]) (rest := []) ⟨hx, hb, hml, hown, hts⟩ (c_X7_in l D cI cZ cM x0.toInt64 (lN 97) (lN 122) rv1 hrv1) (va_cwS 3 hts gX7_isSmall_X7_in rfl rfl rfl hdc_X7_in ⟨Nat.le_of_ble_eq_true rfl, Nat.le_of_ble_eq_true rfl⟩) (prS hK hP [] rfl) rfl rfl hl.1 rfl (lv_room (Nat.le_of_ble_eq_true rfl)) dX7_isSmall_8 ⟨Nat.zero_le _, Nat.zero_le _⟩) ?_
  obtain ⟨hz, hf⟩ := zb_some hf
  cases hf
  exact W.zret hx hb hr hz.1 (fun t ht _ => ⟨rfl, ht⟩) (fun _ h => nomatch h) dX7_isSmall_11
theorem hdc_X7_isDigit : yX7_isDigit.cls ≠ "java/lang/invoke/MethodHandle" ∧ yX7_isDigit.cls ≠ "java/lang/invoke/VarHandle" ∧ (parseMethodDescriptor yX7_isDigit.desc).map (fun d => d.parameters.length) = some 1 := by decide +kernel
set_option maxHeartbeats 4000000 in
set_option maxRecDepth 100000 in
theorem c_X7_isDigit (l : Launch) (D : va_G) (cI cZ cM : ClassId) (x0 : Int32) (r : Int32) (hf : m_X7_isDigit x0 = some r) : Met l yX7_isDigit wsX7_isDigit ({ frames := 1, cells := 0, slots := 0, locals := 25 }) (pR D cI cZ cM [] [.int x0]) (qR r) 0 0 (fun _ => False) := by
  refine Met.ofW (cc := cX7_isDigit) (maxL := 1) (ret := (some .boolean)) (by decide) rfl ?_
  intro p e s m args below meth c s₁ B hml hv
  obtain ⟨rfl, hP, hK⟩ := hv
  have hx := B.exec
  have hb := B.bytes
  have hr := B.returns
  have hts := atoms_spec (ws := wsX7_isDigit) B.pre
  have hown : s.vm.findClass RX7 = some m.cls := findClass_of_methodNamed B.named
  have hlocks := B.notSynchronized
  have hkl_52 := hts (.constantLong RX7 52 (48)) (List.mem_cons_of_mem _ (List.mem_of_getElem? (i := 0) rfl))
  have hkl_54 := hts (.constantLong RX7 54 (57)) (List.mem_cons_of_mem _ (List.mem_of_getElem? (i := 1) rfl))
  have hl := lv_entry ([.int x0]) (n := 1) (Nat.le_of_ble_eq_true rfl)
  rw [lg_entry_eq]
  generalize (lg_sl ([.int x0]) ++ List.replicate (1 - (lg_sl ([.int x0])).length) Slot.unset).toArray = ls at hl ⊢
  have hl : lv_has ls 1 [(0, .int x0)] := hl
  unfold m_X7_isDigit at hf
  refine lv_iload_n hx hb dX7_isDigit_0 rfl (lv_at hl 0 rfl) ?_
  refine lv_i2l (v := x0.toInt64) hx hb dX7_isDigit_1 rfl ?_
  refine lv_ldc2 (v := (lN 48)) hx hb hown hkl_52 dX7_isDigit_2 ?_
  refine lv_ldc2 (v := (lN 57)) hx hb hown hkl_54 dX7_isDigit_5 ?_
  obtain ⟨rv1, hrv1, hf⟩ := bd hf
  refine roI (va_runS (As := [.long x0.toInt64, .long (lN 48), .long (lN 57)]) (rest := []) ⟨hx, hb, hml, hown, hts⟩ (c_X7_in l D cI cZ cM x0.toInt64 (lN 48) (lN 57) rv1 hrv1) (va_cwS 3 hts gX7_isDigit_X7_in rfl rfl rfl hdc_X7_in ⟨Nat.le_of_ble_eq_true rfl, Nat.le_of_ble_eq_true rfl⟩) (prS hK hP [] rfl) rfl rfl hl.1 rfl (lv_room (Nat.le_of_ble_eq_true rfl)) dX7_isDigit_8 ⟨Nat.zero_le _, Nat.zero_le _⟩) ?_
  obtain ⟨hz, hf⟩ := zb_some hf
  cases hf
  exact W.zret hx hb hr hz.1 (fun t ht _ => ⟨rfl, ht⟩) (fun _ h => nomatch h) dX7_isDigit_11
