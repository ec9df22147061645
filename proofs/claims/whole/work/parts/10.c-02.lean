theorem hdc_X1_takeSection : yX1_takeSection.cls ≠ "java/lang/invoke/MethodHandle" ∧ yX1_takeSection.cls ≠ "java/lang/invoke/VarHandle" ∧ (parseMethodDescriptor yX1_takeSection.desc).map (fun d => d.parameters.length) = some 1 := by decide +kernel
set_option maxHeartbeats 4000000 in
set_option maxRecDepth 100000 in
theorem c_X1_takeSection (l : Launch) (D : va_G) (cI cZ cM : ClassId) (r0 r1 t0 t1 b0 b1 b2 b3 b4 b5 : Nat) (sz : Nat) (r_cl : Int32) (r_no : Nat → Int32) (t_len : Int32) (t_st : Int32) (t_nx : Int32) (t_kd : Int32) (t_by : Nat → Int32) (b_n : Int32) (b_L : Nat → Int32) (b_U : Nat → Int32) (b_H : Nat → Int32) (b_O : Nat → Int32) (b_B : Nat → Int32) (fu : Nat) (r : Int32) (t_st' : Int32) (t_nx' : Int32) (t_kd' : Int32) (hf : m_X1_takeSection fu t_len t_nx t_by b_n = some (r, t_st', t_nx', t_kd')) : Met l yX1_takeSection wsX1_takeSection ({ frames := 2, cells := 0, slots := 0, locals := 40 }) (pM D cI cZ cM sz [(r0, .inr (1, [.int r_cl, .ref t0, .ref r1])), (r1, .inl (cI, 10, .inl r_no)), (t0, .inr (5, [.int t_len, .int t_st, .int t_nx, .int t_kd, .ref t1])), (t1, .inl (cI, 200, .inl t_by)), (b0, .inr (3, [.int b_n, .ref b1, .ref b2, .ref b3, .ref b4, .ref b5])), (b1, .inl (cI, 10, .inl b_L)), (b2, .inl (cI, 10, .inl b_U)), (b3, .inl (cI, 12, .inl b_H)), (b4, .inl (cI, 10, .inl b_O)), (b5, .inl (cI, 10, .inl b_B))] [.ref r0, .ref b0]) (qI D r [(r0, .inr (1, [.int r_cl, .ref t0, .ref r1])), (r1, .inl (cI, 10, .inl r_no)), (t0, .inr (5, [.int t_len, .int t_st', .int t_nx', .int t_kd', .ref t1])), (t1, .inl (cI, 200, .inl t_by)), (b0, .inr (3, [.int b_n, .ref b1, .ref b2, .ref b3, .ref b4, .ref b5])), (b1, .inl (cI, 10, .inl b_L)), (b2, .inl (cI, 10, .inl b_U)), (b3, .inl (cI, 12, .inl b_H)), (b4, .inl (cI, 10, .inl b_O)), (b5, .inl (cI, 10, .inl b_B))] (va_A [(r0, .inr (1, [.int r_cl, .ref t0, .ref r1])), (r1, .inl (cI, 10, .inl r_no)), (t0, .inr (5, [.int t_len, .int t_st, .int t_nx, .int t_kd, .ref t1])), (t1, .inl (cI, 200, .inl t_by)), (b0, .inr (3, [.int b_n, .ref b1, .ref b2, .ref b3, .ref b4, .ref b5])), (b1, .inl (cI, 10, .inl b_L)), (b2, .inl (cI, 10, .inl b_U)), (b3, .inl (cI, 12, .inl b_H)), (b4, .inl (cI, 10, .inl b_O)), (b5, .inl (cI, 10, .inl b_B))] sz)) 0 0 (va_A [(r0, .inr (1, [.int r_cl, .ref t0, .ref r1])), (r1, .inl (cI, 10, .inl r_no)), (t0, .inr (5, [.int t_len, .int t_st, .int t_nx, .int t_kd, .ref t1])), (t1, .inl (cI, 200, .inl t_by)), (b0, .inr (3, [.int b_n, .ref b1, .ref b2, .ref b3, .ref b4, .ref b5])), (b1, .inl (cI, 10, .inl b_L)), (b2, .inl (cI, 10, .inl b_U)), (b3, .inl (cI, 12, .inl b_H)), (b4, .inl (cI, 10, .inl b_O)), (b5, .inl (cI, 10, .inl b_B))] sz) := by
  refine Met.ofW (cc := cX1_takeSection) (maxL := 2) (ret := (some .int)) (by decide) rfl ?_
  intro p e s m args below meth c s₁ B hml hv
  obtain ⟨rfl, hsz, hP, hK, hD0⟩ := hv
  have hx := B.exec
  have hb := B.bytes
  have hr := B.returns
  have hts := atoms_spec (ws := wsX1_takeSection) B.pre
  have hown : s.vm.findClass RX1 = some m.cls := findClass_of_methodNamed B.named
  have hlocks := B.notSynchronized
  subst hsz
  have hD := hD0.self (sz := s.heap.size)
  generalize hAe : va_A [(r0, .inr (1, [.int r_cl, .ref t0, .ref r1])), (r1, .inl (cI, 10, .inl r_no)), (t0, .inr (5, [.int t_len, .int t_st, .int t_nx, .int t_kd, .ref t1])), (t1, .inl (cI, 200, .inl t_by)), (b0, .inr (3, [.int b_n, .ref b1, .ref b2, .ref b3, .ref b4, .ref b5])), (b1, .inl (cI, 10, .inl b_L)), (b2, .inl (cI, 10, .inl b_U)), (b3, .inl (cI, 12, .inl b_H)), (b4, .inl (cI, 10, .inl b_O)), (b5, .inl (cI, 10, .inl b_B))] s.heap.size = A at hD ⊢
  have hA : ∀ q : Nat, s.heap.size ≤ q → A q := fun q h => by rw [← hAe]; exact Or.inr h
  clear hAe hD0
  have hfl_19 := hts (.fieldLink RX1 19 "TermsFirst$ClauseReader" "text" "LTermsFirst$Text;") (List.mem_cons_of_mem _ (List.mem_append_left _ (List.mem_append_left _ (List.mem_append_left _ (List.mem_of_getElem? (i := 0) rfl)))))
  have hfl_83 := hts (.fieldLink RX1 83 "TermsFirst$Manual" "n" "I") (List.mem_cons_of_mem _ (List.mem_append_left _ (List.mem_append_left _ (List.mem_append_left _ (List.mem_of_getElem? (i := 1) rfl)))))
  have hiX1 : ∀ w ∈ u_ws RX1 TX1 3, w ∈ wsX1_takeSection := fun _ h => (List.mem_cons_of_mem _ (List.mem_append_left _ (List.mem_append_left _ (List.mem_append_right _ h))))
  have hiX3 : ∀ w ∈ u_ws RX3 TX3 6, w ∈ wsX1_takeSection := fun _ h => (List.mem_cons_of_mem _ (List.mem_append_left _ (List.mem_append_right _ h)))
  have hl := lv_entry ([.ref r0, .ref b0]) (n := 2) (Nat.le_of_ble_eq_true rfl)
  rw [lg_entry_eq]
  generalize (lg_sl ([.ref r0, .ref b0]) ++ List.replicate (2 - (lg_sl ([.ref r0, .ref b0])).length) Slot.unset).toArray = ls at hl ⊢
  have hl : lv_has ls 2 [(0, .ref r0), (1, .ref b0)] := hl
  have hS : va_S A s.heap s.heap [] := va_S.rf
  unfold m_X1_takeSection at hf
  refine lv_aload_n hx hb dX1_takeSection_0 rfl (lv_at hl 0 rfl) ?_
  refine va_get (D := D) (ci := 1) (v := .ref t0) (C := RX1) (T := TX1) (N := 3) hx hb hts hiX1 hown hK.1 hP 0 rfl rfl 1 (by decide) hfl_19 (fun _ h9 => h9) rfl dX1_takeSection_1 ?_
  obtain ⟨rv1, hrv1, hf⟩ := bd hf
  refine muV0 (wr := [(r0, .inr (1, [.int r_cl, .ref t0, .ref r1])), (r1, .inl (cI, 10, .inl r_no)), (b0, .inr (3, [.int b_n, .ref b1, .ref b2, .ref b3, .ref b4, .ref b5])), (b1, .inl (cI, 10, .inl b_L)), (b2, .inl (cI, 10, .inl b_U)), (b3, .inl (cI, 12, .inl b_H)), (b4, .inl (cI, 10, .inl b_O)), (b5, .inl (cI, 10, .inl b_B))]) (va_runV (As := []) (rest := []) ⟨hx, hb, hml, hown, hts⟩ (c_X5_take l D cI cZ cM t0 t1 _ t_len t_st t_nx t_kd t_by fu rv1.1 rv1.2.1 rv1.2.2 hrv1) (cwV 0 hts gX1_takeSection_X5_take rfl rfl rfl ⟨rfl, hdc_X5_take⟩ ⟨Nat.le_of_ble_eq_true rfl, Nat.le_of_ble_eq_true rfl⟩) (pmV hK hP hD [2, 3] (by decide) rfl rfl (ci := 5) (q0 := 2) rfl rfl) rfl rfl hl.1 rfl (lv_room (Nat.le_of_ble_eq_true rfl)) dX1_takeSection_4 ⟨Nat.zero_le _, Nat.zero_le _⟩) hP hD hS hA [2, 3] [0, 1, 4, 5, 6, 7, 8, 9] rfl rfl (by decide) (by decide) (fun H locs hP hD hS => ?_)
  have hP : va_P D vwCl [(r0, .inr (1, [.int r_cl, .ref t0, .ref r1])), (r1, .inl (cI, 10, .inl r_no)), (b0, .inr (3, [.int b_n, .ref b1, .ref b2, .ref b3, .ref b4, .ref b5])), (b1, .inl (cI, 10, .inl b_L)), (b2, .inl (cI, 10, .inl b_U)), (b3, .inl (cI, 12, .inl b_H)), (b4, .inl (cI, 10, .inl b_O)), (b5, .inl (cI, 10, .inl b_B)), (t0, .inr (5, [.int t_len, .int rv1.1, .int rv1.2.1, .int rv1.2.2, .ref t1])), (t1, .inl (cI, 200, .inl t_by))] H := hP
  have hD : va_D A [(r0, .inr (1, [.int r_cl, .ref t0, .ref r1])), (r1, .inl (cI, 10, .inl r_no)), (b0, .inr (3, [.int b_n, .ref b1, .ref b2, .ref b3, .ref b4, .ref b5])), (b1, .inl (cI, 10, .inl b_L)), (b2, .inl (cI, 10, .inl b_U)), (b3, .inl (cI, 12, .inl b_H)), (b4, .inl (cI, 10, .inl b_O)), (b5, .inl (cI, 10, .inl b_B)), (t0, .inr (5, [.int t_len, .int rv1.1, .int rv1.2.1, .int rv1.2.2, .ref t1])), (t1, .inl (cI, 200, .inl t_by))] := hD
  refine lv_aload_n hx hb dX1_takeSection_7 rfl (lv_at hl 0 rfl) ?_
  refine va_get (D := D) (ci := 1) (v := .ref t0) (C := RX1) (T := TX1) (N := 3) hx hb hts hiX1 hown hK.1 hP 0 rfl rfl 1 (by decide) hfl_19 (fun _ h9 => h9) rfl dX1_takeSection_8 ?_
  refine lv_iconst (v := (nI 0)) hx hb dX1_takeSection_11 ic_0 ?_
  refine lv_aload_n hx hb dX1_takeSection_12 rfl (lv_at hl 1 rfl) ?_
  refine va_get (D := D) (ci := 3) (v := .int b_n) (C := RX3) (T := TX3) (N := 6) hx hb hts hiX3 hown hK.1 hP 2 rfl rfl 0 (by decide) hfl_83 (fun _ h9 => h9) rfl dX1_takeSection_13 ?_
  refine lv_iconst (v := (nI 1)) hx hb dX1_takeSection_16 ic_1 ?_
  refine lv_isub hx hb dX1_takeSection_17 ?_
  obtain ⟨rv2, hrv2, hf⟩ := bd hf
  refine roI (va_runV (As := [.int (nI 0), .int (b_n - (nI 1))]) (rest := []) ⟨hx, hb, hml, hown, hts⟩ (c_X5_asNumber l D cI cZ cM t0 t1 t_len rv1.1 rv1.2.1 rv1.2.2 t_by (nI 0) (b_n - (nI 1)) fu rv2 hrv2) (cwV 2 hts gX1_takeSection_X5_asNumber rfl rfl rfl ⟨rfl, hdc_X5_asNumber⟩ ⟨Nat.le_of_ble_eq_true rfl, Nat.le_of_ble_eq_true rfl⟩) (prV hK hP [8, 9] rfl (ci := 5) (q0 := 8) rfl rfl) rfl rfl hl.1 rfl (lv_room (Nat.le_of_ble_eq_true rfl)) dX1_takeSection_18 ⟨Nat.zero_le _, Nat.zero_le _⟩) ?_
  cases hf
  exact W.iret hx hb hr (fun t ht _ => ⟨⟨rfl, by rw [ht]; exact (hP.sub [0, 1, 8, 9, 2, 3, 4, 5, 6, 7] rfl), (hD.sub [0, 1, 8, 9, 2, 3, 4, 5, 6, 7] (by decide) rfl)⟩, hS.F ht⟩) hS.2.2 dX1_takeSection_21
theorem hdc_X1_readPages : yX1_readPages.cls ≠ "java/lang/invoke/MethodHandle" ∧ yX1_readPages.cls ≠ "java/lang/invoke/VarHandle" ∧ (parseMethodDescriptor yX1_readPages.desc).map (fun d => d.parameters.length) = some 1 := by decide +kernel
set_option maxHeartbeats 4000000 in
set_option maxRecDepth 100000 in
theorem c_X1_readPages (l : Launch) (D : va_G) (cI cZ cM : ClassId) (r0 r1 t0 t1 b0 b1 b2 b3 b4 b5 : Nat) (sz : Nat) (r_cl : Int32) (r_no : Nat → Int32) (t_len : Int32) (t_st : Int32) (t_nx : Int32) (t_kd : Int32) (t_by : Nat → Int32) (b_n : Int32) (b_L : Nat → Int32) (b_U : Nat → Int32) (b_H : Nat → Int32) (b_O : Nat → Int32) (b_B : Nat → Int32) (fu : Nat) (r : Int32) (t_st' : Int32) (t_nx' : Int32) (t_kd' : Int32) (b_L' : Nat → Int32) (hf : m_X1_readPages fu t_len t_nx t_by b_n b_L = some (r, t_st', t_nx', t_kd', b_L')) : Met l yX1_readPages wsX1_readPages ({ frames := 3, cells := 0, slots := 0, locals := 62 }) (pM D cI cZ cM sz [(r0, .inr (1, [.int r_cl, .ref t0, .ref r1])), (r1, .inl (cI, 10, .inl r_no)), (t0, .inr (5, [.int t_len, .int t_st, .int t_nx, .int t_kd, .ref t1])), (t1, .inl (cI, 200, .inl t_by)), (b0, .inr (3, [.int b_n, .ref b1, .ref b2, .ref b3, .ref b4, .ref b5])), (b1, .inl (cI, 10, .inl b_L)), (b2, .inl (cI, 10, .inl b_U)), (b3, .inl (cI, 12, .inl b_H)), (b4, .inl (cI, 10, .inl b_O)), (b5, .inl (cI, 10, .inl b_B))] [.ref r0, .ref b0]) (qI D r [(r0, .inr (1, [.int r_cl, .ref t0, .ref r1])), (r1, .inl (cI, 10, .inl r_no)), (t0, .inr (5, [.int t_len, .int t_st', .int t_nx', .int t_kd', .ref t1])), (t1, .inl (cI, 200, .inl t_by)), (b0, .inr (3, [.int b_n, .ref b1, .ref b2, .ref b3, .ref b4, .ref b5])), (b1, .inl (cI, 10, .inl b_L')), (b2, .inl (cI, 10, .inl b_U)), (b3, .inl (cI, 12, .inl b_H)), (b4, .inl (cI, 10, .inl b_O)), (b5, .inl (cI, 10, .inl b_B))] (va_A [(r0, .inr (1, [.int r_cl, .ref t0, .ref r1])), (r1, .inl (cI, 10, .inl r_no)), (t0, .inr (5, [.int t_len, .int t_st, .int t_nx, .int t_kd, .ref t1])), (t1, .inl (cI, 200, .inl t_by)), (b0, .inr (3, [.int b_n, .ref b1, .ref b2, .ref b3, .ref b4, .ref b5])), (b1, .inl (cI, 10, .inl b_L)), (b2, .inl (cI, 10, .inl b_U)), (b3, .inl (cI, 12, .inl b_H)), (b4, .inl (cI, 10, .inl b_O)), (b5, .inl (cI, 10, .inl b_B))] sz)) 0 0 (va_A [(r0, .inr (1, [.int r_cl, .ref t0, .ref r1])), (r1, .inl (cI, 10, .inl r_no)), (t0, .inr (5, [.int t_len, .int t_st, .int t_nx, .int t_kd, .ref t1])), (t1, .inl (cI, 200, .inl t_by)), (b0, .inr (3, [.int b_n, .ref b1, .ref b2, .ref b3, .ref b4, .ref b5])), (b1, .inl (cI, 10, .inl b_L)), (b2, .inl (cI, 10, .inl b_U)), (b3, .inl (cI, 12, .inl b_H)), (b4, .inl (cI, 10, .inl b_O)), (b5, .inl (cI, 10, .inl b_B))] sz) := by
  refine Met.ofW (cc := cX1_readPages) (maxL := 4) (ret := (some .boolean)) (by decide) rfl ?_
  intro p e s m args below meth c s₁ B hml hv
  obtain ⟨rfl, hsz, hP, hK, hD0⟩ := hv
  have hx := B.exec
  have hb := B.bytes
  have hr := B.returns
  have hts := atoms_spec (ws := wsX1_readPages) B.pre
  have hown : s.vm.findClass RX1 = some m.cls := findClass_of_methodNamed B.named
  have hlocks := B.notSynchronized
  subst hsz
  have hD := hD0.self (sz := s.heap.size)
  generalize hAe : va_A [(r0, .inr (1, [.int r_cl, .ref t0, .ref r1])), (r1, .inl (cI, 10, .inl r_no)), (t0, .inr (5, [.int t_len, .int t_st, .int t_nx, .int t_kd, .ref t1])), (t1, .inl (cI, 200, .inl t_by)), (b0, .inr (3, [.int b_n, .ref b1, .ref b2, .ref b3, .ref b4, .ref b5])), (b1, .inl (cI, 10, .inl b_L)), (b2, .inl (cI, 10, .inl b_U)), (b3, .inl (cI, 12, .inl b_H)), (b4, .inl (cI, 10, .inl b_O)), (b5, .inl (cI, 10, .inl b_B))] s.heap.size = A at hD ⊢
  have hA : ∀ q : Nat, s.heap.size ≤ q → A q := fun q h => by rw [← hAe]; exact Or.inr h
  clear hAe hD0
  have hfl_99 := hts (.fieldLink RX1 99 "TermsFirst$Manual" "lengths" "[I") (List.mem_cons_of_mem _ (List.mem_append_left _ (List.mem_append_left _ (List.mem_append_left _ (List.mem_append_left _ (List.mem_of_getElem? (i := 0) rfl))))))
  have hiX3 : ∀ w ∈ u_ws RX3 TX3 6, w ∈ wsX1_readPages := fun _ h => (List.mem_cons_of_mem _ (List.mem_append_left _ (List.mem_append_left _ (List.mem_append_right _ h))))
  have hl := lv_entry ([.ref r0, .ref b0]) (n := 4) (Nat.le_of_ble_eq_true rfl)
  rw [lg_entry_eq]
  generalize (lg_sl ([.ref r0, .ref b0]) ++ List.replicate (4 - (lg_sl ([.ref r0, .ref b0])).length) Slot.unset).toArray = ls at hl ⊢
  have hl : lv_has ls 4 [(0, .ref r0), (1, .ref b0)] := hl
  have hS : va_S A s.heap s.heap [] := va_S.rf
  unfold m_X1_readPages at hf
  refine lv_aload_n hx hb dX1_readPages_0 rfl (lv_at hl 0 rfl) ?_
  refine lv_aload_n hx hb dX1_readPages_1 rfl (lv_at hl 1 rfl) ?_
  obtain ⟨rv1, hrv1, hf⟩ := bd hf
  refine muI0 (wr := []) (va_runV (As := [.ref b0]) (rest := []) ⟨hx, hb, hml, hown, hts⟩ (c_X1_takeSection l D cI cZ cM r0 r1 t0 t1 b0 b1 b2 b3 b4 b5 _ r_cl r_no t_len t_st t_nx t_kd t_by b_n b_L b_U b_H b_O b_B fu rv1.1 rv1.2.1 rv1.2.2.1 rv1.2.2.2 hrv1) (cwV 1 hts gX1_readPages_X1_takeSection rfl rfl rfl ⟨rfl, hdc_X1_takeSection⟩ ⟨Nat.le_of_ble_eq_true rfl, Nat.le_of_ble_eq_true rfl⟩) (pmV hK hP hD [0, 1, 2, 3, 4, 5, 6, 7, 8, 9] (by decide) rfl rfl (ci := 1) (q0 := 0) rfl rfl) rfl rfl hl.1 rfl (lv_room (Nat.le_of_ble_eq_true rfl)) dX1_readPages_2 ⟨Nat.zero_le _, Nat.zero_le _⟩) hP hD hS hA [0, 1, 2, 3, 4, 5, 6, 7, 8, 9] [] rfl rfl (by decide) (by decide) (fun H locs hP hD hS => ?_)
  have hP : va_P D vwCl [(r0, .inr (1, [.int r_cl, .ref t0, .ref r1])), (r1, .inl (cI, 10, .inl r_no)), (t0, .inr (5, [.int t_len, .int rv1.2.1, .int rv1.2.2.1, .int rv1.2.2.2, .ref t1])), (t1, .inl (cI, 200, .inl t_by)), (b0, .inr (3, [.int b_n, .ref b1, .ref b2, .ref b3, .ref b4, .ref b5])), (b1, .inl (cI, 10, .inl b_L)), (b2, .inl (cI, 10, .inl b_U)), (b3, .inl (cI, 12, .inl b_H)), (b4, .inl (cI, 10, .inl b_O)), (b5, .inl (cI, 10, .inl b_B))] H := hP
  have hD : va_D A [(r0, .inr (1, [.int r_cl, .ref t0, .ref r1])), (r1, .inl (cI, 10, .inl r_no)), (t0, .inr (5, [.int t_len, .int rv1.2.1, .int rv1.2.2.1, .int rv1.2.2.2, .ref t1])), (t1, .inl (cI, 200, .inl t_by)), (b0, .inr (3, [.int b_n, .ref b1, .ref b2, .ref b3, .ref b4, .ref b5])), (b1, .inl (cI, 10, .inl b_L)), (b2, .inl (cI, 10, .inl b_U)), (b3, .inl (cI, 12, .inl b_H)), (b4, .inl (cI, 10, .inl b_O)), (b5, .inl (cI, 10, .inl b_B))] := hD
  refine lv_istore_n (lv' := [(2, .int rv1.1), (0, .ref r0), (1, .ref b0)]) hx hb dX1_readPages_5 rfl hl (by decide) rfl (fun ls hl => ?_)
  refine lv_iload_n hx hb dX1_readPages_6 rfl (lv_at hl 0 rfl) ?_
  refine lv_iconst (v := (-1 : Int32)) hx hb dX1_readPages_7 ic_m1 ?_
  refine lv_icmp_ne (tgt := 13) hx hb dX1_readPages_8 (by decide) (fun hc => ?_) (fun hc => ?_)
  · have hf := ifn hc hf
    refine lv_aload_n hx hb dX1_readPages_13 rfl (lv_at hl 1 rfl) ?_
    refine lv_iconst (v := (nI 1)) hx hb dX1_readPages_14 ic_1 ?_
    refine lv_bipush (v := (nI 9)) hx hb dX1_readPages_15 bp_9 ?_
    obtain ⟨rv2, hrv2, hf⟩ := bd hf
    refine muI0 (wr := [(b0, .inr (3, [.int b_n, .ref b1, .ref b2, .ref b3, .ref b4, .ref b5])), (b1, .inl (cI, 10, .inl b_L)), (b2, .inl (cI, 10, .inl b_U)), (b3, .inl (cI, 12, .inl b_H)), (b4, .inl (cI, 10, .inl b_O)), (b5, .inl (cI, 10, .inl b_B))]) (va_runV (As := [.int (nI 1), .int (nI 9)]) (rest := []) ⟨hx, hb, hml, hown, hts⟩ (c_X1_takeNumber l D cI cZ cM r0 r1 t0 t1 _ r_cl r_no t_len rv1.2.1 rv1.2.2.1 rv1.2.2.2 t_by (nI 1) (nI 9) fu rv2.1 rv2.2.1 rv2.2.2.1 rv2.2.2.2 hrv2) (cwV 2 hts gX1_readPages_X1_takeNumber rfl rfl rfl ⟨rfl, hdc_X1_takeNumber⟩ ⟨Nat.le_of_ble_eq_true rfl, Nat.le_of_ble_eq_true rfl⟩) (pmV hK hP hD [0, 1, 2, 3] (by decide) rfl rfl (ci := 1) (q0 := 0) rfl rfl) rfl rfl hl.1 rfl (lv_room (Nat.le_of_ble_eq_true rfl)) dX1_readPages_17 ⟨Nat.zero_le _, Nat.zero_le _⟩) hP hD hS hA [0, 1, 2, 3] [4, 5, 6, 7, 8, 9] rfl rfl (by decide) (by decide) (fun H locs hP hD hS => ?_)
    have hP : va_P D vwCl [(b0, .inr (3, [.int b_n, .ref b1, .ref b2, .ref b3, .ref b4, .ref b5])), (b1, .inl (cI, 10, .inl b_L)), (b2, .inl (cI, 10, .inl b_U)), (b3, .inl (cI, 12, .inl b_H)), (b4, .inl (cI, 10, .inl b_O)), (b5, .inl (cI, 10, .inl b_B)), (r0, .inr (1, [.int r_cl, .ref t0, .ref r1])), (r1, .inl (cI, 10, .inl r_no)), (t0, .inr (5, [.int t_len, .int rv2.2.1, .int rv2.2.2.1, .int rv2.2.2.2, .ref t1])), (t1, .inl (cI, 200, .inl t_by))] H := hP
    have hD : va_D A [(b0, .inr (3, [.int b_n, .ref b1, .ref b2, .ref b3, .ref b4, .ref b5])), (b1, .inl (cI, 10, .inl b_L)), (b2, .inl (cI, 10, .inl b_U)), (b3, .inl (cI, 12, .inl b_H)), (b4, .inl (cI, 10, .inl b_O)), (b5, .inl (cI, 10, .inl b_B)), (r0, .inr (1, [.int r_cl, .ref t0, .ref r1])), (r1, .inl (cI, 10, .inl r_no)), (t0, .inr (5, [.int t_len, .int rv2.2.1, .int rv2.2.2.1, .int rv2.2.2.2, .ref t1])), (t1, .inl (cI, 200, .inl t_by))] := hD
    refine lv_istore_n (lv' := [(3, .int rv2.1), (2, .int rv1.1), (0, .ref r0), (1, .ref b0)]) hx hb dX1_readPages_20 rfl hl (by decide) rfl (fun ls hl => ?_)
    refine lv_iload_n hx hb dX1_readPages_21 rfl (lv_at hl 0 rfl) ?_
    refine lv_iconst (v := (-1 : Int32)) hx hb dX1_readPages_22 ic_m1 ?_
    refine lv_icmp_ne (tgt := 28) hx hb dX1_readPages_23 (by decide) (fun hc => ?_) (fun hc => ?_)
    · have hf := ifn hc hf
      refine lv_aload_n hx hb dX1_readPages_28 rfl (lv_at hl 3 rfl) ?_
      refine va_get (D := D) (ci := 3) (v := .ref b1) (C := RX3) (T := TX3) (N := 6) hx hb hts hiX3 hown hK.1 hP 0 rfl rfl 1 (by decide) hfl_99 (fun _ h9 => h9) rfl dX1_readPages_29 ?_
      refine lv_iload_n hx hb dX1_readPages_32 rfl (lv_at hl 1 rfl) ?_
      refine lv_iload_n hx hb dX1_readPages_33 rfl (lv_at hl 0 rfl) ?_
      obtain ⟨hi, hf⟩ := gd_some hf
      refine va_iast hx hb hK.1 hP hD hS 1 0 rfl rfl hi dX1_readPages_34 (fun H locs hP hD hS => ?_)
      have hP : va_P D vwCl [(b0, .inr (3, [.int b_n, .ref b1, .ref b2, .ref b3, .ref b4, .ref b5])), (b1, .inl (cI, 10, .inl (upd b_L rv1.1.toNatClampNeg rv2.1))), (b2, .inl (cI, 10, .inl b_U)), (b3, .inl (cI, 12, .inl b_H)), (b4, .inl (cI, 10, .inl b_O)), (b5, .inl (cI, 10, .inl b_B)), (r0, .inr (1, [.int r_cl, .ref t0, .ref r1])), (r1, .inl (cI, 10, .inl r_no)), (t0, .inr (5, [.int t_len, .int rv2.2.1, .int rv2.2.2.1, .int rv2.2.2.2, .ref t1])), (t1, .inl (cI, 200, .inl t_by))] H := hP
      have hD : va_D A [(b0, .inr (3, [.int b_n, .ref b1, .ref b2, .ref b3, .ref b4, .ref b5])), (b1, .inl (cI, 10, .inl (upd b_L rv1.1.toNatClampNeg rv2.1))), (b2, .inl (cI, 10, .inl b_U)), (b3, .inl (cI, 12, .inl b_H)), (b4, .inl (cI, 10, .inl b_O)), (b5, .inl (cI, 10, .inl b_B)), (r0, .inr (1, [.int r_cl, .ref t0, .ref r1])), (r1, .inl (cI, 10, .inl r_no)), (t0, .inr (5, [.int t_len, .int rv2.2.1, .int rv2.2.2.1, .int rv2.2.2.2, .ref t1])), (t1, .inl (cI, 200, .inl t_by))] := hD
      refine lv_iconst (v := (nI 1)) hx hb dX1_readPages_35 ic_1 ?_
      cases hf
      exact W.zret hx hb hr zbl_1.1 (fun t ht _ => ⟨⟨rfl, by rw [ht]; exact (hP.sub [6, 7, 8, 9, 0, 1, 2, 3, 4, 5] rfl), (hD.sub [6, 7, 8, 9, 0, 1, 2, 3, 4, 5] (by decide) rfl)⟩, hS.F ht⟩) hS.2.2 dX1_readPages_36
    · have hf := ifp hc hf
      refine lv_iconst (v := (nI 0)) hx hb dX1_readPages_26 ic_0 ?_
      cases hf
      exact W.zret hx hb hr zbl_0.1 (fun t ht _ => ⟨⟨rfl, by rw [ht]; exact (hP.sub [6, 7, 8, 9, 0, 1, 2, 3, 4, 5] rfl), (hD.sub [6, 7, 8, 9, 0, 1, 2, 3, 4, 5] (by decide) rfl)⟩, hS.F ht⟩) hS.2.2 dX1_readPages_27
  · have hf := ifp hc hf
    refine lv_iconst (v := (nI 0)) hx hb dX1_readPages_11 ic_0 ?_
    cases hf
    exact W.zret hx hb hr zbl_0.1 (fun t ht _ => ⟨⟨rfl, by rw [ht]; exact hP, hD⟩, hS.F ht⟩) hS.2.2 dX1_readPages_12
theorem hdc_X6_isTerm : yX6_isTerm.cls ≠ "java/lang/invoke/MethodHandle" ∧ yX6_isTerm.cls ≠ "java/lang/invoke/VarHandle" ∧ (parseMethodDescriptor yX6_isTerm.desc).map (fun d => d.parameters.length) = some 1 := by decide +kernel
set_option maxHeartbeats 4000000 in
set_option maxRecDepth 100000 in
theorem c_X6_isTerm (l : Launch) (D : va_G) (cI cZ cM : ClassId) (x0 : Int32) (r : Int32) (hf : m_X6_isTerm x0 = some r) : Met l yX6_isTerm wsX6_isTerm ({ frames := 0, cells := 0, slots := 0, locals := 0 }) (pR D cI cZ cM [] [.int x0]) (qR r) 0 0 (fun _ => False) := by
  refine Met.ofW (cc := cX6_isTerm) (maxL := 1) (ret := (some .boolean)) (by decide) rfl ?_
  intro p e s m args below meth c s₁ B hml hv
  obtain ⟨rfl, hP, hK⟩ := hv
  have hx := B.exec
  have hb := B.bytes
  have hr := B.returns
  have hts := atoms_spec (ws := wsX6_isTerm) B.pre
  have hown : s.vm.findClass RX6 = some m.cls := findClass_of_methodNamed B.named
  have hlocks := B.notSynchronized
  have hl := lv_entry ([.int x0]) (n := 1) (Nat.le_of_ble_eq_true rfl)
  rw [lg_entry_eq]
  generalize (lg_sl ([.int x0]) ++ List.replicate (1 - (lg_sl ([.int x0])).length) Slot.unset).toArray = ls at hl ⊢
  have hl : lv_has ls 1 [(0, .int x0)] := hl
  unfold m_X6_isTerm at hf
  refine lv_iload_n hx hb dX6_isTerm_0 rfl (lv_at hl 0 rfl) ?_
  refine lv_if_lt (tgt := 14) hx hb dX6_isTerm_1 (by decide) (fun hc => ?_) (fun hc => ?_)
  · have hf := ifp hc hf
    refine lv_iconst (v := (nI 0)) hx hb dX6_isTerm_14 ic_0 ?_
    cases hf
    exact W.zret hx hb hr zbl_0.1 (fun t ht _ => ⟨rfl, ht⟩) (fun _ h => nomatch h) dX6_isTerm_15
  · have hf := ifn hc hf
    refine lv_iload_n hx hb dX6_isTerm_4 rfl (lv_at hl 0 rfl) ?_
    refine lv_bipush (v := (nI 12)) hx hb dX6_isTerm_5 bp_12 ?_
    refine lv_icmp_ge (tgt := 14) hx hb dX6_isTerm_7 (by decide) (fun hc => ?_) (fun hc => ?_)
    · have hf := ifp hc hf
      refine lv_iconst (v := (nI 0)) hx hb dX6_isTerm_14 ic_0 ?_
      cases hf
      exact W.zret hx hb hr zbl_0.1 (fun t ht _ => ⟨rfl, ht⟩) (fun _ h => nomatch h) dX6_isTerm_15
    · have hf := ifn hc hf
      refine lv_iconst (v := (nI 1)) hx hb dX6_isTerm_10 ic_1 ?_
      refine lv_goto (tgt := 15) hx hb dX6_isTerm_11 (by decide) ?_
      cases hf
      exact W.zret hx hb hr zbl_1.1 (fun t ht _ => ⟨rfl, ht⟩) (fun _ h => nomatch h) dX6_isTerm_15
theorem hdc_X5_asTerm : yX5_asTerm.cls ≠ "java/lang/invoke/MethodHandle" ∧ yX5_asTerm.cls ≠ "java/lang/invoke/VarHandle" ∧ (parseMethodDescriptor yX5_asTerm.desc).map (fun d => d.parameters.length) = some 0 := by decide +kernel
set_option maxHeartbeats 4000000 in
set_option maxRecDepth 100000 in
theorem c_X5_asTerm (l : Launch) (D : va_G) (cI cZ cM : ClassId) (t0 t1 : Nat) (t_len : Int32) (t_st : Int32) (t_nx : Int32) (t_kd : Int32) (t_by : Nat → Int32) (r : Int32) (hf : m_X5_asTerm t_st t_nx t_kd t_by = some r) : Met l yX5_asTerm wsX5_asTerm ({ frames := 1, cells := 0, slots := 0, locals := 20 }) (pR D cI cZ cM [(t0, .inr (5, [.int t_len, .int t_st, .int t_nx, .int t_kd, .ref t1])), (t1, .inl (cI, 200, .inl t_by))] [.ref t0]) (qR r) 0 0 (fun _ => False) := by
  refine Met.ofW (cc := cX5_asTerm) (maxL := 2) (ret := (some .int)) (by decide) rfl ?_
  intro p e s m args below meth c s₁ B hml hv
  obtain ⟨rfl, hP, hK⟩ := hv
  have hx := B.exec
  have hb := B.bytes
  have hr := B.returns
  have hts := atoms_spec (ws := wsX5_asTerm) B.pre
  have hown : s.vm.findClass RX5 = some m.cls := findClass_of_methodNamed B.named
  have hlocks := B.notSynchronized
  have hfl_15 := hts (.fieldLink RX5 15 "TermsFirst$Text" "start" "I") (List.mem_cons_of_mem _ (List.mem_append_left _ (List.mem_of_getElem? (i := 2) rfl)))
  have hfl_18 := hts (.fieldLink RX5 18 "TermsFirst$Text" "next" "I") (List.mem_cons_of_mem _ (List.mem_append_left _ (List.mem_of_getElem? (i := 1) rfl)))
  have hfl_21 := hts (.fieldLink RX5 21 "TermsFirst$Text" "kind" "I") (List.mem_cons_of_mem _ (List.mem_append_left _ (List.mem_of_getElem? (i := 0) rfl)))
  have hfl_24 := hts (.fieldLink RX5 24 "TermsFirst$Text" "bytes" "[I") (List.mem_cons_of_mem _ (List.mem_append_left _ (List.mem_of_getElem? (i := 3) rfl)))
  have hn_11 : va_Nw (.methodLinkNest RX5 41 yX6_isTerm RX6) s := nw_11 hK
  have hin_RX6 : (Cond.initialized yX6_isTerm.cls).before _ s = true := hts (.initialized RX6) (List.mem_cons_of_mem _ (List.mem_append_left _ (List.mem_of_getElem? (i := 5) rfl)))
  have hst_X6_isTerm := hts (.static yX6_isTerm) (List.mem_cons_of_mem _ (List.mem_append_left _ (List.mem_of_getElem? (i := 4) rfl)))
  have hiX5 : ∀ w ∈ u_ws RX5 TX5 5, w ∈ wsX5_asTerm := fun _ h => (List.mem_cons_of_mem _ (List.mem_append_right _ h))
  have hl := lv_entry ([.ref t0]) (n := 2) (Nat.le_of_ble_eq_true rfl)
  rw [lg_entry_eq]
  generalize (lg_sl ([.ref t0]) ++ List.replicate (2 - (lg_sl ([.ref t0])).length) Slot.unset).toArray = ls at hl ⊢
  have hl : lv_has ls 2 [(0, .ref t0)] := hl
  unfold m_X5_asTerm at hf
  refine lv_aload_n hx hb dX5_asTerm_0 rfl (lv_at hl 0 rfl) ?_
  refine va_get (D := D) (ci := 5) (v := .int t_kd) (C := RX5) (T := TX5) (N := 5) hx hb hts hiX5 hown hK.1 hP 0 rfl rfl 3 (by decide) hfl_21 (fun _ h9 => h9) rfl dX5_asTerm_1 ?_
  refine lv_iconst (v := (nI 1)) hx hb dX5_asTerm_4 ic_1 ?_
  refine lv_icmp_ne (tgt := 21) hx hb dX5_asTerm_5 (by decide) (fun hc => ?_) (fun hc => ?_)
  · have hf := ifn hc hf
    refine lv_iconst (v := (-1 : Int32)) hx hb dX5_asTerm_21 ic_m1 ?_
    cases hf
    exact W.iret hx hb hr (fun t ht _ => ⟨rfl, ht⟩) (fun _ h => nomatch h) dX5_asTerm_22
  · have hf := ifp hc hf
    refine lv_aload_n hx hb dX5_asTerm_8 rfl (lv_at hl 0 rfl) ?_
    refine va_get (D := D) (ci := 5) (v := .int t_nx) (C := RX5) (T := TX5) (N := 5) hx hb hts hiX5 hown hK.1 hP 0 rfl rfl 2 (by decide) hfl_18 (fun _ h9 => h9) rfl dX5_asTerm_9 ?_
    refine lv_aload_n hx hb dX5_asTerm_12 rfl (lv_at hl 0 rfl) ?_
    refine va_get (D := D) (ci := 5) (v := .int t_st) (C := RX5) (T := TX5) (N := 5) hx hb hts hiX5 hown hK.1 hP 0 rfl rfl 1 (by decide) hfl_15 (fun _ h9 => h9) rfl dX5_asTerm_13 ?_
    refine lv_isub hx hb dX5_asTerm_16 ?_
    refine lv_iconst (v := (nI 1)) hx hb dX5_asTerm_17 ic_1 ?_
    refine lv_icmp_eq (tgt := 23) hx hb dX5_asTerm_18 (by decide) (fun hc => ?_) (fun hc => ?_)
    · have hf := ifp hc hf
      refine lv_aload_n hx hb dX5_asTerm_23 rfl (lv_at hl 0 rfl) ?_
      refine va_get (D := D) (ci := 5) (v := .ref t1) (C := RX5) (T := TX5) (N := 5) hx hb hts hiX5 hown hK.1 hP 0 rfl rfl 4 (by decide) hfl_24 (fun _ h9 => h9) rfl dX5_asTerm_24 ?_
      refine lv_aload_n hx hb dX5_asTerm_27 rfl (lv_at hl 0 rfl) ?_
      refine va_get (D := D) (ci := 5) (v := .int t_st) (C := RX5) (T := TX5) (N := 5) hx hb hts hiX5 hown hK.1 hP 0 rfl rfl 1 (by decide) hfl_15 (fun _ h9 => h9) rfl dX5_asTerm_28 ?_
      obtain ⟨hi, hf⟩ := gd_some hf
      refine va_iald hx hb hK.1 hP 1 0 rfl rfl hi dX5_asTerm_31 ?_
      refine lv_bipush (v := (nI 97)) hx hb dX5_asTerm_32 bp_97 ?_
      refine lv_isub hx hb dX5_asTerm_34 ?_
      refine lv_istore_n (lv' := [(1, .int ((t_by t_st.toNatClampNeg) - (nI 97))), (0, .ref t0)]) hx hb dX5_asTerm_35 rfl hl (by decide) rfl (fun ls hl => ?_)
      refine lv_iload_n hx hb dX5_asTerm_36 rfl (lv_at hl 0 rfl) ?_
      obtain ⟨rv1, hrv1, hf⟩ := bd hf
      refine roI (va_runSN (As := [.int ((t_by t_st.toNatClampNeg) - (nI 97))]) (rest := []) ⟨hx, hb, hml, hown, hts⟩ (c_X6_isTerm l D cI cZ cM ((t_by t_st.toNatClampNeg) - (nI 97)) rv1 hrv1) ⟨va_cnB (host := RX6) 1 hts gX5_asTerm_X6_isTerm_n41 rfl rfl rfl hn_11 hin_RX6 hdc_X6_isTerm ⟨Nat.le_of_ble_eq_true rfl, Nat.le_of_ble_eq_true rfl⟩, hst_X6_isTerm, trivial⟩ (prS hK hP [] rfl) rfl rfl hl.1 rfl (lv_room (Nat.le_of_ble_eq_true rfl)) dX5_asTerm_37 ⟨Nat.zero_le _, Nat.zero_le _⟩) ?_
      refine lv_if_eq (tgt := 47) hx hb dX5_asTerm_40 (by decide) (fun hc => ?_) (fun hc => ?_)
      · have hf := ifp hc hf
        refine lv_iconst (v := (-1 : Int32)) hx hb dX5_asTerm_47 ic_m1 ?_
        cases hf
        exact W.iret hx hb hr (fun t ht _ => ⟨rfl, ht⟩) (fun _ h => nomatch h) dX5_asTerm_48
      · have hf := ifn hc hf
        refine lv_iload_n hx hb dX5_asTerm_43 rfl (lv_at hl 0 rfl) ?_
        refine lv_goto (tgt := 48) hx hb dX5_asTerm_44 (by decide) ?_
        cases hf
        exact W.iret hx hb hr (fun t ht _ => ⟨rfl, ht⟩) (fun _ h => nomatch h) dX5_asTerm_48
    · have hf := ifn hc hf
      refine lv_iconst (v := (-1 : Int32)) hx hb dX5_asTerm_21 ic_m1 ?_
      cases hf
      exact W.iret hx hb hr (fun t ht _ => ⟨rfl, ht⟩) (fun _ h => nomatch h) dX5_asTerm_22
theorem hdc_X1_readHome : yX1_readHome.cls ≠ "java/lang/invoke/MethodHandle" ∧ yX1_readHome.cls ≠ "java/lang/invoke/VarHandle" ∧ (parseMethodDescriptor yX1_readHome.desc).map (fun d => d.parameters.length) = some 1 := by decide +kernel
set_option maxHeartbeats 4000000 in
set_option maxRecDepth 100000 in
theorem c_X1_readHome (l : Launch) (D : va_G) (cI cZ cM : ClassId) (r0 r1 t0 t1 b0 b1 b2 b3 b4 b5 : Nat) (sz : Nat) (r_cl : Int32) (r_no : Nat → Int32) (t_len : Int32) (t_st : Int32) (t_nx : Int32) (t_kd : Int32) (t_by : Nat → Int32) (b_n : Int32) (b_L : Nat → Int32) (b_U : Nat → Int32) (b_H : Nat → Int32) (b_O : Nat → Int32) (b_B : Nat → Int32) (fu : Nat) (r : Int32) (t_st' : Int32) (t_nx' : Int32) (t_kd' : Int32) (b_H' : Nat → Int32) (hf : m_X1_readHome fu t_len t_nx t_by b_n b_H = some (r, t_st', t_nx', t_kd', b_H')) : Met l yX1_readHome wsX1_readHome ({ frames := 3, cells := 0, slots := 0, locals := 61 }) (pM D cI cZ cM sz [(r0, .inr (1, [.int r_cl, .ref t0, .ref r1])), (r1, .inl (cI, 10, .inl r_no)), (t0, .inr (5, [.int t_len, .int t_st, .int t_nx, .int t_kd, .ref t1])), (t1, .inl (cI, 200, .inl t_by)), (b0, .inr (3, [.int b_n, .ref b1, .ref b2, .ref b3, .ref b4, .ref b5])), (b1, .inl (cI, 10, .inl b_L)), (b2, .inl (cI, 10, .inl b_U)), (b3, .inl (cI, 12, .inl b_H)), (b4, .inl (cI, 10, .inl b_O)), (b5, .inl (cI, 10, .inl b_B))] [.ref r0, .ref b0]) (qI D r [(r0, .inr (1, [.int r_cl, .ref t0, .ref r1])), (r1, .inl (cI, 10, .inl r_no)), (t0, .inr (5, [.int t_len, .int t_st', .int t_nx', .int t_kd', .ref t1])), (t1, .inl (cI, 200, .inl t_by)), (b0, .inr (3, [.int b_n, .ref b1, .ref b2, .ref b3, .ref b4, .ref b5])), (b1, .inl (cI, 10, .inl b_L)), (b2, .inl (cI, 10, .inl b_U)), (b3, .inl (cI, 12, .inl b_H')), (b4, .inl (cI, 10, .inl b_O)), (b5, .inl (cI, 10, .inl b_B))] (va_A [(r0, .inr (1, [.int r_cl, .ref t0, .ref r1])), (r1, .inl (cI, 10, .inl r_no)), (t0, .inr (5, [.int t_len, .int t_st, .int t_nx, .int t_kd, .ref t1])), (t1, .inl (cI, 200, .inl t_by)), (b0, .inr (3, [.int b_n, .ref b1, .ref b2, .ref b3, .ref b4, .ref b5])), (b1, .inl (cI, 10, .inl b_L)), (b2, .inl (cI, 10, .inl b_U)), (b3, .inl (cI, 12, .inl b_H)), (b4, .inl (cI, 10, .inl b_O)), (b5, .inl (cI, 10, .inl b_B))] sz)) 0 0 (va_A [(r0, .inr (1, [.int r_cl, .ref t0, .ref r1])), (r1, .inl (cI, 10, .inl r_no)), (t0, .inr (5, [.int t_len, .int t_st, .int t_nx, .int t_kd, .ref t1])), (t1, .inl (cI, 200, .inl t_by)), (b0, .inr (3, [.int b_n, .ref b1, .ref b2, .ref b3, .ref b4, .ref b5])), (b1, .inl (cI, 10, .inl b_L)), (b2, .inl (cI, 10, .inl b_U)), (b3, .inl (cI, 12, .inl b_H)), (b4, .inl (cI, 10, .inl b_O)), (b5, .inl (cI, 10, .inl b_B))] sz) := by
  refine Met.ofW (cc := cX1_readHome) (maxL := 4) (ret := (some .boolean)) (by decide) rfl ?_
  intro p e s m args below meth c s₁ B hml hv
  obtain ⟨rfl, hsz, hP, hK, hD0⟩ := hv
  have hx := B.exec
  have hb := B.bytes
  have hr := B.returns
  have hts := atoms_spec (ws := wsX1_readHome) B.pre
  have hown : s.vm.findClass RX1 = some m.cls := findClass_of_methodNamed B.named
  have hlocks := B.notSynchronized
  subst hsz
  have hD := hD0.self (sz := s.heap.size)
  generalize hAe : va_A [(r0, .inr (1, [.int r_cl, .ref t0, .ref r1])), (r1, .inl (cI, 10, .inl r_no)), (t0, .inr (5, [.int t_len, .int t_st, .int t_nx, .int t_kd, .ref t1])), (t1, .inl (cI, 200, .inl t_by)), (b0, .inr (3, [.int b_n, .ref b1, .ref b2, .ref b3, .ref b4, .ref b5])), (b1, .inl (cI, 10, .inl b_L)), (b2, .inl (cI, 10, .inl b_U)), (b3, .inl (cI, 12, .inl b_H)), (b4, .inl (cI, 10, .inl b_O)), (b5, .inl (cI, 10, .inl b_B))] s.heap.size = A at hD ⊢
  have hA : ∀ q : Nat, s.heap.size ≤ q → A q := fun q h => by rw [← hAe]; exact Or.inr h
  clear hAe hD0
  have hfl_19 := hts (.fieldLink RX1 19 "TermsFirst$ClauseReader" "text" "LTermsFirst$Text;") (List.mem_cons_of_mem _ (List.mem_append_left _ (List.mem_append_left _ (List.mem_append_left _ (List.mem_append_left _ (List.mem_of_getElem? (i := 0) rfl))))))
  have hfl_106 := hts (.fieldLink RX1 106 "TermsFirst$Manual" "homes" "[I") (List.mem_cons_of_mem _ (List.mem_append_left _ (List.mem_append_left _ (List.mem_append_left _ (List.mem_append_left _ (List.mem_of_getElem? (i := 1) rfl))))))
  have hiX1 : ∀ w ∈ u_ws RX1 TX1 3, w ∈ wsX1_readHome := fun _ h => (List.mem_cons_of_mem _ (List.mem_append_left _ (List.mem_append_left _ (List.mem_append_right _ h))))
  have hiX3 : ∀ w ∈ u_ws RX3 TX3 6, w ∈ wsX1_readHome := fun _ h => (List.mem_cons_of_mem _ (List.mem_append_left _ (List.mem_append_right _ h)))
  have hl := lv_entry ([.ref r0, .ref b0]) (n := 4) (Nat.le_of_ble_eq_true rfl)
  rw [lg_entry_eq]
  generalize (lg_sl ([.ref r0, .ref b0]) ++ List.replicate (4 - (lg_sl ([.ref r0, .ref b0])).length) Slot.unset).toArray = ls at hl ⊢
  have hl : lv_has ls 4 [(0, .ref r0), (1, .ref b0)] := hl
  have hS : va_S A s.heap s.heap [] := va_S.rf
  unfold m_X1_readHome at hf
  refine lv_aload_n hx hb dX1_readHome_0 rfl (lv_at hl 0 rfl) ?_
  refine va_get (D := D) (ci := 1) (v := .ref t0) (C := RX1) (T := TX1) (N := 3) hx hb hts hiX1 hown hK.1 hP 0 rfl rfl 1 (by decide) hfl_19 (fun _ h9 => h9) rfl dX1_readHome_1 ?_
  obtain ⟨rv1, hrv1, hf⟩ := bd hf
  refine muV0 (wr := [(r0, .inr (1, [.int r_cl, .ref t0, .ref r1])), (r1, .inl (cI, 10, .inl r_no)), (b0, .inr (3, [.int b_n, .ref b1, .ref b2, .ref b3, .ref b4, .ref b5])), (b1, .inl (cI, 10, .inl b_L)), (b2, .inl (cI, 10, .inl b_U)), (b3, .inl (cI, 12, .inl b_H)), (b4, .inl (cI, 10, .inl b_O)), (b5, .inl (cI, 10, .inl b_B))]) (va_runV (As := []) (rest := []) ⟨hx, hb, hml, hown, hts⟩ (c_X5_take l D cI cZ cM t0 t1 _ t_len t_st t_nx t_kd t_by fu rv1.1 rv1.2.1 rv1.2.2 hrv1) (cwV 0 hts gX1_readHome_X5_take rfl rfl rfl ⟨rfl, hdc_X5_take⟩ ⟨Nat.le_of_ble_eq_true rfl, Nat.le_of_ble_eq_true rfl⟩) (pmV hK hP hD [2, 3] (by decide) rfl rfl (ci := 5) (q0 := 2) rfl rfl) rfl rfl hl.1 rfl (lv_room (Nat.le_of_ble_eq_true rfl)) dX1_readHome_4 ⟨Nat.zero_le _, Nat.zero_le _⟩) hP hD hS hA [2, 3] [0, 1, 4, 5, 6, 7, 8, 9] rfl rfl (by decide) (by decide) (fun H locs hP hD hS => ?_)
  have hP : va_P D vwCl [(r0, .inr (1, [.int r_cl, .ref t0, .ref r1])), (r1, .inl (cI, 10, .inl r_no)), (b0, .inr (3, [.int b_n, .ref b1, .ref b2, .ref b3, .ref b4, .ref b5])), (b1, .inl (cI, 10, .inl b_L)), (b2, .inl (cI, 10, .inl b_U)), (b3, .inl (cI, 12, .inl b_H)), (b4, .inl (cI, 10, .inl b_O)), (b5, .inl (cI, 10, .inl b_B)), (t0, .inr (5, [.int t_len, .int rv1.1, .int rv1.2.1, .int rv1.2.2, .ref t1])), (t1, .inl (cI, 200, .inl t_by))] H := hP
  have hD : va_D A [(r0, .inr (1, [.int r_cl, .ref t0, .ref r1])), (r1, .inl (cI, 10, .inl r_no)), (b0, .inr (3, [.int b_n, .ref b1, .ref b2, .ref b3, .ref b4, .ref b5])), (b1, .inl (cI, 10, .inl b_L)), (b2, .inl (cI, 10, .inl b_U)), (b3, .inl (cI, 12, .inl b_H)), (b4, .inl (cI, 10, .inl b_O)), (b5, .inl (cI, 10, .inl b_B)), (t0, .inr (5, [.int t_len, .int rv1.1, .int rv1.2.1, .int rv1.2.2, .ref t1])), (t1, .inl (cI, 200, .inl t_by))] := hD
  refine lv_aload_n hx hb dX1_readHome_7 rfl (lv_at hl 0 rfl) ?_
  refine va_get (D := D) (ci := 1) (v := .ref t0) (C := RX1) (T := TX1) (N := 3) hx hb hts hiX1 hown hK.1 hP 0 rfl rfl 1 (by decide) hfl_19 (fun _ h9 => h9) rfl dX1_readHome_8 ?_
  obtain ⟨rv2, hrv2, hf⟩ := bd hf
  refine roI (va_runV (As := []) (rest := []) ⟨hx, hb, hml, hown, hts⟩ (c_X5_asTerm l D cI cZ cM t0 t1 t_len rv1.1 rv1.2.1 rv1.2.2 t_by rv2 hrv2) (cwV 0 hts gX1_readHome_X5_asTerm rfl rfl rfl ⟨rfl, hdc_X5_asTerm⟩ ⟨Nat.le_of_ble_eq_true rfl, Nat.le_of_ble_eq_true rfl⟩) (prV hK hP [8, 9] rfl (ci := 5) (q0 := 8) rfl rfl) rfl rfl hl.1 rfl (lv_room (Nat.le_of_ble_eq_true rfl)) dX1_readHome_11 ⟨Nat.zero_le _, Nat.zero_le _⟩) ?_
  refine lv_istore_n (lv' := [(2, .int rv2), (0, .ref r0), (1, .ref b0)]) hx hb dX1_readHome_14 rfl hl (by decide) rfl (fun ls hl => ?_)
  refine lv_iload_n hx hb dX1_readHome_15 rfl (lv_at hl 0 rfl) ?_
  refine lv_iconst (v := (-1 : Int32)) hx hb dX1_readHome_16 ic_m1 ?_
  refine lv_icmp_ne (tgt := 22) hx hb dX1_readHome_17 (by decide) (fun hc => ?_) (fun hc => ?_)
  · have hf := ifn hc hf
    refine lv_aload_n hx hb dX1_readHome_22 rfl (lv_at hl 1 rfl) ?_
    refine lv_aload_n hx hb dX1_readHome_23 rfl (lv_at hl 2 rfl) ?_
    obtain ⟨rv3, hrv3, hf⟩ := bd hf
    refine muI0 (wr := []) (va_runV (As := [.ref b0]) (rest := []) ⟨hx, hb, hml, hown, hts⟩ (c_X1_takeSection l D cI cZ cM r0 r1 t0 t1 b0 b1 b2 b3 b4 b5 _ r_cl r_no t_len rv1.1 rv1.2.1 rv1.2.2 t_by b_n b_L b_U b_H b_O b_B fu rv3.1 rv3.2.1 rv3.2.2.1 rv3.2.2.2 hrv3) (cwV 1 hts gX1_readHome_X1_takeSection rfl rfl rfl ⟨rfl, hdc_X1_takeSection⟩ ⟨Nat.le_of_ble_eq_true rfl, Nat.le_of_ble_eq_true rfl⟩) (pmV hK hP hD [0, 1, 8, 9, 2, 3, 4, 5, 6, 7] (by decide) rfl rfl (ci := 1) (q0 := 0) rfl rfl) rfl rfl hl.1 rfl (lv_room (Nat.le_of_ble_eq_true rfl)) dX1_readHome_24 ⟨Nat.zero_le _, Nat.zero_le _⟩) hP hD hS hA [0, 1, 8, 9, 2, 3, 4, 5, 6, 7] [] rfl rfl (by decide) (by decide) (fun H locs hP hD hS => ?_)
    have hP : va_P D vwCl [(r0, .inr (1, [.int r_cl, .ref t0, .ref r1])), (r1, .inl (cI, 10, .inl r_no)), (t0, .inr (5, [.int t_len, .int rv3.2.1, .int rv3.2.2.1, .int rv3.2.2.2, .ref t1])), (t1, .inl (cI, 200, .inl t_by)), (b0, .inr (3, [.int b_n, .ref b1, .ref b2, .ref b3, .ref b4, .ref b5])), (b1, .inl (cI, 10, .inl b_L)), (b2, .inl (cI, 10, .inl b_U)), (b3, .inl (cI, 12, .inl b_H)), (b4, .inl (cI, 10, .inl b_O)), (b5, .inl (cI, 10, .inl b_B))] H := hP
    have hD : va_D A [(r0, .inr (1, [.int r_cl, .ref t0, .ref r1])), (r1, .inl (cI, 10, .inl r_no)), (t0, .inr (5, [.int t_len, .int rv3.2.1, .int rv3.2.2.1, .int rv3.2.2.2, .ref t1])), (t1, .inl (cI, 200, .inl t_by)), (b0, .inr (3, [.int b_n, .ref b1, .ref b2, .ref b3, .ref b4, .ref b5])), (b1, .inl (cI, 10, .inl b_L)), (b2, .inl (cI, 10, .inl b_U)), (b3, .inl (cI, 12, .inl b_H)), (b4, .inl (cI, 10, .inl b_O)), (b5, .inl (cI, 10, .inl b_B))] := hD
    refine lv_istore_n (lv' := [(3, .int rv3.1), (2, .int rv2), (0, .ref r0), (1, .ref b0)]) hx hb dX1_readHome_27 rfl hl (by decide) rfl (fun ls hl => ?_)
    refine lv_iload_n hx hb dX1_readHome_28 rfl (lv_at hl 0 rfl) ?_
    refine lv_iconst (v := (-1 : Int32)) hx hb dX1_readHome_29 ic_m1 ?_
    refine lv_icmp_ne (tgt := 35) hx hb dX1_readHome_30 (by decide) (fun hc => ?_) (fun hc => ?_)
    · have hf := ifn hc hf
      refine lv_aload_n hx hb dX1_readHome_35 rfl (lv_at hl 3 rfl) ?_
      refine va_get (D := D) (ci := 3) (v := .ref b3) (C := RX3) (T := TX3) (N := 6) hx hb hts hiX3 hown hK.1 hP 4 rfl rfl 3 (by decide) hfl_106 (fun _ h9 => h9) rfl dX1_readHome_36 ?_
      refine lv_iload_n hx hb dX1_readHome_39 rfl (lv_at hl 1 rfl) ?_
      refine lv_iload_n hx hb dX1_readHome_40 rfl (lv_at hl 0 rfl) ?_
      obtain ⟨hi, hf⟩ := gd_some hf
      refine va_iast hx hb hK.1 hP hD hS 7 0 rfl rfl hi dX1_readHome_41 (fun H locs hP hD hS => ?_)
      have hP : va_P D vwCl [(r0, .inr (1, [.int r_cl, .ref t0, .ref r1])), (r1, .inl (cI, 10, .inl r_no)), (t0, .inr (5, [.int t_len, .int rv3.2.1, .int rv3.2.2.1, .int rv3.2.2.2, .ref t1])), (t1, .inl (cI, 200, .inl t_by)), (b0, .inr (3, [.int b_n, .ref b1, .ref b2, .ref b3, .ref b4, .ref b5])), (b1, .inl (cI, 10, .inl b_L)), (b2, .inl (cI, 10, .inl b_U)), (b3, .inl (cI, 12, .inl (upd b_H rv2.toNatClampNeg rv3.1))), (b4, .inl (cI, 10, .inl b_O)), (b5, .inl (cI, 10, .inl b_B))] H := hP
      have hD : va_D A [(r0, .inr (1, [.int r_cl, .ref t0, .ref r1])), (r1, .inl (cI, 10, .inl r_no)), (t0, .inr (5, [.int t_len, .int rv3.2.1, .int rv3.2.2.1, .int rv3.2.2.2, .ref t1])), (t1, .inl (cI, 200, .inl t_by)), (b0, .inr (3, [.int b_n, .ref b1, .ref b2, .ref b3, .ref b4, .ref b5])), (b1, .inl (cI, 10, .inl b_L)), (b2, .inl (cI, 10, .inl b_U)), (b3, .inl (cI, 12, .inl (upd b_H rv2.toNatClampNeg rv3.1))), (b4, .inl (cI, 10, .inl b_O)), (b5, .inl (cI, 10, .inl b_B))] := hD
      refine lv_iconst (v := (nI 1)) hx hb dX1_readHome_42 ic_1 ?_
      cases hf
      exact W.zret hx hb hr zbl_1.1 (fun t ht _ => ⟨⟨rfl, by rw [ht]; exact hP, hD⟩, hS.F ht⟩) hS.2.2 dX1_readHome_43
    · have hf := ifp hc hf
      refine lv_iconst (v := (nI 0)) hx hb dX1_readHome_33 ic_0 ?_
      cases hf
      exact W.zret hx hb hr zbl_0.1 (fun t ht _ => ⟨⟨rfl, by rw [ht]; exact hP, hD⟩, hS.F ht⟩) hS.2.2 dX1_readHome_34
  · have hf := ifp hc hf
    refine lv_iconst (v := (nI 0)) hx hb dX1_readHome_20 ic_0 ?_
    cases hf
    exact W.zret hx hb hr zbl_0.1 (fun t ht _ => ⟨⟨rfl, by rw [ht]; exact (hP.sub [0, 1, 8, 9, 2, 3, 4, 5, 6, 7] rfl), (hD.sub [0, 1, 8, 9, 2, 3, 4, 5, 6, 7] (by decide) rfl)⟩, hS.F ht⟩) hS.2.2 dX1_readHome_21
theorem hdc_X5_asTerms : yX5_asTerms.cls ≠ "java/lang/invoke/MethodHandle" ∧ yX5_asTerms.cls ≠ "java/lang/invoke/VarHandle" ∧ (parseMethodDescriptor yX5_asTerms.desc).map (fun d => d.parameters.length) = some 0 := by decide +kernel
set_option maxHeartbeats 4000000 in
set_option maxRecDepth 100000 in
theorem c_X5_asTerms (l : Launch) (D : va_G) (cI cZ cM : ClassId) (t0 t1 : Nat) (t_len : Int32) (t_st : Int32) (t_nx : Int32) (t_kd : Int32) (t_by : Nat → Int32) (fu : Nat) (r : Int32) (hf : m_X5_asTerms fu t_st t_nx t_kd t_by = some r) : Met l yX5_asTerms wsX5_asTerms ({ frames := 1, cells := 0, slots := 0, locals := 21 }) (pR D cI cZ cM [(t0, .inr (5, [.int t_len, .int t_st, .int t_nx, .int t_kd, .ref t1])), (t1, .inl (cI, 200, .inl t_by))] [.ref t0]) (qR r) 0 0 (fun _ => False) := by
  refine Met.ofW (cc := cX5_asTerms) (maxL := 4) (ret := (some .int)) (by decide) rfl ?_
  intro p e s m args below meth c s₁ B hml hv
  obtain ⟨rfl, hP, hK⟩ := hv
  have hx := B.exec
  have hb := B.bytes
  have hr := B.returns
  have hts := atoms_spec (ws := wsX5_asTerms) B.pre
  have hown : s.vm.findClass RX5 = some m.cls := findClass_of_methodNamed B.named
  have hlocks := B.notSynchronized
  have hfl_15 := hts (.fieldLink RX5 15 "TermsFirst$Text" "start" "I") (List.mem_cons_of_mem _ (List.mem_append_left _ (List.mem_of_getElem? (i := 2) rfl)))
  have hfl_18 := hts (.fieldLink RX5 18 "TermsFirst$Text" "next" "I") (List.mem_cons_of_mem _ (List.mem_append_left _ (List.mem_of_getElem? (i := 1) rfl)))
  have hfl_21 := hts (.fieldLink RX5 21 "TermsFirst$Text" "kind" "I") (List.mem_cons_of_mem _ (List.mem_append_left _ (List.mem_of_getElem? (i := 0) rfl)))
  have hfl_24 := hts (.fieldLink RX5 24 "TermsFirst$Text" "bytes" "[I") (List.mem_cons_of_mem _ (List.mem_append_left _ (List.mem_of_getElem? (i := 3) rfl)))
  have hn_11 : va_Nw (.methodLinkNest RX5 41 yX6_isTerm RX6) s := nw_11 hK
  have hin_RX6 : (Cond.initialized yX6_isTerm.cls).before _ s = true := hts (.initialized RX6) (List.mem_cons_of_mem _ (List.mem_append_left _ (List.mem_of_getElem? (i := 5) rfl)))
  have hst_X6_isTerm := hts (.static yX6_isTerm) (List.mem_cons_of_mem _ (List.mem_append_left _ (List.mem_of_getElem? (i := 4) rfl)))
  have hn_12 : va_Nw (.methodLinkNest RX5 45 yX6_with RX6) s := nw_12 hK
  have hin_RX6 : (Cond.initialized yX6_with.cls).before _ s = true := hts (.initialized RX6) (List.mem_cons_of_mem _ (List.mem_append_left _ (List.mem_of_getElem? (i := 5) rfl)))
  have hst_X6_with := hts (.static yX6_with) (List.mem_cons_of_mem _ (List.mem_append_left _ (List.mem_of_getElem? (i := 7) rfl)))
  have hiX5 : ∀ w ∈ u_ws RX5 TX5 5, w ∈ wsX5_asTerms := fun _ h => (List.mem_cons_of_mem _ (List.mem_append_right _ h))
  have hB_31 : ∀ (fn : Nat) (x1 : Int32) (x2 : Int32), m_X5_asTerms_31 t_nx t_by fn x1 x2 = some r → ∀ ls : Array Slot, lv_has ls 4 [(0, .ref t0), (1, .int x1), (2, .int x2)] → W p l e (headSpec wsX5_asTerms { frames := 1, cells := 0, slots := 0, locals := 21 }).room s m ([.ref t0] : List Value).toArray below meth c s.heap [] 0 0 (MQ below (qR r) ([.ref t0] : List Value).toArray s 0 0 (fun _ => False)) (F0 m 31 ls []) := by
    intro fn
    induction fn with
    | zero => intro x1 x2 hf; rw [m_X5_asTerms_31] at hf; cases hf
    | succ fn ih =>
      intro x1 x2 hf ls hl
      rw [m_X5_asTerms_31] at hf
      refine lv_iload_n hx hb dX5_asTerms_31 rfl (lv_at hl 2 rfl) ?_
      refine lv_aload_n hx hb dX5_asTerms_32 rfl (lv_at hl 0 rfl) ?_
      refine va_get (D := D) (ci := 5) (v := .int t_nx) (C := RX5) (T := TX5) (N := 5) hx hb hts hiX5 hown hK.1 hP 0 rfl rfl 2 (by decide) hfl_18 (fun _ h9 => h9) rfl dX5_asTerms_33 ?_
      refine lv_icmp_ge (tgt := 70) hx hb dX5_asTerms_36 (by decide) (fun hc => ?_) (fun hc => ?_)
      · have hf := ifp hc hf
        refine lv_iload_n hx hb dX5_asTerms_70 rfl (lv_at hl 1 rfl) ?_
        cases hf
        exact W.iret hx hb hr (fun t ht _ => ⟨rfl, ht⟩) (fun _ h => nomatch h) dX5_asTerms_71
      · have hf := ifn hc hf
        refine lv_aload_n hx hb dX5_asTerms_39 rfl (lv_at hl 0 rfl) ?_
        refine va_get (D := D) (ci := 5) (v := .ref t1) (C := RX5) (T := TX5) (N := 5) hx hb hts hiX5 hown hK.1 hP 0 rfl rfl 4 (by decide) hfl_24 (fun _ h9 => h9) rfl dX5_asTerms_40 ?_
        refine lv_iload_n hx hb dX5_asTerms_43 rfl (lv_at hl 2 rfl) ?_
        obtain ⟨hi, hf⟩ := gd_some hf
        refine va_iald hx hb hK.1 hP 1 0 rfl rfl hi dX5_asTerms_44 ?_
        refine lv_bipush (v := (nI 97)) hx hb dX5_asTerms_45 bp_97 ?_
        refine lv_isub hx hb dX5_asTerms_47 ?_
        refine lv_istore_n (lv' := [(3, .int ((t_by x2.toNatClampNeg) - (nI 97))), (0, .ref t0), (1, .int x1), (2, .int x2)]) hx hb dX5_asTerms_48 rfl hl (by decide) rfl (fun ls hl => ?_)
        refine lv_iload_n hx hb dX5_asTerms_49 rfl (lv_at hl 0 rfl) ?_
        obtain ⟨rv1, hrv1, hf⟩ := bd hf
        refine roI (va_runSN (As := [.int ((t_by x2.toNatClampNeg) - (nI 97))]) (rest := []) ⟨hx, hb, hml, hown, hts⟩ (c_X6_isTerm l D cI cZ cM ((t_by x2.toNatClampNeg) - (nI 97)) rv1 hrv1) ⟨va_cnB (host := RX6) 1 hts gX5_asTerms_X6_isTerm_n41 rfl rfl rfl hn_11 hin_RX6 hdc_X6_isTerm ⟨Nat.le_of_ble_eq_true rfl, Nat.le_of_ble_eq_true rfl⟩, hst_X6_isTerm, trivial⟩ (prS hK hP [] rfl) rfl rfl hl.1 rfl (lv_room (Nat.le_of_ble_eq_true rfl)) dX5_asTerms_50 ⟨Nat.zero_le _, Nat.zero_le _⟩) ?_
        refine lv_if_ne (tgt := 58) hx hb dX5_asTerms_53 (by decide) (fun hc => ?_) (fun hc => ?_)
        · have hf := ifn hc hf
          refine lv_iload_n hx hb dX5_asTerms_58 rfl (lv_at hl 2 rfl) ?_
          refine lv_iload_n hx hb dX5_asTerms_59 rfl (lv_at hl 0 rfl) ?_
          obtain ⟨rv2, hrv2, hf⟩ := bd hf
          refine roI (va_runSN (As := [.int x1, .int ((t_by x2.toNatClampNeg) - (nI 97))]) (rest := []) ⟨hx, hb, hml, hown, hts⟩ (c_X6_with l D cI cZ cM x1 ((t_by x2.toNatClampNeg) - (nI 97)) rv2 hrv2) ⟨va_cnB (host := RX6) 2 hts gX5_asTerms_X6_with_n45 rfl rfl rfl hn_12 hin_RX6 hdc_X6_with ⟨Nat.le_of_ble_eq_true rfl, Nat.le_of_ble_eq_true rfl⟩, hst_X6_with, trivial⟩ (prS hK hP [] rfl) rfl rfl hl.1 rfl (lv_room (Nat.le_of_ble_eq_true rfl)) dX5_asTerms_60 ⟨Nat.zero_le _, Nat.zero_le _⟩) ?_
          refine lv_istore_n (lv' := [(1, .int rv2), (3, .int ((t_by x2.toNatClampNeg) - (nI 97))), (0, .ref t0), (2, .int x2)]) hx hb dX5_asTerms_63 rfl hl (by decide) rfl (fun ls hl => ?_)
          refine lv_iinc (v := (x2 + (nI 1))) (lv' := [(2, .int (x2 + (nI 1))), (1, .int rv2), (3, .int ((t_by x2.toNatClampNeg) - (nI 97))), (0, .ref t0)]) hx hb dX5_asTerms_64 hl (k := 3) rfl (ii_1 _) (by decide) rfl (fun ls hl => ?_)
          refine lv_goto (tgt := 31) hx hb dX5_asTerms_67 (by decide) ?_
          exact ih rv2 (x2 + (nI 1)) hf  ls (lv_sub hl [3, 1, 0] rfl)
        · have hf := ifp hc hf
          refine lv_iconst (v := (nI 0)) hx hb dX5_asTerms_56 ic_0 ?_
          cases hf
          exact W.iret hx hb hr (fun t ht _ => ⟨rfl, ht⟩) (fun _ h => nomatch h) dX5_asTerms_57
  have hl := lv_entry ([.ref t0]) (n := 4) (Nat.le_of_ble_eq_true rfl)
  rw [lg_entry_eq]
  generalize (lg_sl ([.ref t0]) ++ List.replicate (4 - (lg_sl ([.ref t0])).length) Slot.unset).toArray = ls at hl ⊢
  have hl : lv_has ls 4 [(0, .ref t0)] := hl
  unfold m_X5_asTerms at hf
  refine lv_aload_n hx hb dX5_asTerms_0 rfl (lv_at hl 0 rfl) ?_
  refine va_get (D := D) (ci := 5) (v := .int t_kd) (C := RX5) (T := TX5) (N := 5) hx hb hts hiX5 hown hK.1 hP 0 rfl rfl 3 (by decide) hfl_21 (fun _ h9 => h9) rfl dX5_asTerms_1 ?_
  refine lv_iconst (v := (nI 1)) hx hb dX5_asTerms_4 ic_1 ?_
  refine lv_icmp_ne (tgt := 22) hx hb dX5_asTerms_5 (by decide) (fun hc => ?_) (fun hc => ?_)
  · have hf := ifn hc hf
    refine lv_iconst (v := (nI 0)) hx hb dX5_asTerms_22 ic_0 ?_
    cases hf
    exact W.iret hx hb hr (fun t ht _ => ⟨rfl, ht⟩) (fun _ h => nomatch h) dX5_asTerms_23
  · have hf := ifp hc hf
    refine lv_aload_n hx hb dX5_asTerms_8 rfl (lv_at hl 0 rfl) ?_
    refine va_get (D := D) (ci := 5) (v := .int t_nx) (C := RX5) (T := TX5) (N := 5) hx hb hts hiX5 hown hK.1 hP 0 rfl rfl 2 (by decide) hfl_18 (fun _ h9 => h9) rfl dX5_asTerms_9 ?_
    refine lv_aload_n hx hb dX5_asTerms_12 rfl (lv_at hl 0 rfl) ?_
    refine va_get (D := D) (ci := 5) (v := .int t_st) (C := RX5) (T := TX5) (N := 5) hx hb hts hiX5 hown hK.1 hP 0 rfl rfl 1 (by decide) hfl_15 (fun _ h9 => h9) rfl dX5_asTerms_13 ?_
    refine lv_isub hx hb dX5_asTerms_16 ?_
    refine lv_bipush (v := (nI 12)) hx hb dX5_asTerms_17 bp_12 ?_
    refine lv_icmp_le (tgt := 24) hx hb dX5_asTerms_19 (by decide) (fun hc => ?_) (fun hc => ?_)
    · have hf := ifp hc hf
      refine lv_iconst (v := (nI 0)) hx hb dX5_asTerms_24 ic_0 ?_
      refine lv_istore_n (lv' := [(1, .int (nI 0)), (0, .ref t0)]) hx hb dX5_asTerms_25 rfl hl (by decide) rfl (fun ls hl => ?_)
      refine lv_aload_n hx hb dX5_asTerms_26 rfl (lv_at hl 1 rfl) ?_
      refine va_get (D := D) (ci := 5) (v := .int t_st) (C := RX5) (T := TX5) (N := 5) hx hb hts hiX5 hown hK.1 hP 0 rfl rfl 1 (by decide) hfl_15 (fun _ h9 => h9) rfl dX5_asTerms_27 ?_
      refine lv_istore_n (lv' := [(2, .int t_st), (1, .int (nI 0)), (0, .ref t0)]) hx hb dX5_asTerms_30 rfl hl (by decide) rfl (fun ls hl => ?_)
      exact hB_31 fu (nI 0) t_st hf  ls (lv_sub hl [2, 1, 0] rfl)
    · have hf := ifn hc hf
      refine lv_iconst (v := (nI 0)) hx hb dX5_asTerms_22 ic_0 ?_
      cases hf
      exact W.iret hx hb hr (fun t ht _ => ⟨rfl, ht⟩) (fun _ h => nomatch h) dX5_asTerms_23
theorem hdc_X1_readUses : yX1_readUses.cls ≠ "java/lang/invoke/MethodHandle" ∧ yX1_readUses.cls ≠ "java/lang/invoke/VarHandle" ∧ (parseMethodDescriptor yX1_readUses.desc).map (fun d => d.parameters.length) = some 1 := by decide +kernel
set_option maxHeartbeats 4000000 in
set_option maxRecDepth 100000 in
theorem c_X1_readUses (l : Launch) (D : va_G) (cI cZ cM : ClassId) (r0 r1 t0 t1 b0 b1 b2 b3 b4 b5 : Nat) (sz : Nat) (r_cl : Int32) (r_no : Nat → Int32) (t_len : Int32) (t_st : Int32) (t_nx : Int32) (t_kd : Int32) (t_by : Nat → Int32) (b_n : Int32) (b_L : Nat → Int32) (b_U : Nat → Int32) (b_H : Nat → Int32) (b_O : Nat → Int32) (b_B : Nat → Int32) (fu : Nat) (r : Int32) (t_st' : Int32) (t_nx' : Int32) (t_kd' : Int32) (b_U' : Nat → Int32) (hf : m_X1_readUses fu t_len t_nx t_by b_n b_U = some (r, t_st', t_nx', t_kd', b_U')) : Met l yX1_readUses wsX1_readUses ({ frames := 3, cells := 0, slots := 0, locals := 61 }) (pM D cI cZ cM sz [(r0, .inr (1, [.int r_cl, .ref t0, .ref r1])), (r1, .inl (cI, 10, .inl r_no)), (t0, .inr (5, [.int t_len, .int t_st, .int t_nx, .int t_kd, .ref t1])), (t1, .inl (cI, 200, .inl t_by)), (b0, .inr (3, [.int b_n, .ref b1, .ref b2, .ref b3, .ref b4, .ref b5])), (b1, .inl (cI, 10, .inl b_L)), (b2, .inl (cI, 10, .inl b_U)), (b3, .inl (cI, 12, .inl b_H)), (b4, .inl (cI, 10, .inl b_O)), (b5, .inl (cI, 10, .inl b_B))] [.ref r0, .ref b0]) (qI D r [(r0, .inr (1, [.int r_cl, .ref t0, .ref r1])), (r1, .inl (cI, 10, .inl r_no)), (t0, .inr (5, [.int t_len, .int t_st', .int t_nx', .int t_kd', .ref t1])), (t1, .inl (cI, 200, .inl t_by)), (b0, .inr (3, [.int b_n, .ref b1, .ref b2, .ref b3, .ref b4, .ref b5])), (b1, .inl (cI, 10, .inl b_L)), (b2, .inl (cI, 10, .inl b_U')), (b3, .inl (cI, 12, .inl b_H)), (b4, .inl (cI, 10, .inl b_O)), (b5, .inl (cI, 10, .inl b_B))] (va_A [(r0, .inr (1, [.int r_cl, .ref t0, .ref r1])), (r1, .inl (cI, 10, .inl r_no)), (t0, .inr (5, [.int t_len, .int t_st, .int t_nx, .int t_kd, .ref t1])), (t1, .inl (cI, 200, .inl t_by)), (b0, .inr (3, [.int b_n, .ref b1, .ref b2, .ref b3, .ref b4, .ref b5])), (b1, .inl (cI, 10, .inl b_L)), (b2, .inl (cI, 10, .inl b_U)), (b3, .inl (cI, 12, .inl b_H)), (b4, .inl (cI, 10, .inl b_O)), (b5, .inl (cI, 10, .inl b_B))] sz)) 0 0 (va_A [(r0, .inr (1, [.int r_cl, .ref t0, .ref r1])), (r1, .inl (cI, 10, .inl r_no)), (t0, .inr (5, [.int t_len, .int t_st, .int t_nx, .int t_kd, .ref t1])), (t1, .inl (cI, 200, .inl t_by)), (b0, .inr (3, [.int b_n, .ref b1, .ref b2, .ref b3, .ref b4, .ref b5])), (b1, .inl (cI, 10, .inl b_L)), (b2, .inl (cI, 10, .inl b_U)), (b3, .inl (cI, 12, .inl b_H)), (b4, .inl (cI, 10, .inl b_O)), (b5, .inl (cI, 10, .inl b_B))] sz) := by
  refine Met.ofW (cc := cX1_readUses) (maxL := 4) (ret := (some .boolean)) (by decide) rfl ?_
  intro p e s m args below meth c s₁ B hml hv
  obtain ⟨rfl, hsz, hP, hK, hD0⟩ := hv
  have hx := B.exec
  have hb := B.bytes
  have hr := B.returns
  have hts := atoms_spec (ws := wsX1_readUses) B.pre
  have hown : s.vm.findClass RX1 = some m.cls := findClass_of_methodNamed B.named
  have hlocks := B.notSynchronized
  subst hsz
  have hD := hD0.self (sz := s.heap.size)
  generalize hAe : va_A [(r0, .inr (1, [.int r_cl, .ref t0, .ref r1])), (r1, .inl (cI, 10, .inl r_no)), (t0, .inr (5, [.int t_len, .int t_st, .int t_nx, .int t_kd, .ref t1])), (t1, .inl (cI, 200, .inl t_by)), (b0, .inr (3, [.int b_n, .ref b1, .ref b2, .ref b3, .ref b4, .ref b5])), (b1, .inl (cI, 10, .inl b_L)), (b2, .inl (cI, 10, .inl b_U)), (b3, .inl (cI, 12, .inl b_H)), (b4, .inl (cI, 10, .inl b_O)), (b5, .inl (cI, 10, .inl b_B))] s.heap.size = A at hD ⊢
  have hA : ∀ q : Nat, s.heap.size ≤ q → A q := fun q h => by rw [← hAe]; exact Or.inr h
  clear hAe hD0
  have hfl_19 := hts (.fieldLink RX1 19 "TermsFirst$ClauseReader" "text" "LTermsFirst$Text;") (List.mem_cons_of_mem _ (List.mem_append_left _ (List.mem_append_left _ (List.mem_append_left _ (List.mem_append_left _ (List.mem_of_getElem? (i := 0) rfl))))))
  have hfl_112 := hts (.fieldLink RX1 112 "TermsFirst$Manual" "used" "[I") (List.mem_cons_of_mem _ (List.mem_append_left _ (List.mem_append_left _ (List.mem_append_left _ (List.mem_append_left _ (List.mem_of_getElem? (i := 1) rfl))))))
  have hiX1 : ∀ w ∈ u_ws RX1 TX1 3, w ∈ wsX1_readUses := fun _ h => (List.mem_cons_of_mem _ (List.mem_append_left _ (List.mem_append_left _ (List.mem_append_right _ h))))
  have hiX3 : ∀ w ∈ u_ws RX3 TX3 6, w ∈ wsX1_readUses := fun _ h => (List.mem_cons_of_mem _ (List.mem_append_left _ (List.mem_append_right _ h)))
  have hl := lv_entry ([.ref r0, .ref b0]) (n := 4) (Nat.le_of_ble_eq_true rfl)
  rw [lg_entry_eq]
  generalize (lg_sl ([.ref r0, .ref b0]) ++ List.replicate (4 - (lg_sl ([.ref r0, .ref b0])).length) Slot.unset).toArray = ls at hl ⊢
  have hl : lv_has ls 4 [(0, .ref r0), (1, .ref b0)] := hl
  have hS : va_S A s.heap s.heap [] := va_S.rf
  unfold m_X1_readUses at hf
  refine lv_aload_n hx hb dX1_readUses_0 rfl (lv_at hl 0 rfl) ?_
  refine lv_aload_n hx hb dX1_readUses_1 rfl (lv_at hl 1 rfl) ?_
  obtain ⟨rv1, hrv1, hf⟩ := bd hf
  refine muI0 (wr := []) (va_runV (As := [.ref b0]) (rest := []) ⟨hx, hb, hml, hown, hts⟩ (c_X1_takeSection l D cI cZ cM r0 r1 t0 t1 b0 b1 b2 b3 b4 b5 _ r_cl r_no t_len t_st t_nx t_kd t_by b_n b_L b_U b_H b_O b_B fu rv1.1 rv1.2.1 rv1.2.2.1 rv1.2.2.2 hrv1) (cwV 1 hts gX1_readUses_X1_takeSection rfl rfl rfl ⟨rfl, hdc_X1_takeSection⟩ ⟨Nat.le_of_ble_eq_true rfl, Nat.le_of_ble_eq_true rfl⟩) (pmV hK hP hD [0, 1, 2, 3, 4, 5, 6, 7, 8, 9] (by decide) rfl rfl (ci := 1) (q0 := 0) rfl rfl) rfl rfl hl.1 rfl (lv_room (Nat.le_of_ble_eq_true rfl)) dX1_readUses_2 ⟨Nat.zero_le _, Nat.zero_le _⟩) hP hD hS hA [0, 1, 2, 3, 4, 5, 6, 7, 8, 9] [] rfl rfl (by decide) (by decide) (fun H locs hP hD hS => ?_)
  have hP : va_P D vwCl [(r0, .inr (1, [.int r_cl, .ref t0, .ref r1])), (r1, .inl (cI, 10, .inl r_no)), (t0, .inr (5, [.int t_len, .int rv1.2.1, .int rv1.2.2.1, .int rv1.2.2.2, .ref t1])), (t1, .inl (cI, 200, .inl t_by)), (b0, .inr (3, [.int b_n, .ref b1, .ref b2, .ref b3, .ref b4, .ref b5])), (b1, .inl (cI, 10, .inl b_L)), (b2, .inl (cI, 10, .inl b_U)), (b3, .inl (cI, 12, .inl b_H)), (b4, .inl (cI, 10, .inl b_O)), (b5, .inl (cI, 10, .inl b_B))] H := hP
  have hD : va_D A [(r0, .inr (1, [.int r_cl, .ref t0, .ref r1])), (r1, .inl (cI, 10, .inl r_no)), (t0, .inr (5, [.int t_len, .int rv1.2.1, .int rv1.2.2.1, .int rv1.2.2.2, .ref t1])), (t1, .inl (cI, 200, .inl t_by)), (b0, .inr (3, [.int b_n, .ref b1, .ref b2, .ref b3, .ref b4, .ref b5])), (b1, .inl (cI, 10, .inl b_L)), (b2, .inl (cI, 10, .inl b_U)), (b3, .inl (cI, 12, .inl b_H)), (b4, .inl (cI, 10, .inl b_O)), (b5, .inl (cI, 10, .inl b_B))] := hD
  refine lv_istore_n (lv' := [(2, .int rv1.1), (0, .ref r0), (1, .ref b0)]) hx hb dX1_readUses_5 rfl hl (by decide) rfl (fun ls hl => ?_)
  refine lv_iload_n hx hb dX1_readUses_6 rfl (lv_at hl 0 rfl) ?_
  refine lv_iconst (v := (-1 : Int32)) hx hb dX1_readUses_7 ic_m1 ?_
  refine lv_icmp_ne (tgt := 13) hx hb dX1_readUses_8 (by decide) (fun hc => ?_) (fun hc => ?_)
  · have hf := ifn hc hf
    refine lv_aload_n hx hb dX1_readUses_13 rfl (lv_at hl 1 rfl) ?_
    refine va_get (D := D) (ci := 1) (v := .ref t0) (C := RX1) (T := TX1) (N := 3) hx hb hts hiX1 hown hK.1 hP 0 rfl rfl 1 (by decide) hfl_19 (fun _ h9 => h9) rfl dX1_readUses_14 ?_
    obtain ⟨rv2, hrv2, hf⟩ := bd hf
    refine muV0 (wr := [(r0, .inr (1, [.int r_cl, .ref t0, .ref r1])), (r1, .inl (cI, 10, .inl r_no)), (b0, .inr (3, [.int b_n, .ref b1, .ref b2, .ref b3, .ref b4, .ref b5])), (b1, .inl (cI, 10, .inl b_L)), (b2, .inl (cI, 10, .inl b_U)), (b3, .inl (cI, 12, .inl b_H)), (b4, .inl (cI, 10, .inl b_O)), (b5, .inl (cI, 10, .inl b_B))]) (va_runV (As := []) (rest := []) ⟨hx, hb, hml, hown, hts⟩ (c_X5_take l D cI cZ cM t0 t1 _ t_len rv1.2.1 rv1.2.2.1 rv1.2.2.2 t_by fu rv2.1 rv2.2.1 rv2.2.2 hrv2) (cwV 0 hts gX1_readUses_X5_take rfl rfl rfl ⟨rfl, hdc_X5_take⟩ ⟨Nat.le_of_ble_eq_true rfl, Nat.le_of_ble_eq_true rfl⟩) (pmV hK hP hD [2, 3] (by decide) rfl rfl (ci := 5) (q0 := 2) rfl rfl) rfl rfl hl.1 rfl (lv_room (Nat.le_of_ble_eq_true rfl)) dX1_readUses_17 ⟨Nat.zero_le _, Nat.zero_le _⟩) hP hD hS hA [2, 3] [0, 1, 4, 5, 6, 7, 8, 9] rfl rfl (by decide) (by decide) (fun H locs hP hD hS => ?_)
    have hP : va_P D vwCl [(r0, .inr (1, [.int r_cl, .ref t0, .ref r1])), (r1, .inl (cI, 10, .inl r_no)), (b0, .inr (3, [.int b_n, .ref b1, .ref b2, .ref b3, .ref b4, .ref b5])), (b1, .inl (cI, 10, .inl b_L)), (b2, .inl (cI, 10, .inl b_U)), (b3, .inl (cI, 12, .inl b_H)), (b4, .inl (cI, 10, .inl b_O)), (b5, .inl (cI, 10, .inl b_B)), (t0, .inr (5, [.int t_len, .int rv2.1, .int rv2.2.1, .int rv2.2.2, .ref t1])), (t1, .inl (cI, 200, .inl t_by))] H := hP
    have hD : va_D A [(r0, .inr (1, [.int r_cl, .ref t0, .ref r1])), (r1, .inl (cI, 10, .inl r_no)), (b0, .inr (3, [.int b_n, .ref b1, .ref b2, .ref b3, .ref b4, .ref b5])), (b1, .inl (cI, 10, .inl b_L)), (b2, .inl (cI, 10, .inl b_U)), (b3, .inl (cI, 12, .inl b_H)), (b4, .inl (cI, 10, .inl b_O)), (b5, .inl (cI, 10, .inl b_B)), (t0, .inr (5, [.int t_len, .int rv2.1, .int rv2.2.1, .int rv2.2.2, .ref t1])), (t1, .inl (cI, 200, .inl t_by))] := hD
    refine lv_aload_n hx hb dX1_readUses_20 rfl (lv_at hl 1 rfl) ?_
    refine va_get (D := D) (ci := 1) (v := .ref t0) (C := RX1) (T := TX1) (N := 3) hx hb hts hiX1 hown hK.1 hP 0 rfl rfl 1 (by decide) hfl_19 (fun _ h9 => h9) rfl dX1_readUses_21 ?_
    obtain ⟨rv3, hrv3, hf⟩ := bd hf
    refine roI (va_runV (As := []) (rest := []) ⟨hx, hb, hml, hown, hts⟩ (c_X5_asTerms l D cI cZ cM t0 t1 t_len rv2.1 rv2.2.1 rv2.2.2 t_by fu rv3 hrv3) (cwV 0 hts gX1_readUses_X5_asTerms rfl rfl rfl ⟨rfl, hdc_X5_asTerms⟩ ⟨Nat.le_of_ble_eq_true rfl, Nat.le_of_ble_eq_true rfl⟩) (prV hK hP [8, 9] rfl (ci := 5) (q0 := 8) rfl rfl) rfl rfl hl.1 rfl (lv_room (Nat.le_of_ble_eq_true rfl)) dX1_readUses_24 ⟨Nat.zero_le _, Nat.zero_le _⟩) ?_
    refine lv_istore_n (lv' := [(3, .int rv3), (2, .int rv1.1), (0, .ref r0), (1, .ref b0)]) hx hb dX1_readUses_27 rfl hl (by decide) rfl (fun ls hl => ?_)
    refine lv_iload_n hx hb dX1_readUses_28 rfl (lv_at hl 0 rfl) ?_
    refine lv_if_ne (tgt := 34) hx hb dX1_readUses_29 (by decide) (fun hc => ?_) (fun hc => ?_)
    · have hf := ifn hc hf
      refine lv_aload_n hx hb dX1_readUses_34 rfl (lv_at hl 3 rfl) ?_
      refine va_get (D := D) (ci := 3) (v := .ref b2) (C := RX3) (T := TX3) (N := 6) hx hb hts hiX3 hown hK.1 hP 2 rfl rfl 2 (by decide) hfl_112 (fun _ h9 => h9) rfl dX1_readUses_35 ?_
      refine lv_iload_n hx hb dX1_readUses_38 rfl (lv_at hl 1 rfl) ?_
      refine lv_dup2_11 hx hb dX1_readUses_39 rfl rfl ?_
      obtain ⟨hi, hf⟩ := gd_some hf
      refine va_iald hx hb hK.1 hP 4 0 rfl rfl hi dX1_readUses_40 ?_
      refine lv_iload_n hx hb dX1_readUses_41 rfl (lv_at hl 0 rfl) ?_
      refine lv_ior hx hb dX1_readUses_42 ?_
      obtain ⟨hi, hf⟩ := gd_some hf
      refine va_iast hx hb hK.1 hP hD hS 4 0 rfl rfl hi dX1_readUses_43 (fun H locs hP hD hS => ?_)
      have hP : va_P D vwCl [(r0, .inr (1, [.int r_cl, .ref t0, .ref r1])), (r1, .inl (cI, 10, .inl r_no)), (b0, .inr (3, [.int b_n, .ref b1, .ref b2, .ref b3, .ref b4, .ref b5])), (b1, .inl (cI, 10, .inl b_L)), (b2, .inl (cI, 10, .inl (upd b_U rv1.1.toNatClampNeg ((b_U rv1.1.toNatClampNeg) ||| rv3)))), (b3, .inl (cI, 12, .inl b_H)), (b4, .inl (cI, 10, .inl b_O)), (b5, .inl (cI, 10, .inl b_B)), (t0, .inr (5, [.int t_len, .int rv2.1, .int rv2.2.1, .int rv2.2.2, .ref t1])), (t1, .inl (cI, 200, .inl t_by))] H := hP
      have hD : va_D A [(r0, .inr (1, [.int r_cl, .ref t0, .ref r1])), (r1, .inl (cI, 10, .inl r_no)), (b0, .inr (3, [.int b_n, .ref b1, .ref b2, .ref b3, .ref b4, .ref b5])), (b1, .inl (cI, 10, .inl b_L)), (b2, .inl (cI, 10, .inl (upd b_U rv1.1.toNatClampNeg ((b_U rv1.1.toNatClampNeg) ||| rv3)))), (b3, .inl (cI, 12, .inl b_H)), (b4, .inl (cI, 10, .inl b_O)), (b5, .inl (cI, 10, .inl b_B)), (t0, .inr (5, [.int t_len, .int rv2.1, .int rv2.2.1, .int rv2.2.2, .ref t1])), (t1, .inl (cI, 200, .inl t_by))] := hD
      refine lv_iconst (v := (nI 1)) hx hb dX1_readUses_44 ic_1 ?_
      cases hf
      exact W.zret hx hb hr zbl_1.1 (fun t ht _ => ⟨⟨rfl, by rw [ht]; exact (hP.sub [0, 1, 8, 9, 2, 3, 4, 5, 6, 7] rfl), (hD.sub [0, 1, 8, 9, 2, 3, 4, 5, 6, 7] (by decide) rfl)⟩, hS.F ht⟩) hS.2.2 dX1_readUses_45
    · have hf := ifp hc hf
      refine lv_iconst (v := (nI 0)) hx hb dX1_readUses_32 ic_0 ?_
      cases hf
      exact W.zret hx hb hr zbl_0.1 (fun t ht _ => ⟨⟨rfl, by rw [ht]; exact (hP.sub [0, 1, 8, 9, 2, 3, 4, 5, 6, 7] rfl), (hD.sub [0, 1, 8, 9, 2, 3, 4, 5, 6, 7] (by decide) rfl)⟩, hS.F ht⟩) hS.2.2 dX1_readUses_33
  · have hf := ifp hc hf
    refine lv_iconst (v := (nI 0)) hx hb dX1_readUses_11 ic_0 ?_
    cases hf
    exact W.zret hx hb hr zbl_0.1 (fun t ht _ => ⟨⟨rfl, by rw [ht]; exact hP, hD⟩, hS.F ht⟩) hS.2.2 dX1_readUses_12
theorem hdc_X3_placeOf : yX3_placeOf.cls ≠ "java/lang/invoke/MethodHandle" ∧ yX3_placeOf.cls ≠ "java/lang/invoke/VarHandle" ∧ (parseMethodDescriptor yX3_placeOf.desc).map (fun d => d.parameters.length) = some 1 := by decide +kernel
set_option maxHeartbeats 4000000 in
set_option maxRecDepth 100000 in
theorem c_X3_placeOf (l : Launch) (D : va_G) (cI cZ cM : ClassId) (a0 a1 a2 a3 a4 a5 : Nat) (a_n : Int32) (a_L : Nat → Int32) (a_U : Nat → Int32) (a_H : Nat → Int32) (a_O : Nat → Int32) (a_B : Nat → Int32) (x1 : Int32) (fu : Nat) (r : Int32) (hf : m_X3_placeOf fu a_n a_O x1 = some r) : Met l yX3_placeOf wsX3_placeOf ({ frames := 0, cells := 0, slots := 0, locals := 0 }) (pR D cI cZ cM [(a0, .inr (3, [.int a_n, .ref a1, .ref a2, .ref a3, .ref a4, .ref a5])), (a1, .inl (cI, 10, .inl a_L)), (a2, .inl (cI, 10, .inl a_U)), (a3, .inl (cI, 12, .inl a_H)), (a4, .inl (cI, 10, .inl a_O)), (a5, .inl (cI, 10, .inl a_B))] [.ref a0, .int x1]) (qR r) 0 0 (fun _ => False) := by
  refine Met.ofW (cc := cX3_placeOf) (maxL := 4) (ret := (some .int)) (by decide) rfl ?_
  intro p e s m args below meth c s₁ B hml hv
  obtain ⟨rfl, hP, hK⟩ := hv
  have hx := B.exec
  have hb := B.bytes
  have hr := B.returns
  have hts := atoms_spec (ws := wsX3_placeOf) B.pre
  have hown : s.vm.findClass RX3 = some m.cls := findClass_of_methodNamed B.named
  have hlocks := B.notSynchronized
  have hfl_21 := hts (.fieldLink RX3 21 "TermsFirst$Manual" "order" "[I") (List.mem_cons_of_mem _ (List.mem_append_left _ (List.mem_of_getElem? (i := 1) rfl)))
  have hfl_31 := hts (.fieldLink RX3 31 "TermsFirst$Manual" "n" "I") (List.mem_cons_of_mem _ (List.mem_append_left _ (List.mem_of_getElem? (i := 0) rfl)))
  have hiX3 : ∀ w ∈ u_ws RX3 TX3 6, w ∈ wsX3_placeOf := fun _ h => (List.mem_cons_of_mem _ (List.mem_append_right _ h))
  have hB_4 : ∀ (fn : Nat) (x2 : Int32) (x3 : Int32), m_X3_placeOf_4 a_n a_O x1 fn x2 x3 = some r → ∀ ls : Array Slot, lv_has ls 4 [(0, .ref a0), (1, .int x1), (2, .int x2), (3, .int x3)] → W p l e (headSpec wsX3_placeOf { frames := 0, cells := 0, slots := 0, locals := 0 }).room s m ([.ref a0, .int x1] : List Value).toArray below meth c s.heap [] 0 0 (MQ below (qR r) ([.ref a0, .int x1] : List Value).toArray s 0 0 (fun _ => False)) (F0 m 4 ls []) := by
    intro fn
    induction fn with
    | zero => intro x2 x3 hf; rw [m_X3_placeOf_4] at hf; cases hf
    | succ fn ih =>
      intro x2 x3 hf ls hl
      rw [m_X3_placeOf_4] at hf
      refine lv_iload_n hx hb dX3_placeOf_4 rfl (lv_at hl 3 rfl) ?_
      refine lv_aload_n hx hb dX3_placeOf_5 rfl (lv_at hl 0 rfl) ?_
      refine va_get (D := D) (ci := 3) (v := .int a_n) (C := RX3) (T := TX3) (N := 6) hx hb hts hiX3 hown hK.1 hP 0 rfl rfl 0 (by decide) hfl_31 (fun _ h9 => h9) rfl dX3_placeOf_6 ?_
      refine lv_icmp_ge (tgt := 30) hx hb dX3_placeOf_9 (by decide) (fun hc => ?_) (fun hc => ?_)
      · have hf := ifp hc hf
        refine lv_iload_n hx hb dX3_placeOf_30 rfl (lv_at hl 2 rfl) ?_
        cases hf
        exact W.iret hx hb hr (fun t ht _ => ⟨rfl, ht⟩) (fun _ h => nomatch h) dX3_placeOf_31
      · have hf := ifn hc hf
        refine lv_aload_n hx hb dX3_placeOf_12 rfl (lv_at hl 0 rfl) ?_
        refine va_get (D := D) (ci := 3) (v := .ref a4) (C := RX3) (T := TX3) (N := 6) hx hb hts hiX3 hown hK.1 hP 0 rfl rfl 4 (by decide) hfl_21 (fun _ h9 => h9) rfl dX3_placeOf_13 ?_
        refine lv_iload_n hx hb dX3_placeOf_16 rfl (lv_at hl 3 rfl) ?_
        obtain ⟨hi, hf⟩ := gd_some hf
        refine va_iald hx hb hK.1 hP 4 0 rfl rfl hi dX3_placeOf_17 ?_
        refine lv_iload_n hx hb dX3_placeOf_18 rfl (lv_at hl 1 rfl) ?_
        refine lv_icmp_ne (tgt := 24) hx hb dX3_placeOf_19 (by decide) (fun hc => ?_) (fun hc => ?_)
        · have hf := ifn hc hf
          refine lv_iinc (v := (x3 + (nI 1))) (lv' := [(3, .int (x3 + (nI 1))), (0, .ref a0), (1, .int x1), (2, .int x2)]) hx hb dX3_placeOf_24 hl (k := 3) rfl (ii_1 _) (by decide) rfl (fun ls hl => ?_)
          refine lv_goto (tgt := 4) hx hb dX3_placeOf_27 (by decide) ?_
          exact ih x2 (x3 + (nI 1)) hf  ls (lv_sub hl [1, 2, 3, 0] rfl)
        · have hf := ifp hc hf
          refine lv_iload_n hx hb dX3_placeOf_22 rfl (lv_at hl 3 rfl) ?_
          refine lv_istore_n (lv' := [(2, .int x3), (0, .ref a0), (1, .int x1), (3, .int x3)]) hx hb dX3_placeOf_23 rfl hl (by decide) rfl (fun ls hl => ?_)
          refine lv_iinc (v := (x3 + (nI 1))) (lv' := [(3, .int (x3 + (nI 1))), (2, .int x3), (0, .ref a0), (1, .int x1)]) hx hb dX3_placeOf_24 hl (k := 3) rfl (ii_1 _) (by decide) rfl (fun ls hl => ?_)
          refine lv_goto (tgt := 4) hx hb dX3_placeOf_27 (by decide) ?_
          exact ih x3 (x3 + (nI 1)) hf  ls (lv_sub hl [2, 3, 1, 0] rfl)
  have hl := lv_entry ([.ref a0, .int x1]) (n := 4) (Nat.le_of_ble_eq_true rfl)
  rw [lg_entry_eq]
  generalize (lg_sl ([.ref a0, .int x1]) ++ List.replicate (4 - (lg_sl ([.ref a0, .int x1])).length) Slot.unset).toArray = ls at hl ⊢
  have hl : lv_has ls 4 [(0, .ref a0), (1, .int x1)] := hl
  unfold m_X3_placeOf at hf
  refine lv_iconst (v := (nI 0)) hx hb dX3_placeOf_0 ic_0 ?_
  refine lv_istore_n (lv' := [(2, .int (nI 0)), (0, .ref a0), (1, .int x1)]) hx hb dX3_placeOf_1 rfl hl (by decide) rfl (fun ls hl => ?_)
  refine lv_iconst (v := (nI 0)) hx hb dX3_placeOf_2 ic_0 ?_
  refine lv_istore_n (lv' := [(3, .int (nI 0)), (2, .int (nI 0)), (0, .ref a0), (1, .int x1)]) hx hb dX3_placeOf_3 rfl hl (by decide) rfl (fun ls hl => ?_)
  exact hB_4 fu (nI 0) (nI 0) hf  ls (lv_sub hl [2, 3, 1, 0] rfl)
theorem hdc_X3_canTakePrecedence : yX3_canTakePrecedence.cls ≠ "java/lang/invoke/MethodHandle" ∧ yX3_canTakePrecedence.cls ≠ "java/lang/invoke/VarHandle" ∧ (parseMethodDescriptor yX3_canTakePrecedence.desc).map (fun d => d.parameters.length) = some 2 := by decide +kernel
set_option maxHeartbeats 4000000 in
set_option maxRecDepth 100000 in
theorem c_X3_canTakePrecedence (l : Launch) (D : va_G) (cI cZ cM : ClassId) (a0 a1 a2 a3 a4 a5 : Nat) (a_n : Int32) (a_L : Nat → Int32) (a_U : Nat → Int32) (a_H : Nat → Int32) (a_O : Nat → Int32) (a_B : Nat → Int32) (x1 : Int32) (x2 : Int32) (fu : Nat) (r : Int32) (hf : m_X3_canTakePrecedence fu a_n a_O a_B x1 x2 = some r) : Met l yX3_canTakePrecedence wsX3_canTakePrecedence ({ frames := 1, cells := 0, slots := 0, locals := 23 }) (pR D cI cZ cM [(a0, .inr (3, [.int a_n, .ref a1, .ref a2, .ref a3, .ref a4, .ref a5])), (a1, .inl (cI, 10, .inl a_L)), (a2, .inl (cI, 10, .inl a_U)), (a3, .inl (cI, 12, .inl a_H)), (a4, .inl (cI, 10, .inl a_O)), (a5, .inl (cI, 10, .inl a_B))] [.ref a0, .int x1, .int x2]) (qR r) 0 0 (fun _ => False) := by
  refine Met.ofW (cc := cX3_canTakePrecedence) (maxL := 3) (ret := (some .boolean)) (by decide) rfl ?_
  intro p e s m args below meth c s₁ B hml hv
  obtain ⟨rfl, hP, hK⟩ := hv
  have hx := B.exec
  have hb := B.bytes
  have hr := B.returns
  have hts := atoms_spec (ws := wsX3_canTakePrecedence) B.pre
  have hown : s.vm.findClass RX3 = some m.cls := findClass_of_methodNamed B.named
  have hlocks := B.notSynchronized
  have hfl_24 := hts (.fieldLink RX3 24 "TermsFirst$Manual" "before" "[I") (List.mem_cons_of_mem _ (List.mem_append_left _ (List.mem_of_getElem? (i := 0) rfl)))
  have hn_7 : va_Nw (.methodLinkNest RX3 39 yX6_has RX6) s := nw_7 hK
  have hin_RX6 : (Cond.initialized yX6_has.cls).before _ s = true := hts (.initialized RX6) (List.mem_cons_of_mem _ (List.mem_append_left _ (List.mem_of_getElem? (i := 9) rfl)))
  have hst_X6_has := hts (.static yX6_has) (List.mem_cons_of_mem _ (List.mem_append_left _ (List.mem_of_getElem? (i := 8) rfl)))
  have hiX3 : ∀ w ∈ u_ws RX3 TX3 6, w ∈ wsX3_canTakePrecedence := fun _ h => (List.mem_cons_of_mem _ (List.mem_append_right _ h))
  have hl := lv_entry ([.ref a0, .int x1, .int x2]) (n := 3) (Nat.le_of_ble_eq_true rfl)
  rw [lg_entry_eq]
  generalize (lg_sl ([.ref a0, .int x1, .int x2]) ++ List.replicate (3 - (lg_sl ([.ref a0, .int x1, .int x2])).length) Slot.unset).toArray = ls at hl ⊢
  have hl : lv_has ls 3 [(0, .ref a0), (1, .int x1), (2, .int x2)] := hl
  unfold m_X3_canTakePrecedence at hf
  refine lv_aload_n hx hb dX3_canTakePrecedence_0 rfl (lv_at hl 0 rfl) ?_
  refine lv_iload_n hx hb dX3_canTakePrecedence_1 rfl (lv_at hl 1 rfl) ?_
  obtain ⟨rv1, hrv1, hf⟩ := bd hf
  refine roI (va_runV (As := [.int x1]) (rest := []) ⟨hx, hb, hml, hown, hts⟩ (c_X3_placeOf l D cI cZ cM a0 a1 a2 a3 a4 a5 a_n a_L a_U a_H a_O a_B x1 fu rv1 hrv1) (cwV 1 hts gX3_canTakePrecedence_X3_placeOf rfl rfl rfl ⟨rfl, hdc_X3_placeOf⟩ ⟨Nat.le_of_ble_eq_true rfl, Nat.le_of_ble_eq_true rfl⟩) (prV hK hP [0, 1, 2, 3, 4, 5] rfl (ci := 3) (q0 := 0) rfl rfl) rfl rfl hl.1 rfl (lv_room (Nat.le_of_ble_eq_true rfl)) dX3_canTakePrecedence_2 ⟨Nat.zero_le _, Nat.zero_le _⟩) ?_
  refine lv_aload_n hx hb dX3_canTakePrecedence_5 rfl (lv_at hl 0 rfl) ?_
  refine lv_iload_n hx hb dX3_canTakePrecedence_6 rfl (lv_at hl 2 rfl) ?_
  obtain ⟨rv2, hrv2, hf⟩ := bd hf
  refine roI (va_runV (As := [.int x2]) (rest := [.int rv1]) ⟨hx, hb, hml, hown, hts⟩ (c_X3_placeOf l D cI cZ cM a0 a1 a2 a3 a4 a5 a_n a_L a_U a_H a_O a_B x2 fu rv2 hrv2) (cwV 1 hts gX3_canTakePrecedence_X3_placeOf rfl rfl rfl ⟨rfl, hdc_X3_placeOf⟩ ⟨Nat.le_of_ble_eq_true rfl, Nat.le_of_ble_eq_true rfl⟩) (prV hK hP [0, 1, 2, 3, 4, 5] rfl (ci := 3) (q0 := 0) rfl rfl) rfl rfl hl.1 rfl (lv_room (Nat.le_of_ble_eq_true rfl)) dX3_canTakePrecedence_7 ⟨Nat.zero_le _, Nat.zero_le _⟩) ?_
  refine lv_icmp_ge (tgt := 30) hx hb dX3_canTakePrecedence_10 (by decide) (fun hc => ?_) (fun hc => ?_)
  · have hf := ifp hc hf
    refine lv_iconst (v := (nI 0)) hx hb dX3_canTakePrecedence_30 ic_0 ?_
    cases hf
    exact W.zret hx hb hr zbl_0.1 (fun t ht _ => ⟨rfl, ht⟩) (fun _ h => nomatch h) dX3_canTakePrecedence_31
  · have hf := ifn hc hf
    refine lv_aload_n hx hb dX3_canTakePrecedence_13 rfl (lv_at hl 0 rfl) ?_
    refine va_get (D := D) (ci := 3) (v := .ref a5) (C := RX3) (T := TX3) (N := 6) hx hb hts hiX3 hown hK.1 hP 0 rfl rfl 5 (by decide) hfl_24 (fun _ h9 => h9) rfl dX3_canTakePrecedence_14 ?_
    refine lv_iload_n hx hb dX3_canTakePrecedence_17 rfl (lv_at hl 2 rfl) ?_
    obtain ⟨hi, hf⟩ := gd_some hf
    refine va_iald hx hb hK.1 hP 5 0 rfl rfl hi dX3_canTakePrecedence_18 ?_
    refine lv_iload_n hx hb dX3_canTakePrecedence_19 rfl (lv_at hl 1 rfl) ?_
    obtain ⟨rv3, hrv3, hf⟩ := bd hf
    refine roI (va_runSN (As := [.int (a_B x2.toNatClampNeg), .int x1]) (rest := []) ⟨hx, hb, hml, hown, hts⟩ (c_X6_has l D cI cZ cM (a_B x2.toNatClampNeg) x1 rv3 hrv3) ⟨va_cnB (host := RX6) 2 hts gX3_canTakePrecedence_X6_has_n39 rfl rfl rfl hn_7 hin_RX6 hdc_X6_has ⟨Nat.le_of_ble_eq_true rfl, Nat.le_of_ble_eq_true rfl⟩, hst_X6_has, trivial⟩ (prS hK hP [] rfl) rfl rfl hl.1 rfl (lv_room (Nat.le_of_ble_eq_true rfl)) dX3_canTakePrecedence_20 ⟨Nat.zero_le _, Nat.zero_le _⟩) ?_
    refine lv_if_ne (tgt := 30) hx hb dX3_canTakePrecedence_23 (by decide) (fun hc => ?_) (fun hc => ?_)
    · have hf := ifn hc hf
      refine lv_iconst (v := (nI 0)) hx hb dX3_canTakePrecedence_30 ic_0 ?_
      cases hf
      exact W.zret hx hb hr zbl_0.1 (fun t ht _ => ⟨rfl, ht⟩) (fun _ h => nomatch h) dX3_canTakePrecedence_31
    · have hf := ifp hc hf
      refine lv_iconst (v := (nI 1)) hx hb dX3_canTakePrecedence_26 ic_1 ?_
      refine lv_goto (tgt := 31) hx hb dX3_canTakePrecedence_27 (by decide) ?_
      cases hf
      exact W.zret hx hb hr zbl_1.1 (fun t ht _ => ⟨rfl, ht⟩) (fun _ h => nomatch h) dX3_canTakePrecedence_31
theorem hdc_X1_readAhead : yX1_readAhead.cls ≠ "java/lang/invoke/MethodHandle" ∧ yX1_readAhead.cls ≠ "java/lang/invoke/VarHandle" ∧ (parseMethodDescriptor yX1_readAhead.desc).map (fun d => d.parameters.length) = some 1 := by decide +kernel
set_option maxHeartbeats 4000000 in
set_option maxRecDepth 100000 in
theorem c_X1_readAhead (l : Launch) (D : va_G) (cI cZ cM : ClassId) (r0 r1 t0 t1 b0 b1 b2 b3 b4 b5 : Nat) (sz : Nat) (r_cl : Int32) (r_no : Nat → Int32) (t_len : Int32) (t_st : Int32) (t_nx : Int32) (t_kd : Int32) (t_by : Nat → Int32) (b_n : Int32) (b_L : Nat → Int32) (b_U : Nat → Int32) (b_H : Nat → Int32) (b_O : Nat → Int32) (b_B : Nat → Int32) (fu : Nat) (r : Int32) (t_st' : Int32) (t_nx' : Int32) (t_kd' : Int32) (b_B' : Nat → Int32) (hf : m_X1_readAhead fu t_len t_nx t_by b_n b_O b_B = some (r, t_st', t_nx', t_kd', b_B')) : Met l yX1_readAhead wsX1_readAhead ({ frames := 3, cells := 0, slots := 0, locals := 61 }) (pM D cI cZ cM sz [(r0, .inr (1, [.int r_cl, .ref t0, .ref r1])), (r1, .inl (cI, 10, .inl r_no)), (t0, .inr (5, [.int t_len, .int t_st, .int t_nx, .int t_kd, .ref t1])), (t1, .inl (cI, 200, .inl t_by)), (b0, .inr (3, [.int b_n, .ref b1, .ref b2, .ref b3, .ref b4, .ref b5])), (b1, .inl (cI, 10, .inl b_L)), (b2, .inl (cI, 10, .inl b_U)), (b3, .inl (cI, 12, .inl b_H)), (b4, .inl (cI, 10, .inl b_O)), (b5, .inl (cI, 10, .inl b_B))] [.ref r0, .ref b0]) (qI D r [(r0, .inr (1, [.int r_cl, .ref t0, .ref r1])), (r1, .inl (cI, 10, .inl r_no)), (t0, .inr (5, [.int t_len, .int t_st', .int t_nx', .int t_kd', .ref t1])), (t1, .inl (cI, 200, .inl t_by)), (b0, .inr (3, [.int b_n, .ref b1, .ref b2, .ref b3, .ref b4, .ref b5])), (b1, .inl (cI, 10, .inl b_L)), (b2, .inl (cI, 10, .inl b_U)), (b3, .inl (cI, 12, .inl b_H)), (b4, .inl (cI, 10, .inl b_O)), (b5, .inl (cI, 10, .inl b_B'))] (va_A [(r0, .inr (1, [.int r_cl, .ref t0, .ref r1])), (r1, .inl (cI, 10, .inl r_no)), (t0, .inr (5, [.int t_len, .int t_st, .int t_nx, .int t_kd, .ref t1])), (t1, .inl (cI, 200, .inl t_by)), (b0, .inr (3, [.int b_n, .ref b1, .ref b2, .ref b3, .ref b4, .ref b5])), (b1, .inl (cI, 10, .inl b_L)), (b2, .inl (cI, 10, .inl b_U)), (b3, .inl (cI, 12, .inl b_H)), (b4, .inl (cI, 10, .inl b_O)), (b5, .inl (cI, 10, .inl b_B))] sz)) 0 0 (va_A [(r0, .inr (1, [.int r_cl, .ref t0, .ref r1])), (r1, .inl (cI, 10, .inl r_no)), (t0, .inr (5, [.int t_len, .int t_st, .int t_nx, .int t_kd, .ref t1])), (t1, .inl (cI, 200, .inl t_by)), (b0, .inr (3, [.int b_n, .ref b1, .ref b2, .ref b3, .ref b4, .ref b5])), (b1, .inl (cI, 10, .inl b_L)), (b2, .inl (cI, 10, .inl b_U)), (b3, .inl (cI, 12, .inl b_H)), (b4, .inl (cI, 10, .inl b_O)), (b5, .inl (cI, 10, .inl b_B))] sz) := by
  refine Met.ofW (cc := cX1_readAhead) (maxL := 4) (ret := (some .boolean)) (by decide) rfl ?_
  intro p e s m args below meth c s₁ B hml hv
  obtain ⟨rfl, hsz, hP, hK, hD0⟩ := hv
  have hx := B.exec
  have hb := B.bytes
  have hr := B.returns
  have hts := atoms_spec (ws := wsX1_readAhead) B.pre
  have hown : s.vm.findClass RX1 = some m.cls := findClass_of_methodNamed B.named
  have hlocks := B.notSynchronized
  subst hsz
  have hD := hD0.self (sz := s.heap.size)
  generalize hAe : va_A [(r0, .inr (1, [.int r_cl, .ref t0, .ref r1])), (r1, .inl (cI, 10, .inl r_no)), (t0, .inr (5, [.int t_len, .int t_st, .int t_nx, .int t_kd, .ref t1])), (t1, .inl (cI, 200, .inl t_by)), (b0, .inr (3, [.int b_n, .ref b1, .ref b2, .ref b3, .ref b4, .ref b5])), (b1, .inl (cI, 10, .inl b_L)), (b2, .inl (cI, 10, .inl b_U)), (b3, .inl (cI, 12, .inl b_H)), (b4, .inl (cI, 10, .inl b_O)), (b5, .inl (cI, 10, .inl b_B))] s.heap.size = A at hD ⊢
  have hA : ∀ q : Nat, s.heap.size ≤ q → A q := fun q h => by rw [← hAe]; exact Or.inr h
  clear hAe hD0
  have hfl_119 := hts (.fieldLink RX1 119 "TermsFirst$Manual" "before" "[I") (List.mem_cons_of_mem _ (List.mem_append_left _ (List.mem_append_left _ (List.mem_append_left _ (List.mem_append_left _ (List.mem_of_getElem? (i := 0) rfl))))))
  have hn_5 : va_Nw (.methodLinkNest RX1 122 yX6_with RX6) s := nw_5 hK
  have hin_RX6 : (Cond.initialized yX6_with.cls).before _ s = true := hts (.initialized RX6) (List.mem_cons_of_mem _ (List.mem_append_left _ (List.mem_append_left _ (List.mem_append_left _ (List.mem_append_right _ (List.mem_of_getElem? (i := 14) rfl))))))
  have hst_X6_with := hts (.static yX6_with) (List.mem_cons_of_mem _ (List.mem_append_left _ (List.mem_append_left _ (List.mem_append_left _ (List.mem_append_right _ (List.mem_of_getElem? (i := 16) rfl))))))
  have hiX3 : ∀ w ∈ u_ws RX3 TX3 6, w ∈ wsX1_readAhead := fun _ h => (List.mem_cons_of_mem _ (List.mem_append_left _ (List.mem_append_left _ (List.mem_append_right _ h))))
  have hl := lv_entry ([.ref r0, .ref b0]) (n := 4) (Nat.le_of_ble_eq_true rfl)
  rw [lg_entry_eq]
  generalize (lg_sl ([.ref r0, .ref b0]) ++ List.replicate (4 - (lg_sl ([.ref r0, .ref b0])).length) Slot.unset).toArray = ls at hl ⊢
  have hl : lv_has ls 4 [(0, .ref r0), (1, .ref b0)] := hl
  have hS : va_S A s.heap s.heap [] := va_S.rf
  unfold m_X1_readAhead at hf
  refine lv_aload_n hx hb dX1_readAhead_0 rfl (lv_at hl 0 rfl) ?_
  refine lv_aload_n hx hb dX1_readAhead_1 rfl (lv_at hl 1 rfl) ?_
  obtain ⟨rv1, hrv1, hf⟩ := bd hf
  refine muI0 (wr := []) (va_runV (As := [.ref b0]) (rest := []) ⟨hx, hb, hml, hown, hts⟩ (c_X1_takeSection l D cI cZ cM r0 r1 t0 t1 b0 b1 b2 b3 b4 b5 _ r_cl r_no t_len t_st t_nx t_kd t_by b_n b_L b_U b_H b_O b_B fu rv1.1 rv1.2.1 rv1.2.2.1 rv1.2.2.2 hrv1) (cwV 1 hts gX1_readAhead_X1_takeSection rfl rfl rfl ⟨rfl, hdc_X1_takeSection⟩ ⟨Nat.le_of_ble_eq_true rfl, Nat.le_of_ble_eq_true rfl⟩) (pmV hK hP hD [0, 1, 2, 3, 4, 5, 6, 7, 8, 9] (by decide) rfl rfl (ci := 1) (q0 := 0) rfl rfl) rfl rfl hl.1 rfl (lv_room (Nat.le_of_ble_eq_true rfl)) dX1_readAhead_2 ⟨Nat.zero_le _, Nat.zero_le _⟩) hP hD hS hA [0, 1, 2, 3, 4, 5, 6, 7, 8, 9] [] rfl rfl (by decide) (by decide) (fun H locs hP hD hS => ?_)
  have hP : va_P D vwCl [(r0, .inr (1, [.int r_cl, .ref t0, .ref r1])), (r1, .inl (cI, 10, .inl r_no)), (t0, .inr (5, [.int t_len, .int rv1.2.1, .int rv1.2.2.1, .int rv1.2.2.2, .ref t1])), (t1, .inl (cI, 200, .inl t_by)), (b0, .inr (3, [.int b_n, .ref b1, .ref b2, .ref b3, .ref b4, .ref b5])), (b1, .inl (cI, 10, .inl b_L)), (b2, .inl (cI, 10, .inl b_U)), (b3, .inl (cI, 12, .inl b_H)), (b4, .inl (cI, 10, .inl b_O)), (b5, .inl (cI, 10, .inl b_B))] H := hP
  have hD : va_D A [(r0, .inr (1, [.int r_cl, .ref t0, .ref r1])), (r1, .inl (cI, 10, .inl r_no)), (t0, .inr (5, [.int t_len, .int rv1.2.1, .int rv1.2.2.1, .int rv1.2.2.2, .ref t1])), (t1, .inl (cI, 200, .inl t_by)), (b0, .inr (3, [.int b_n, .ref b1, .ref b2, .ref b3, .ref b4, .ref b5])), (b1, .inl (cI, 10, .inl b_L)), (b2, .inl (cI, 10, .inl b_U)), (b3, .inl (cI, 12, .inl b_H)), (b4, .inl (cI, 10, .inl b_O)), (b5, .inl (cI, 10, .inl b_B))] := hD
  refine lv_istore_n (lv' := [(2, .int rv1.1), (0, .ref r0), (1, .ref b0)]) hx hb dX1_readAhead_5 rfl hl (by decide) rfl (fun ls hl => ?_)
  refine lv_iload_n hx hb dX1_readAhead_6 rfl (lv_at hl 0 rfl) ?_
  refine lv_iconst (v := (-1 : Int32)) hx hb dX1_readAhead_7 ic_m1 ?_
  refine lv_icmp_ne (tgt := 13) hx hb dX1_readAhead_8 (by decide) (fun hc => ?_) (fun hc => ?_)
  · have hf := ifn hc hf
    refine lv_aload_n hx hb dX1_readAhead_13 rfl (lv_at hl 1 rfl) ?_
    refine lv_aload_n hx hb dX1_readAhead_14 rfl (lv_at hl 2 rfl) ?_
    obtain ⟨rv2, hrv2, hf⟩ := bd hf
    refine muI0 (wr := []) (va_runV (As := [.ref b0]) (rest := []) ⟨hx, hb, hml, hown, hts⟩ (c_X1_takeSection l D cI cZ cM r0 r1 t0 t1 b0 b1 b2 b3 b4 b5 _ r_cl r_no t_len rv1.2.1 rv1.2.2.1 rv1.2.2.2 t_by b_n b_L b_U b_H b_O b_B fu rv2.1 rv2.2.1 rv2.2.2.1 rv2.2.2.2 hrv2) (cwV 1 hts gX1_readAhead_X1_takeSection rfl rfl rfl ⟨rfl, hdc_X1_takeSection⟩ ⟨Nat.le_of_ble_eq_true rfl, Nat.le_of_ble_eq_true rfl⟩) (pmV hK hP hD [0, 1, 2, 3, 4, 5, 6, 7, 8, 9] (by decide) rfl rfl (ci := 1) (q0 := 0) rfl rfl) rfl rfl hl.1 rfl (lv_room (Nat.le_of_ble_eq_true rfl)) dX1_readAhead_15 ⟨Nat.zero_le _, Nat.zero_le _⟩) hP hD hS hA [0, 1, 2, 3, 4, 5, 6, 7, 8, 9] [] rfl rfl (by decide) (by decide) (fun H locs hP hD hS => ?_)
    have hP : va_P D vwCl [(r0, .inr (1, [.int r_cl, .ref t0, .ref r1])), (r1, .inl (cI, 10, .inl r_no)), (t0, .inr (5, [.int t_len, .int rv2.2.1, .int rv2.2.2.1, .int rv2.2.2.2, .ref t1])), (t1, .inl (cI, 200, .inl t_by)), (b0, .inr (3, [.int b_n, .ref b1, .ref b2, .ref b3, .ref b4, .ref b5])), (b1, .inl (cI, 10, .inl b_L)), (b2, .inl (cI, 10, .inl b_U)), (b3, .inl (cI, 12, .inl b_H)), (b4, .inl (cI, 10, .inl b_O)), (b5, .inl (cI, 10, .inl b_B))] H := hP
    have hD : va_D A [(r0, .inr (1, [.int r_cl, .ref t0, .ref r1])), (r1, .inl (cI, 10, .inl r_no)), (t0, .inr (5, [.int t_len, .int rv2.2.1, .int rv2.2.2.1, .int rv2.2.2.2, .ref t1])), (t1, .inl (cI, 200, .inl t_by)), (b0, .inr (3, [.int b_n, .ref b1, .ref b2, .ref b3, .ref b4, .ref b5])), (b1, .inl (cI, 10, .inl b_L)), (b2, .inl (cI, 10, .inl b_U)), (b3, .inl (cI, 12, .inl b_H)), (b4, .inl (cI, 10, .inl b_O)), (b5, .inl (cI, 10, .inl b_B))] := hD
    refine lv_istore_n (lv' := [(3, .int rv2.1), (2, .int rv1.1), (0, .ref r0), (1, .ref b0)]) hx hb dX1_readAhead_18 rfl hl (by decide) rfl (fun ls hl => ?_)
    refine lv_iload_n hx hb dX1_readAhead_19 rfl (lv_at hl 0 rfl) ?_
    refine lv_iconst (v := (-1 : Int32)) hx hb dX1_readAhead_20 ic_m1 ?_
    refine lv_icmp_eq (tgt := 29) hx hb dX1_readAhead_21 (by decide) (fun hc => ?_) (fun hc => ?_)
    · have hf := ifp hc hf
      refine lv_iconst (v := (nI 0)) hx hb dX1_readAhead_29 ic_0 ?_
      cases hf
      exact W.zret hx hb hr zbl_0.1 (fun t ht _ => ⟨⟨rfl, by rw [ht]; exact hP, hD⟩, hS.F ht⟩) hS.2.2 dX1_readAhead_30
    · have hf := ifn hc hf
      refine lv_iload_n hx hb dX1_readAhead_24 rfl (lv_at hl 0 rfl) ?_
      refine lv_iload_n hx hb dX1_readAhead_25 rfl (lv_at hl 1 rfl) ?_
      refine lv_icmp_ne (tgt := 31) hx hb dX1_readAhead_26 (by decide) (fun hc => ?_) (fun hc => ?_)
      · have hf := ifn hc hf
        refine lv_aload_n hx hb dX1_readAhead_31 rfl (lv_at hl 3 rfl) ?_
        refine lv_iload_n hx hb dX1_readAhead_32 rfl (lv_at hl 1 rfl) ?_
        refine lv_iload_n hx hb dX1_readAhead_33 rfl (lv_at hl 0 rfl) ?_
        obtain ⟨rv3, hrv3, hf⟩ := bd hf
        refine roI (va_runV (As := [.int rv1.1, .int rv2.1]) (rest := []) ⟨hx, hb, hml, hown, hts⟩ (c_X3_canTakePrecedence l D cI cZ cM b0 b1 b2 b3 b4 b5 b_n b_L b_U b_H b_O b_B rv1.1 rv2.1 fu rv3 hrv3) (cwV 2 hts gX1_readAhead_X3_canTakePrecedence rfl rfl rfl ⟨rfl, hdc_X3_canTakePrecedence⟩ ⟨Nat.le_of_ble_eq_true rfl, Nat.le_of_ble_eq_true rfl⟩) (prV hK hP [4, 5, 6, 7, 8, 9] rfl (ci := 3) (q0 := 4) rfl rfl) rfl rfl hl.1 rfl (lv_room (Nat.le_of_ble_eq_true rfl)) dX1_readAhead_34 ⟨Nat.zero_le _, Nat.zero_le _⟩) ?_
        refine lv_if_eq (tgt := 56) hx hb dX1_readAhead_37 (by decide) (fun hc => ?_) (fun hc => ?_)
        · have hf := ifp hc hf
          refine lv_iconst (v := (nI 1)) hx hb dX1_readAhead_56 ic_1 ?_
          cases hf
          exact W.zret hx hb hr zbl_1.1 (fun t ht _ => ⟨⟨rfl, by rw [ht]; exact hP, hD⟩, hS.F ht⟩) hS.2.2 dX1_readAhead_57
        · have hf := ifn hc hf
          refine lv_aload_n hx hb dX1_readAhead_40 rfl (lv_at hl 3 rfl) ?_
          refine va_get (D := D) (ci := 3) (v := .ref b5) (C := RX3) (T := TX3) (N := 6) hx hb hts hiX3 hown hK.1 hP 4 rfl rfl 5 (by decide) hfl_119 (fun _ h9 => h9) rfl dX1_readAhead_41 ?_
          refine lv_iload_n hx hb dX1_readAhead_44 rfl (lv_at hl 0 rfl) ?_
          refine lv_aload_n hx hb dX1_readAhead_45 rfl (lv_at hl 3 rfl) ?_
          refine va_get (D := D) (ci := 3) (v := .ref b5) (C := RX3) (T := TX3) (N := 6) hx hb hts hiX3 hown hK.1 hP 4 rfl rfl 5 (by decide) hfl_119 (fun _ h9 => h9) rfl dX1_readAhead_46 ?_
          refine lv_iload_n hx hb dX1_readAhead_49 rfl (lv_at hl 0 rfl) ?_
          obtain ⟨hi, hf⟩ := gd_some hf
          refine va_iald hx hb hK.1 hP 9 0 rfl rfl hi dX1_readAhead_50 ?_
          refine lv_iload_n hx hb dX1_readAhead_51 rfl (lv_at hl 1 rfl) ?_
          obtain ⟨rv4, hrv4, hf⟩ := bd hf
          refine roI (va_runSN (As := [.int (b_B rv2.1.toNatClampNeg), .int rv1.1]) (rest := [.int rv2.1, .ref b5]) ⟨hx, hb, hml, hown, hts⟩ (c_X6_with l D cI cZ cM (b_B rv2.1.toNatClampNeg) rv1.1 rv4 hrv4) ⟨va_cnB (host := RX6) 2 hts gX1_readAhead_X6_with_n122 rfl rfl rfl hn_5 hin_RX6 hdc_X6_with ⟨Nat.le_of_ble_eq_true rfl, Nat.le_of_ble_eq_true rfl⟩, hst_X6_with, trivial⟩ (prS hK hP [] rfl) rfl rfl hl.1 rfl (lv_room (Nat.le_of_ble_eq_true rfl)) dX1_readAhead_52 ⟨Nat.zero_le _, Nat.zero_le _⟩) ?_
          obtain ⟨hi, hf⟩ := gd_some hf
          refine va_iast hx hb hK.1 hP hD hS 9 0 rfl rfl hi dX1_readAhead_55 (fun H locs hP hD hS => ?_)
          have hP : va_P D vwCl [(r0, .inr (1, [.int r_cl, .ref t0, .ref r1])), (r1, .inl (cI, 10, .inl r_no)), (t0, .inr (5, [.int t_len, .int rv2.2.1, .int rv2.2.2.1, .int rv2.2.2.2, .ref t1])), (t1, .inl (cI, 200, .inl t_by)), (b0, .inr (3, [.int b_n, .ref b1, .ref b2, .ref b3, .ref b4, .ref b5])), (b1, .inl (cI, 10, .inl b_L)), (b2, .inl (cI, 10, .inl b_U)), (b3, .inl (cI, 12, .inl b_H)), (b4, .inl (cI, 10, .inl b_O)), (b5, .inl (cI, 10, .inl (upd b_B rv2.1.toNatClampNeg rv4)))] H := hP
          have hD : va_D A [(r0, .inr (1, [.int r_cl, .ref t0, .ref r1])), (r1, .inl (cI, 10, .inl r_no)), (t0, .inr (5, [.int t_len, .int rv2.2.1, .int rv2.2.2.1, .int rv2.2.2.2, .ref t1])), (t1, .inl (cI, 200, .inl t_by)), (b0, .inr (3, [.int b_n, .ref b1, .ref b2, .ref b3, .ref b4, .ref b5])), (b1, .inl (cI, 10, .inl b_L)), (b2, .inl (cI, 10, .inl b_U)), (b3, .inl (cI, 12, .inl b_H)), (b4, .inl (cI, 10, .inl b_O)), (b5, .inl (cI, 10, .inl (upd b_B rv2.1.toNatClampNeg rv4)))] := hD
          refine lv_iconst (v := (nI 1)) hx hb dX1_readAhead_56 ic_1 ?_
          cases hf
          exact W.zret hx hb hr zbl_1.1 (fun t ht _ => ⟨⟨rfl, by rw [ht]; exact hP, hD⟩, hS.F ht⟩) hS.2.2 dX1_readAhead_57
      · have hf := ifp hc hf
        refine lv_iconst (v := (nI 0)) hx hb dX1_readAhead_29 ic_0 ?_
        cases hf
        exact W.zret hx hb hr zbl_0.1 (fun t ht _ => ⟨⟨rfl, by rw [ht]; exact hP, hD⟩, hS.F ht⟩) hS.2.2 dX1_readAhead_30
  · have hf := ifp hc hf
    refine lv_iconst (v := (nI 0)) hx hb dX1_readAhead_11 ic_0 ?_
    cases hf
    exact W.zret hx hb hr zbl_0.1 (fun t ht _ => ⟨⟨rfl, by rw [ht]; exact hP, hD⟩, hS.F ht⟩) hS.2.2 dX1_readAhead_12
theorem hdc_X3_respectsPrecedences : yX3_respectsPrecedences.cls ≠ "java/lang/invoke/MethodHandle" ∧ yX3_respectsPrecedences.cls ≠ "java/lang/invoke/VarHandle" ∧ (parseMethodDescriptor yX3_respectsPrecedences.desc).map (fun d => d.parameters.length) = some 1 := by decide +kernel
set_option maxHeartbeats 4000000 in
set_option maxRecDepth 100000 in
theorem c_X3_respectsPrecedences (l : Launch) (D : va_G) (cI cZ cM : ClassId) (a0 a1 a2 a3 a4 a5 w0 : Nat) (a_n : Int32) (a_L : Nat → Int32) (a_U : Nat → Int32) (a_H : Nat → Int32) (a_O : Nat → Int32) (a_B : Nat → Int32) (w_a : Nat → Int32) (fu : Nat) (r : Int32) (hf : m_X3_respectsPrecedences fu a_n a_B w_a = some r) : Met l yX3_respectsPrecedences wsX3_respectsPrecedences ({ frames := 1, cells := 0, slots := 0, locals := 21 }) (pR D cI cZ cM [(a0, .inr (3, [.int a_n, .ref a1, .ref a2, .ref a3, .ref a4, .ref a5])), (a1, .inl (cI, 10, .inl a_L)), (a2, .inl (cI, 10, .inl a_U)), (a3, .inl (cI, 12, .inl a_H)), (a4, .inl (cI, 10, .inl a_O)), (a5, .inl (cI, 10, .inl a_B)), (w0, .inl (cI, 10, .inl w_a))] [.ref a0, .ref w0]) (qR r) 0 0 (fun _ => False) := by
  refine Met.ofW (cc := cX3_respectsPrecedences) (maxL := 5) (ret := (some .boolean)) (by decide) rfl ?_
  intro p e s m args below meth c s₁ B hml hv
  obtain ⟨rfl, hP, hK⟩ := hv
  have hx := B.exec
  have hb := B.bytes
  have hr := B.returns
  have hts := atoms_spec (ws := wsX3_respectsPrecedences) B.pre
  have hown : s.vm.findClass RX3 = some m.cls := findClass_of_methodNamed B.named
  have hlocks := B.notSynchronized
  have hfl_24 := hts (.fieldLink RX3 24 "TermsFirst$Manual" "before" "[I") (List.mem_cons_of_mem _ (List.mem_append_left _ (List.mem_of_getElem? (i := 1) rfl)))
  have hfl_31 := hts (.fieldLink RX3 31 "TermsFirst$Manual" "n" "I") (List.mem_cons_of_mem _ (List.mem_append_left _ (List.mem_of_getElem? (i := 0) rfl)))
  have hn_8 : va_Nw (.methodLinkNest RX3 43 yX6_with RX6) s := nw_8 hK
  have hin_RX6 : (Cond.initialized yX6_with.cls).before _ s = true := hts (.initialized RX6) (List.mem_cons_of_mem _ (List.mem_append_left _ (List.mem_of_getElem? (i := 3) rfl)))
  have hst_X6_with := hts (.static yX6_with) (List.mem_cons_of_mem _ (List.mem_append_left _ (List.mem_of_getElem? (i := 2) rfl)))
  have hiX3 : ∀ w ∈ u_ws RX3 TX3 6, w ∈ wsX3_respectsPrecedences := fun _ h => (List.mem_cons_of_mem _ (List.mem_append_right _ h))
  have hB_4 : ∀ (fn : Nat) (x2 : Int32) (x3 : Int32), m_X3_respectsPrecedences_4 a_n a_B w_a fn x2 x3 = some r → ∀ ls : Array Slot, lv_has ls 5 [(0, .ref a0), (1, .ref w0), (2, .int x2), (3, .int x3)] → W p l e (headSpec wsX3_respectsPrecedences { frames := 1, cells := 0, slots := 0, locals := 21 }).room s m ([.ref a0, .ref w0] : List Value).toArray below meth c s.heap [] 0 0 (MQ below (qR r) ([.ref a0, .ref w0] : List Value).toArray s 0 0 (fun _ => False)) (F0 m 4 ls []) := by
    intro fn
    induction fn with
    | zero => intro x2 x3 hf; rw [m_X3_respectsPrecedences_4] at hf; cases hf
    | succ fn ih =>
      intro x2 x3 hf ls hl
      rw [m_X3_respectsPrecedences_4] at hf
      refine lv_iload_n hx hb dX3_respectsPrecedences_4 rfl (lv_at hl 3 rfl) ?_
      refine lv_aload_n hx hb dX3_respectsPrecedences_5 rfl (lv_at hl 0 rfl) ?_
      refine va_get (D := D) (ci := 3) (v := .int a_n) (C := RX3) (T := TX3) (N := 6) hx hb hts hiX3 hown hK.1 hP 0 rfl rfl 0 (by decide) hfl_31 (fun _ h9 => h9) rfl dX3_respectsPrecedences_6 ?_
      refine lv_icmp_ge (tgt := 46) hx hb dX3_respectsPrecedences_9 (by decide) (fun hc => ?_) (fun hc => ?_)
      · have hf := ifp hc hf
        refine lv_iconst (v := (nI 1)) hx hb dX3_respectsPrecedences_46 ic_1 ?_
        cases hf
        exact W.zret hx hb hr zbl_1.1 (fun t ht _ => ⟨rfl, ht⟩) (fun _ h => nomatch h) dX3_respectsPrecedences_47
      · have hf := ifn hc hf
        refine lv_aload_n hx hb dX3_respectsPrecedences_12 rfl (lv_at hl 1 rfl) ?_
        refine lv_iload_n hx hb dX3_respectsPrecedences_13 rfl (lv_at hl 3 rfl) ?_
        obtain ⟨hi, hf⟩ := gd_some hf
        refine va_iald hx hb hK.1 hP 6 0 rfl rfl hi dX3_respectsPrecedences_14 ?_
        refine lv_istore (lv' := [(4, .int (w_a x3.toNatClampNeg)), (0, .ref a0), (1, .ref w0), (2, .int x2), (3, .int x3)]) hx hb dX3_respectsPrecedences_15 hl (by decide) rfl (fun ls hl => ?_)
        refine lv_aload_n hx hb dX3_respectsPrecedences_17 rfl (lv_at hl 1 rfl) ?_
        refine va_get (D := D) (ci := 3) (v := .ref a5) (C := RX3) (T := TX3) (N := 6) hx hb hts hiX3 hown hK.1 hP 0 rfl rfl 5 (by decide) hfl_24 (fun _ h9 => h9) rfl dX3_respectsPrecedences_18 ?_
        refine lv_iload hx hb dX3_respectsPrecedences_21 (lv_at hl 0 rfl) ?_
        obtain ⟨hi, hf⟩ := gd_some hf
        refine va_iald hx hb hK.1 hP 5 0 rfl rfl hi dX3_respectsPrecedences_23 ?_
        refine lv_iload_n hx hb dX3_respectsPrecedences_24 rfl (lv_at hl 3 rfl) ?_
        refine lv_iconst (v := (-1 : Int32)) hx hb dX3_respectsPrecedences_25 ic_m1 ?_
        refine lv_ixor hx hb dX3_respectsPrecedences_26 ?_
        refine lv_iand hx hb dX3_respectsPrecedences_27 ?_
        refine lv_if_eq (tgt := 33) hx hb dX3_respectsPrecedences_28 (by decide) (fun hc => ?_) (fun hc => ?_)
        · have hf := ifp hc hf
          refine lv_iload_n hx hb dX3_respectsPrecedences_33 rfl (lv_at hl 3 rfl) ?_
          refine lv_iload hx hb dX3_respectsPrecedences_34 (lv_at hl 0 rfl) ?_
          obtain ⟨rv1, hrv1, hf⟩ := bd hf
          refine roI (va_runSN (As := [.int x2, .int (w_a x3.toNatClampNeg)]) (rest := []) ⟨hx, hb, hml, hown, hts⟩ (c_X6_with l D cI cZ cM x2 (w_a x3.toNatClampNeg) rv1 hrv1) ⟨va_cnB (host := RX6) 2 hts gX3_respectsPrecedences_X6_with_n43 rfl rfl rfl hn_8 hin_RX6 hdc_X6_with ⟨Nat.le_of_ble_eq_true rfl, Nat.le_of_ble_eq_true rfl⟩, hst_X6_with, trivial⟩ (prS hK hP [] rfl) rfl rfl hl.1 rfl (lv_room (Nat.le_of_ble_eq_true rfl)) dX3_respectsPrecedences_36 ⟨Nat.zero_le _, Nat.zero_le _⟩) ?_
          refine lv_istore_n (lv' := [(2, .int rv1), (4, .int (w_a x3.toNatClampNeg)), (0, .ref a0), (1, .ref w0), (3, .int x3)]) hx hb dX3_respectsPrecedences_39 rfl hl (by decide) rfl (fun ls hl => ?_)
          refine lv_iinc (v := (x3 + (nI 1))) (lv' := [(3, .int (x3 + (nI 1))), (2, .int rv1), (4, .int (w_a x3.toNatClampNeg)), (0, .ref a0), (1, .ref w0)]) hx hb dX3_respectsPrecedences_40 hl (k := 4) rfl (ii_1 _) (by decide) rfl (fun ls hl => ?_)
          refine lv_goto (tgt := 4) hx hb dX3_respectsPrecedences_43 (by decide) ?_
          exact ih rv1 (x3 + (nI 1)) hf  ls (lv_sub hl [3, 4, 1, 0] rfl)
        · have hf := ifn hc hf
          refine lv_iconst (v := (nI 0)) hx hb dX3_respectsPrecedences_31 ic_0 ?_
          cases hf
          exact W.zret hx hb hr zbl_0.1 (fun t ht _ => ⟨rfl, ht⟩) (fun _ h => nomatch h) dX3_respectsPrecedences_32
  have hl := lv_entry ([.ref a0, .ref w0]) (n := 5) (Nat.le_of_ble_eq_true rfl)
  rw [lg_entry_eq]
  generalize (lg_sl ([.ref a0, .ref w0]) ++ List.replicate (5 - (lg_sl ([.ref a0, .ref w0])).length) Slot.unset).toArray = ls at hl ⊢
  have hl : lv_has ls 5 [(0, .ref a0), (1, .ref w0)] := hl
  unfold m_X3_respectsPrecedences at hf
  refine lv_iconst (v := (nI 0)) hx hb dX3_respectsPrecedences_0 ic_0 ?_
  refine lv_istore_n (lv' := [(2, .int (nI 0)), (0, .ref a0), (1, .ref w0)]) hx hb dX3_respectsPrecedences_1 rfl hl (by decide) rfl (fun ls hl => ?_)
  refine lv_iconst (v := (nI 0)) hx hb dX3_respectsPrecedences_2 ic_0 ?_
  refine lv_istore_n (lv' := [(3, .int (nI 0)), (2, .int (nI 0)), (0, .ref a0), (1, .ref w0)]) hx hb dX3_respectsPrecedences_3 rfl hl (by decide) rfl (fun ls hl => ?_)
  exact hB_4 fu (nI 0) (nI 0) hf  ls (lv_sub hl [2, 3, 1, 0] rfl)
theorem hdc_X3_takeOrder : yX3_takeOrder.cls ≠ "java/lang/invoke/MethodHandle" ∧ yX3_takeOrder.cls ≠ "java/lang/invoke/VarHandle" ∧ (parseMethodDescriptor yX3_takeOrder.desc).map (fun d => d.parameters.length) = some 1 := by decide +kernel
set_option maxHeartbeats 4000000 in
set_option maxRecDepth 100000 in
theorem c_X3_takeOrder (l : Launch) (D : va_G) (cI cZ cM : ClassId) (a0 a1 a2 a3 a4 a5 w0 : Nat) (sz : Nat) (a_n : Int32) (a_L : Nat → Int32) (a_U : Nat → Int32) (a_H : Nat → Int32) (a_O : Nat → Int32) (a_B : Nat → Int32) (w_a : Nat → Int32) (fu : Nat) (a_O' : Nat → Int32) (hf : m_X3_takeOrder fu a_n a_O w_a = some a_O') : Met l yX3_takeOrder wsX3_takeOrder ({ frames := 0, cells := 0, slots := 0, locals := 0 }) (pM D cI cZ cM sz [(a0, .inr (3, [.int a_n, .ref a1, .ref a2, .ref a3, .ref a4, .ref a5])), (a1, .inl (cI, 10, .inl a_L)), (a2, .inl (cI, 10, .inl a_U)), (a3, .inl (cI, 12, .inl a_H)), (a4, .inl (cI, 10, .inl a_O)), (a5, .inl (cI, 10, .inl a_B)), (w0, .inl (cI, 10, .inl w_a))] [.ref a0, .ref w0]) (qV D [(a0, .inr (3, [.int a_n, .ref a1, .ref a2, .ref a3, .ref a4, .ref a5])), (a1, .inl (cI, 10, .inl a_L)), (a2, .inl (cI, 10, .inl a_U)), (a3, .inl (cI, 12, .inl a_H)), (a4, .inl (cI, 10, .inl a_O')), (a5, .inl (cI, 10, .inl a_B)), (w0, .inl (cI, 10, .inl w_a))] (va_A [(a0, .inr (3, [.int a_n, .ref a1, .ref a2, .ref a3, .ref a4, .ref a5])), (a1, .inl (cI, 10, .inl a_L)), (a2, .inl (cI, 10, .inl a_U)), (a3, .inl (cI, 12, .inl a_H)), (a4, .inl (cI, 10, .inl a_O)), (a5, .inl (cI, 10, .inl a_B)), (w0, .inl (cI, 10, .inl w_a))] sz)) 0 0 (va_A [(a0, .inr (3, [.int a_n, .ref a1, .ref a2, .ref a3, .ref a4, .ref a5])), (a1, .inl (cI, 10, .inl a_L)), (a2, .inl (cI, 10, .inl a_U)), (a3, .inl (cI, 12, .inl a_H)), (a4, .inl (cI, 10, .inl a_O)), (a5, .inl (cI, 10, .inl a_B)), (w0, .inl (cI, 10, .inl w_a))] sz) := by
  refine Met.ofW (cc := cX3_takeOrder) (maxL := 3) (ret := none) (by decide) rfl ?_
  intro p e s m args below meth c s₁ B hml hv
  obtain ⟨rfl, hsz, hP, hK, hD0⟩ := hv
  have hx := B.exec
  have hb := B.bytes
  have hr := B.returns
  have hts := atoms_spec (ws := wsX3_takeOrder) B.pre
  have hown : s.vm.findClass RX3 = some m.cls := findClass_of_methodNamed B.named
  have hlocks := B.notSynchronized
  subst hsz
  have hD := hD0.self (sz := s.heap.size)
  generalize hAe : va_A [(a0, .inr (3, [.int a_n, .ref a1, .ref a2, .ref a3, .ref a4, .ref a5])), (a1, .inl (cI, 10, .inl a_L)), (a2, .inl (cI, 10, .inl a_U)), (a3, .inl (cI, 12, .inl a_H)), (a4, .inl (cI, 10, .inl a_O)), (a5, .inl (cI, 10, .inl a_B)), (w0, .inl (cI, 10, .inl w_a))] s.heap.size = A at hD ⊢
  have hA : ∀ q : Nat, s.heap.size ≤ q → A q := fun q h => by rw [← hAe]; exact Or.inr h
  clear hAe hD0
  have hfl_21 := hts (.fieldLink RX3 21 "TermsFirst$Manual" "order" "[I") (List.mem_cons_of_mem _ (List.mem_append_left _ (List.mem_of_getElem? (i := 1) rfl)))
  have hfl_31 := hts (.fieldLink RX3 31 "TermsFirst$Manual" "n" "I") (List.mem_cons_of_mem _ (List.mem_append_left _ (List.mem_of_getElem? (i := 0) rfl)))
  have hiX3 : ∀ w ∈ u_ws RX3 TX3 6, w ∈ wsX3_takeOrder := fun _ h => (List.mem_cons_of_mem _ (List.mem_append_right _ h))
  have hB_2 : ∀ (fn : Nat) (x2 : Int32) (a_O : Nat → Int32), m_X3_takeOrder_2 a_n w_a fn a_O x2 = some a_O' → ∀ (H : Heap) (locs : List Loc), va_P D vwCl [(a0, .inr (3, [.int a_n, .ref a1, .ref a2, .ref a3, .ref a4, .ref a5])), (a1, .inl (cI, 10, .inl a_L)), (a2, .inl (cI, 10, .inl a_U)), (a3, .inl (cI, 12, .inl a_H)), (a4, .inl (cI, 10, .inl a_O)), (a5, .inl (cI, 10, .inl a_B)), (w0, .inl (cI, 10, .inl w_a))] H → va_D A [(a0, .inr (3, [.int a_n, .ref a1, .ref a2, .ref a3, .ref a4, .ref a5])), (a1, .inl (cI, 10, .inl a_L)), (a2, .inl (cI, 10, .inl a_U)), (a3, .inl (cI, 12, .inl a_H)), (a4, .inl (cI, 10, .inl a_O)), (a5, .inl (cI, 10, .inl a_B)), (w0, .inl (cI, 10, .inl w_a))] → va_S A s.heap H locs → ∀ ls : Array Slot, lv_has ls 3 [(0, .ref a0), (1, .ref w0), (2, .int x2)] → W p l e (headSpec wsX3_takeOrder { frames := 0, cells := 0, slots := 0, locals := 0 }).room s m ([.ref a0, .ref w0] : List Value).toArray below meth c H locs 0 0 (MQ below (qV D [(a0, .inr (3, [.int a_n, .ref a1, .ref a2, .ref a3, .ref a4, .ref a5])), (a1, .inl (cI, 10, .inl a_L)), (a2, .inl (cI, 10, .inl a_U)), (a3, .inl (cI, 12, .inl a_H)), (a4, .inl (cI, 10, .inl a_O')), (a5, .inl (cI, 10, .inl a_B)), (w0, .inl (cI, 10, .inl w_a))] A) ([.ref a0, .ref w0] : List Value).toArray s 0 0 A) (F0 m 2 ls []) := by
    intro fn
    induction fn with
    | zero => intro x2 a_O hf; rw [m_X3_takeOrder_2] at hf; cases hf
    | succ fn ih =>
      intro x2 a_O hf H locs hP hD hS ls hl
      rw [m_X3_takeOrder_2] at hf
      refine lv_iload_n hx hb dX3_takeOrder_2 rfl (lv_at hl 2 rfl) ?_
      refine lv_aload_n hx hb dX3_takeOrder_3 rfl (lv_at hl 0 rfl) ?_
      refine va_get (D := D) (ci := 3) (v := .int a_n) (C := RX3) (T := TX3) (N := 6) hx hb hts hiX3 hown hK.1 hP 0 rfl rfl 0 (by decide) hfl_31 (fun _ h9 => h9) rfl dX3_takeOrder_4 ?_
      refine lv_icmp_ge (tgt := 25) hx hb dX3_takeOrder_7 (by decide) (fun hc => ?_) (fun hc => ?_)
      · have hf := ifp hc hf
        cases hf
        exact W.vret hx hb hr (fun t ht _ => ⟨⟨rfl, by rw [ht]; exact hP, hD⟩, hS.F ht⟩) hS.2.2 dX3_takeOrder_25
      · have hf := ifn hc hf
        refine lv_aload_n hx hb dX3_takeOrder_10 rfl (lv_at hl 0 rfl) ?_
        refine va_get (D := D) (ci := 3) (v := .ref a4) (C := RX3) (T := TX3) (N := 6) hx hb hts hiX3 hown hK.1 hP 0 rfl rfl 4 (by decide) hfl_21 (fun _ h9 => h9) rfl dX3_takeOrder_11 ?_
        refine lv_iload_n hx hb dX3_takeOrder_14 rfl (lv_at hl 2 rfl) ?_
        refine lv_aload_n hx hb dX3_takeOrder_15 rfl (lv_at hl 1 rfl) ?_
        refine lv_iload_n hx hb dX3_takeOrder_16 rfl (lv_at hl 2 rfl) ?_
        obtain ⟨hi, hf⟩ := gd_some hf
        refine va_iald hx hb hK.1 hP 6 0 rfl rfl hi dX3_takeOrder_17 ?_
        obtain ⟨hi, hf⟩ := gd_some hf
        refine va_iast hx hb hK.1 hP hD hS 4 0 rfl rfl hi dX3_takeOrder_18 (fun H locs hP hD hS => ?_)
        have hP : va_P D vwCl [(a0, .inr (3, [.int a_n, .ref a1, .ref a2, .ref a3, .ref a4, .ref a5])), (a1, .inl (cI, 10, .inl a_L)), (a2, .inl (cI, 10, .inl a_U)), (a3, .inl (cI, 12, .inl a_H)), (a4, .inl (cI, 10, .inl (upd a_O x2.toNatClampNeg (w_a x2.toNatClampNeg)))), (a5, .inl (cI, 10, .inl a_B)), (w0, .inl (cI, 10, .inl w_a))] H := hP
        have hD : va_D A [(a0, .inr (3, [.int a_n, .ref a1, .ref a2, .ref a3, .ref a4, .ref a5])), (a1, .inl (cI, 10, .inl a_L)), (a2, .inl (cI, 10, .inl a_U)), (a3, .inl (cI, 12, .inl a_H)), (a4, .inl (cI, 10, .inl (upd a_O x2.toNatClampNeg (w_a x2.toNatClampNeg)))), (a5, .inl (cI, 10, .inl a_B)), (w0, .inl (cI, 10, .inl w_a))] := hD
        refine lv_iinc (v := (x2 + (nI 1))) (lv' := [(2, .int (x2 + (nI 1))), (0, .ref a0), (1, .ref w0)]) hx hb dX3_takeOrder_19 hl (k := 2) rfl (ii_1 _) (by decide) rfl (fun ls hl => ?_)
        refine lv_goto (tgt := 2) hx hb dX3_takeOrder_22 (by decide) ?_
        exact ih (x2 + (nI 1)) (upd a_O x2.toNatClampNeg (w_a x2.toNatClampNeg)) hf _ _ hP hD hS ls (lv_sub hl [1, 2, 0] rfl)
  have hl := lv_entry ([.ref a0, .ref w0]) (n := 3) (Nat.le_of_ble_eq_true rfl)
  rw [lg_entry_eq]
  generalize (lg_sl ([.ref a0, .ref w0]) ++ List.replicate (3 - (lg_sl ([.ref a0, .ref w0])).length) Slot.unset).toArray = ls at hl ⊢
  have hl : lv_has ls 3 [(0, .ref a0), (1, .ref w0)] := hl
  have hS : va_S A s.heap s.heap [] := va_S.rf
  unfold m_X3_takeOrder at hf
  refine lv_iconst (v := (nI 0)) hx hb dX3_takeOrder_0 ic_0 ?_
  refine lv_istore_n (lv' := [(2, .int (nI 0)), (0, .ref a0), (1, .ref w0)]) hx hb dX3_takeOrder_1 rfl hl (by decide) rfl (fun ls hl => ?_)
  exact hB_2 fu (nI 0) a_O hf _ _ hP hD hS ls (lv_sub hl [1, 2, 0] rfl)
