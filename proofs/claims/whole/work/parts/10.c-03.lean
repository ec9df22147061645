theorem hdc_X1_readOrder : yX1_readOrder.cls ≠ "java/lang/invoke/MethodHandle" ∧ yX1_readOrder.cls ≠ "java/lang/invoke/VarHandle" ∧ (parseMethodDescriptor yX1_readOrder.desc).map (fun d => d.parameters.length) = some 1 := by decide +kernel
set_option maxHeartbeats 4000000 in
set_option maxRecDepth 100000 in
theorem c_X1_readOrder (l : Launch) (D : va_G) (cI cZ cM : ClassId) (r0 r1 t0 t1 b0 b1 b2 b3 b4 b5 : Nat) (sz : Nat) (r_cl : Int32) (r_no : Nat → Int32) (t_len : Int32) (t_st : Int32) (t_nx : Int32) (t_kd : Int32) (t_by : Nat → Int32) (b_n : Int32) (b_L : Nat → Int32) (b_U : Nat → Int32) (b_H : Nat → Int32) (b_O : Nat → Int32) (b_B : Nat → Int32) (fu : Nat) (r : Int32) (r_no' : Nat → Int32) (t_st' : Int32) (t_nx' : Int32) (t_kd' : Int32) (b_O' : Nat → Int32) (hf : m_X1_readOrder fu r_no t_len t_st t_nx t_kd t_by b_n b_O b_B = some (r, r_no', t_st', t_nx', t_kd', b_O')) : Met l yX1_readOrder wsX1_readOrder ({ frames := 3, cells := 0, slots := 0, locals := 61 }) (pM D cI cZ cM sz [(r0, .inr (1, [.int r_cl, .ref t0, .ref r1])), (r1, .inl (cI, 10, .inl r_no)), (t0, .inr (5, [.int t_len, .int t_st, .int t_nx, .int t_kd, .ref t1])), (t1, .inl (cI, 200, .inl t_by)), (b0, .inr (3, [.int b_n, .ref b1, .ref b2, .ref b3, .ref b4, .ref b5])), (b1, .inl (cI, 10, .inl b_L)), (b2, .inl (cI, 10, .inl b_U)), (b3, .inl (cI, 12, .inl b_H)), (b4, .inl (cI, 10, .inl b_O)), (b5, .inl (cI, 10, .inl b_B))] [.ref r0, .ref b0]) (qI D r [(r0, .inr (1, [.int r_cl, .ref t0, .ref r1])), (r1, .inl (cI, 10, .inl r_no')), (t0, .inr (5, [.int t_len, .int t_st', .int t_nx', .int t_kd', .ref t1])), (t1, .inl (cI, 200, .inl t_by)), (b0, .inr (3, [.int b_n, .ref b1, .ref b2, .ref b3, .ref b4, .ref b5])), (b1, .inl (cI, 10, .inl b_L)), (b2, .inl (cI, 10, .inl b_U)), (b3, .inl (cI, 12, .inl b_H)), (b4, .inl (cI, 10, .inl b_O')), (b5, .inl (cI, 10, .inl b_B))] (va_A [(r0, .inr (1, [.int r_cl, .ref t0, .ref r1])), (r1, .inl (cI, 10, .inl r_no)), (t0, .inr (5, [.int t_len, .int t_st, .int t_nx, .int t_kd, .ref t1])), (t1, .inl (cI, 200, .inl t_by)), (b0, .inr (3, [.int b_n, .ref b1, .ref b2, .ref b3, .ref b4, .ref b5])), (b1, .inl (cI, 10, .inl b_L)), (b2, .inl (cI, 10, .inl b_U)), (b3, .inl (cI, 12, .inl b_H)), (b4, .inl (cI, 10, .inl b_O)), (b5, .inl (cI, 10, .inl b_B))] sz)) 0 0 (va_A [(r0, .inr (1, [.int r_cl, .ref t0, .ref r1])), (r1, .inl (cI, 10, .inl r_no)), (t0, .inr (5, [.int t_len, .int t_st, .int t_nx, .int t_kd, .ref t1])), (t1, .inl (cI, 200, .inl t_by)), (b0, .inr (3, [.int b_n, .ref b1, .ref b2, .ref b3, .ref b4, .ref b5])), (b1, .inl (cI, 10, .inl b_L)), (b2, .inl (cI, 10, .inl b_U)), (b3, .inl (cI, 12, .inl b_H)), (b4, .inl (cI, 10, .inl b_O)), (b5, .inl (cI, 10, .inl b_B))] sz) := by
  refine Met.ofW (cc := cX1_readOrder) (maxL := 5) (ret := (some .boolean)) (by decide) rfl ?_
  intro p e s m args below meth c s₁ B hml hv
  obtain ⟨rfl, hsz, hP, hK, hD0⟩ := hv
  have hx := B.exec
  have hb := B.bytes
  have hr := B.returns
  have hts := atoms_spec (ws := wsX1_readOrder) B.pre
  have hown : s.vm.findClass RX1 = some m.cls := findClass_of_methodNamed B.named
  have hlocks := B.notSynchronized
  subst hsz
  have hD := hD0.self (sz := s.heap.size)
  generalize hAe : va_A [(r0, .inr (1, [.int r_cl, .ref t0, .ref r1])), (r1, .inl (cI, 10, .inl r_no)), (t0, .inr (5, [.int t_len, .int t_st, .int t_nx, .int t_kd, .ref t1])), (t1, .inl (cI, 200, .inl t_by)), (b0, .inr (3, [.int b_n, .ref b1, .ref b2, .ref b3, .ref b4, .ref b5])), (b1, .inl (cI, 10, .inl b_L)), (b2, .inl (cI, 10, .inl b_U)), (b3, .inl (cI, 12, .inl b_H)), (b4, .inl (cI, 10, .inl b_O)), (b5, .inl (cI, 10, .inl b_B))] s.heap.size = A at hD ⊢
  have hA : ∀ q : Nat, s.heap.size ≤ q → A q := fun q h => by rw [← hAe]; exact Or.inr h
  clear hAe hD0
  have hfl_15 := hts (.fieldLink RX1 15 "TermsFirst$ClauseReader" "newOrder" "[I") (List.mem_cons_of_mem _ (List.mem_append_left _ (List.mem_append_left _ (List.mem_append_left _ (List.mem_append_left _ (List.mem_of_getElem? (i := 1) rfl))))))
  have hfl_83 := hts (.fieldLink RX1 83 "TermsFirst$Manual" "n" "I") (List.mem_cons_of_mem _ (List.mem_append_left _ (List.mem_append_left _ (List.mem_append_left _ (List.mem_append_left _ (List.mem_of_getElem? (i := 0) rfl))))))
  have hn_5 : va_Nw (.methodLinkNest RX1 122 yX6_with RX6) s := nw_5 hK
  have hin_RX6 : (Cond.initialized yX6_with.cls).before _ s = true := hts (.initialized RX6) (List.mem_cons_of_mem _ (List.mem_append_left _ (List.mem_append_left _ (List.mem_append_left _ (List.mem_append_right _ (List.mem_of_getElem? (i := 2) rfl))))))
  have hst_X6_with := hts (.static yX6_with) (List.mem_cons_of_mem _ (List.mem_append_left _ (List.mem_append_left _ (List.mem_append_left _ (List.mem_append_right _ (List.mem_of_getElem? (i := 4) rfl))))))
  have hn_6 : va_Nw (.methodLinkNest RX1 125 yX6_has RX6) s := nw_6 hK
  have hin_RX6 : (Cond.initialized yX6_has.cls).before _ s = true := hts (.initialized RX6) (List.mem_cons_of_mem _ (List.mem_append_left _ (List.mem_append_left _ (List.mem_append_left _ (List.mem_append_right _ (List.mem_of_getElem? (i := 2) rfl))))))
  have hst_X6_has := hts (.static yX6_has) (List.mem_cons_of_mem _ (List.mem_append_left _ (List.mem_append_left _ (List.mem_append_left _ (List.mem_append_right _ (List.mem_of_getElem? (i := 1) rfl))))))
  have hiX1 : ∀ w ∈ u_ws RX1 TX1 3, w ∈ wsX1_readOrder := fun _ h => (List.mem_cons_of_mem _ (List.mem_append_left _ (List.mem_append_right _ h)))
  have hiX3 : ∀ w ∈ u_ws RX3 TX3 6, w ∈ wsX1_readOrder := fun _ h => (List.mem_cons_of_mem _ (List.mem_append_left _ (List.mem_append_left _ (List.mem_append_right _ h))))
  have hB_4 : ∀ (fn : Nat) (x2 : Int32) (x3 : Int32) (r_no : Nat → Int32) (t_st : Int32) (t_nx : Int32) (t_kd : Int32), m_X1_readOrder_4 fu t_len t_by b_n b_O b_B fn r_no t_st t_nx t_kd x2 x3 = some (r, r_no', t_st', t_nx', t_kd', b_O') → ∀ (H : Heap) (locs : List Loc), va_P D vwCl [(r0, .inr (1, [.int r_cl, .ref t0, .ref r1])), (r1, .inl (cI, 10, .inl r_no)), (t0, .inr (5, [.int t_len, .int t_st, .int t_nx, .int t_kd, .ref t1])), (t1, .inl (cI, 200, .inl t_by)), (b0, .inr (3, [.int b_n, .ref b1, .ref b2, .ref b3, .ref b4, .ref b5])), (b1, .inl (cI, 10, .inl b_L)), (b2, .inl (cI, 10, .inl b_U)), (b3, .inl (cI, 12, .inl b_H)), (b4, .inl (cI, 10, .inl b_O)), (b5, .inl (cI, 10, .inl b_B))] H → va_D A [(r0, .inr (1, [.int r_cl, .ref t0, .ref r1])), (r1, .inl (cI, 10, .inl r_no)), (t0, .inr (5, [.int t_len, .int t_st, .int t_nx, .int t_kd, .ref t1])), (t1, .inl (cI, 200, .inl t_by)), (b0, .inr (3, [.int b_n, .ref b1, .ref b2, .ref b3, .ref b4, .ref b5])), (b1, .inl (cI, 10, .inl b_L)), (b2, .inl (cI, 10, .inl b_U)), (b3, .inl (cI, 12, .inl b_H)), (b4, .inl (cI, 10, .inl b_O)), (b5, .inl (cI, 10, .inl b_B))] → va_S A s.heap H locs → ∀ ls : Array Slot, lv_has ls 5 [(0, .ref r0), (1, .ref b0), (2, .int x2), (3, .int x3)] → W p l e (headSpec wsX1_readOrder { frames := 3, cells := 0, slots := 0, locals := 61 }).room s m ([.ref r0, .ref b0] : List Value).toArray below meth c H locs 0 0 (MQ below (qI D r [(r0, .inr (1, [.int r_cl, .ref t0, .ref r1])), (r1, .inl (cI, 10, .inl r_no')), (t0, .inr (5, [.int t_len, .int t_st', .int t_nx', .int t_kd', .ref t1])), (t1, .inl (cI, 200, .inl t_by)), (b0, .inr (3, [.int b_n, .ref b1, .ref b2, .ref b3, .ref b4, .ref b5])), (b1, .inl (cI, 10, .inl b_L)), (b2, .inl (cI, 10, .inl b_U)), (b3, .inl (cI, 12, .inl b_H)), (b4, .inl (cI, 10, .inl b_O')), (b5, .inl (cI, 10, .inl b_B))] A) ([.ref r0, .ref b0] : List Value).toArray s 0 0 A) (F0 m 4 ls []) := by
    intro fn
    induction fn with
    | zero => intro x2 x3 r_no t_st t_nx t_kd hf; rw [m_X1_readOrder_4] at hf; cases hf
    | succ fn ih =>
      intro x2 x3 r_no t_st t_nx t_kd hf H locs hP hD hS ls hl
      rw [m_X1_readOrder_4] at hf
      refine lv_iload_n hx hb dX1_readOrder_4 rfl (lv_at hl 3 rfl) ?_
      refine lv_aload_n hx hb dX1_readOrder_5 rfl (lv_at hl 1 rfl) ?_
      refine va_get (D := D) (ci := 3) (v := .int b_n) (C := RX3) (T := TX3) (N := 6) hx hb hts hiX3 hown hK.1 hP 4 rfl rfl 0 (by decide) hfl_83 (fun _ h9 => h9) rfl dX1_readOrder_6 ?_
      refine lv_icmp_ge (tgt := 57) hx hb dX1_readOrder_9 (by decide) (fun hc => ?_) (fun hc => ?_)
      · have hf := ifp hc hf
        refine lv_aload_n hx hb dX1_readOrder_57 rfl (lv_at hl 1 rfl) ?_
        refine lv_aload_n hx hb dX1_readOrder_58 rfl (lv_at hl 0 rfl) ?_
        refine va_get (D := D) (ci := 1) (v := .ref r1) (C := RX1) (T := TX1) (N := 3) hx hb hts hiX1 hown hK.1 hP 0 rfl rfl 2 (by decide) hfl_15 (fun _ h9 => h9) rfl dX1_readOrder_59 ?_
        obtain ⟨rv1, hrv1, hf⟩ := bd hf
        refine roI (va_runV (As := [.ref r1]) (rest := []) ⟨hx, hb, hml, hown, hts⟩ (c_X3_respectsPrecedences l D cI cZ cM b0 b1 b2 b3 b4 b5 r1 b_n b_L b_U b_H b_O b_B r_no fu rv1 hrv1) (cwV 1 hts gX1_readOrder_X3_respectsPrecedences rfl rfl rfl ⟨rfl, hdc_X3_respectsPrecedences⟩ ⟨Nat.le_of_ble_eq_true rfl, Nat.le_of_ble_eq_true rfl⟩) (prV hK hP [4, 5, 6, 7, 8, 9, 1] rfl (ci := 3) (q0 := 4) rfl rfl) rfl rfl hl.1 rfl (lv_room (Nat.le_of_ble_eq_true rfl)) dX1_readOrder_62 ⟨Nat.zero_le _, Nat.zero_le _⟩) ?_
        refine lv_if_eq (tgt := 76) hx hb dX1_readOrder_65 (by decide) (fun hc => ?_) (fun hc => ?_)
        · have hf := ifp hc hf
          refine lv_iconst (v := (nI 1)) hx hb dX1_readOrder_76 ic_1 ?_
          cases hf
          exact W.zret hx hb hr zbl_1.1 (fun t ht _ => ⟨⟨rfl, by rw [ht]; exact hP, hD⟩, hS.F ht⟩) hS.2.2 dX1_readOrder_77
        · have hf := ifn hc hf
          refine lv_aload_n hx hb dX1_readOrder_68 rfl (lv_at hl 1 rfl) ?_
          refine lv_aload_n hx hb dX1_readOrder_69 rfl (lv_at hl 0 rfl) ?_
          refine va_get (D := D) (ci := 1) (v := .ref r1) (C := RX1) (T := TX1) (N := 3) hx hb hts hiX1 hown hK.1 hP 0 rfl rfl 2 (by decide) hfl_15 (fun _ h9 => h9) rfl dX1_readOrder_70 ?_
          obtain ⟨rv2, hrv2, hf⟩ := bd hf
          refine muV0 (wr := [(r0, .inr (1, [.int r_cl, .ref t0, .ref r1])), (t0, .inr (5, [.int t_len, .int t_st, .int t_nx, .int t_kd, .ref t1])), (t1, .inl (cI, 200, .inl t_by))]) (va_runV (As := [.ref r1]) (rest := []) ⟨hx, hb, hml, hown, hts⟩ (c_X3_takeOrder l D cI cZ cM b0 b1 b2 b3 b4 b5 r1 _ b_n b_L b_U b_H b_O b_B r_no fu rv2 hrv2) (cwV 1 hts gX1_readOrder_X3_takeOrder rfl rfl rfl ⟨rfl, hdc_X3_takeOrder⟩ ⟨Nat.le_of_ble_eq_true rfl, Nat.le_of_ble_eq_true rfl⟩) (pmV hK hP hD [4, 5, 6, 7, 8, 9, 1] (by decide) rfl rfl (ci := 3) (q0 := 4) rfl rfl) rfl rfl hl.1 rfl (lv_room (Nat.le_of_ble_eq_true rfl)) dX1_readOrder_73 ⟨Nat.zero_le _, Nat.zero_le _⟩) hP hD hS hA [4, 5, 6, 7, 8, 9, 1] [0, 2, 3] rfl rfl (by decide) (by decide) (fun H locs hP hD hS => ?_)
          have hP : va_P D vwCl [(r0, .inr (1, [.int r_cl, .ref t0, .ref r1])), (t0, .inr (5, [.int t_len, .int t_st, .int t_nx, .int t_kd, .ref t1])), (t1, .inl (cI, 200, .inl t_by)), (b0, .inr (3, [.int b_n, .ref b1, .ref b2, .ref b3, .ref b4, .ref b5])), (b1, .inl (cI, 10, .inl b_L)), (b2, .inl (cI, 10, .inl b_U)), (b3, .inl (cI, 12, .inl b_H)), (b4, .inl (cI, 10, .inl rv2)), (b5, .inl (cI, 10, .inl b_B)), (r1, .inl (cI, 10, .inl r_no))] H := hP
          have hD : va_D A [(r0, .inr (1, [.int r_cl, .ref t0, .ref r1])), (t0, .inr (5, [.int t_len, .int t_st, .int t_nx, .int t_kd, .ref t1])), (t1, .inl (cI, 200, .inl t_by)), (b0, .inr (3, [.int b_n, .ref b1, .ref b2, .ref b3, .ref b4, .ref b5])), (b1, .inl (cI, 10, .inl b_L)), (b2, .inl (cI, 10, .inl b_U)), (b3, .inl (cI, 12, .inl b_H)), (b4, .inl (cI, 10, .inl rv2)), (b5, .inl (cI, 10, .inl b_B)), (r1, .inl (cI, 10, .inl r_no))] := hD
          refine lv_iconst (v := (nI 1)) hx hb dX1_readOrder_76 ic_1 ?_
          cases hf
          exact W.zret hx hb hr zbl_1.1 (fun t ht _ => ⟨⟨rfl, by rw [ht]; exact (hP.sub [0, 9, 1, 2, 3, 4, 5, 6, 7, 8] rfl), (hD.sub [0, 9, 1, 2, 3, 4, 5, 6, 7, 8] (by decide) rfl)⟩, hS.F ht⟩) hS.2.2 dX1_readOrder_77
      · have hf := ifn hc hf
        refine lv_aload_n hx hb dX1_readOrder_12 rfl (lv_at hl 0 rfl) ?_
        refine lv_aload_n hx hb dX1_readOrder_13 rfl (lv_at hl 1 rfl) ?_
        obtain ⟨rv3, hrv3, hf⟩ := bd hf
        refine muI0 (wr := []) (va_runV (As := [.ref b0]) (rest := []) ⟨hx, hb, hml, hown, hts⟩ (c_X1_takeSection l D cI cZ cM r0 r1 t0 t1 b0 b1 b2 b3 b4 b5 _ r_cl r_no t_len t_st t_nx t_kd t_by b_n b_L b_U b_H b_O b_B fu rv3.1 rv3.2.1 rv3.2.2.1 rv3.2.2.2 hrv3) (cwV 1 hts gX1_readOrder_X1_takeSection rfl rfl rfl ⟨rfl, hdc_X1_takeSection⟩ ⟨Nat.le_of_ble_eq_true rfl, Nat.le_of_ble_eq_true rfl⟩) (pmV hK hP hD [0, 1, 2, 3, 4, 5, 6, 7, 8, 9] (by decide) rfl rfl (ci := 1) (q0 := 0) rfl rfl) rfl rfl hl.1 rfl (lv_room (Nat.le_of_ble_eq_true rfl)) dX1_readOrder_14 ⟨Nat.zero_le _, Nat.zero_le _⟩) hP hD hS hA [0, 1, 2, 3, 4, 5, 6, 7, 8, 9] [] rfl rfl (by decide) (by decide) (fun H locs hP hD hS => ?_)
        have hP : va_P D vwCl [(r0, .inr (1, [.int r_cl, .ref t0, .ref r1])), (r1, .inl (cI, 10, .inl r_no)), (t0, .inr (5, [.int t_len, .int rv3.2.1, .int rv3.2.2.1, .int rv3.2.2.2, .ref t1])), (t1, .inl (cI, 200, .inl t_by)), (b0, .inr (3, [.int b_n, .ref b1, .ref b2, .ref b3, .ref b4, .ref b5])), (b1, .inl (cI, 10, .inl b_L)), (b2, .inl (cI, 10, .inl b_U)), (b3, .inl (cI, 12, .inl b_H)), (b4, .inl (cI, 10, .inl b_O)), (b5, .inl (cI, 10, .inl b_B))] H := hP
        have hD : va_D A [(r0, .inr (1, [.int r_cl, .ref t0, .ref r1])), (r1, .inl (cI, 10, .inl r_no)), (t0, .inr (5, [.int t_len, .int rv3.2.1, .int rv3.2.2.1, .int rv3.2.2.2, .ref t1])), (t1, .inl (cI, 200, .inl t_by)), (b0, .inr (3, [.int b_n, .ref b1, .ref b2, .ref b3, .ref b4, .ref b5])), (b1, .inl (cI, 10, .inl b_L)), (b2, .inl (cI, 10, .inl b_U)), (b3, .inl (cI, 12, .inl b_H)), (b4, .inl (cI, 10, .inl b_O)), (b5, .inl (cI, 10, .inl b_B))] := hD
        refine lv_istore (lv' := [(4, .int rv3.1), (0, .ref r0), (1, .ref b0), (2, .int x2), (3, .int x3)]) hx hb dX1_readOrder_17 hl (by decide) rfl (fun ls hl => ?_)
        refine lv_iload hx hb dX1_readOrder_19 (lv_at hl 0 rfl) ?_
        refine lv_iconst (v := (-1 : Int32)) hx hb dX1_readOrder_21 ic_m1 ?_
        refine lv_icmp_eq (tgt := 34) hx hb dX1_readOrder_22 (by decide) (fun hc => ?_) (fun hc => ?_)
        · have hf := ifp hc hf
          refine lv_iconst (v := (nI 0)) hx hb dX1_readOrder_34 ic_0 ?_
          cases hf
          exact W.zret hx hb hr zbl_0.1 (fun t ht _ => ⟨⟨rfl, by rw [ht]; exact hP, hD⟩, hS.F ht⟩) hS.2.2 dX1_readOrder_35
        · have hf := ifn hc hf
          refine lv_iload_n hx hb dX1_readOrder_25 rfl (lv_at hl 3 rfl) ?_
          refine lv_iload hx hb dX1_readOrder_26 (lv_at hl 0 rfl) ?_
          obtain ⟨rv4, hrv4, hf⟩ := bd hf
          refine roI (va_runSN (As := [.int x2, .int rv3.1]) (rest := []) ⟨hx, hb, hml, hown, hts⟩ (c_X6_has l D cI cZ cM x2 rv3.1 rv4 hrv4) ⟨va_cnB (host := RX6) 2 hts gX1_readOrder_X6_has_n125 rfl rfl rfl hn_6 hin_RX6 hdc_X6_has ⟨Nat.le_of_ble_eq_true rfl, Nat.le_of_ble_eq_true rfl⟩, hst_X6_has, trivial⟩ (prS hK hP [] rfl) rfl rfl hl.1 rfl (lv_room (Nat.le_of_ble_eq_true rfl)) dX1_readOrder_28 ⟨Nat.zero_le _, Nat.zero_le _⟩) ?_
          refine lv_if_eq (tgt := 36) hx hb dX1_readOrder_31 (by decide) (fun hc => ?_) (fun hc => ?_)
          · have hf := ifp hc hf
            refine lv_iload_n hx hb dX1_readOrder_36 rfl (lv_at hl 3 rfl) ?_
            refine lv_iload hx hb dX1_readOrder_37 (lv_at hl 0 rfl) ?_
            obtain ⟨rv5, hrv5, hf⟩ := bd hf
            refine roI (va_runSN (As := [.int x2, .int rv3.1]) (rest := []) ⟨hx, hb, hml, hown, hts⟩ (c_X6_with l D cI cZ cM x2 rv3.1 rv5 hrv5) ⟨va_cnB (host := RX6) 2 hts gX1_readOrder_X6_with_n122 rfl rfl rfl hn_5 hin_RX6 hdc_X6_with ⟨Nat.le_of_ble_eq_true rfl, Nat.le_of_ble_eq_true rfl⟩, hst_X6_with, trivial⟩ (prS hK hP [] rfl) rfl rfl hl.1 rfl (lv_room (Nat.le_of_ble_eq_true rfl)) dX1_readOrder_39 ⟨Nat.zero_le _, Nat.zero_le _⟩) ?_
            refine lv_istore_n (lv' := [(2, .int rv5), (4, .int rv3.1), (0, .ref r0), (1, .ref b0), (3, .int x3)]) hx hb dX1_readOrder_42 rfl hl (by decide) rfl (fun ls hl => ?_)
            refine lv_aload_n hx hb dX1_readOrder_43 rfl (lv_at hl 2 rfl) ?_
            refine va_get (D := D) (ci := 1) (v := .ref r1) (C := RX1) (T := TX1) (N := 3) hx hb hts hiX1 hown hK.1 hP 0 rfl rfl 2 (by decide) hfl_15 (fun _ h9 => h9) rfl dX1_readOrder_44 ?_
            refine lv_iload_n hx hb dX1_readOrder_47 rfl (lv_at hl 4 rfl) ?_
            refine lv_iload hx hb dX1_readOrder_48 (lv_at hl 1 rfl) ?_
            obtain ⟨hi, hf⟩ := gd_some hf
            refine va_iast hx hb hK.1 hP hD hS 1 0 rfl rfl hi dX1_readOrder_50 (fun H locs hP hD hS => ?_)
            have hP : va_P D vwCl [(r0, .inr (1, [.int r_cl, .ref t0, .ref r1])), (r1, .inl (cI, 10, .inl (upd r_no x3.toNatClampNeg rv3.1))), (t0, .inr (5, [.int t_len, .int rv3.2.1, .int rv3.2.2.1, .int rv3.2.2.2, .ref t1])), (t1, .inl (cI, 200, .inl t_by)), (b0, .inr (3, [.int b_n, .ref b1, .ref b2, .ref b3, .ref b4, .ref b5])), (b1, .inl (cI, 10, .inl b_L)), (b2, .inl (cI, 10, .inl b_U)), (b3, .inl (cI, 12, .inl b_H)), (b4, .inl (cI, 10, .inl b_O)), (b5, .inl (cI, 10, .inl b_B))] H := hP
            have hD : va_D A [(r0, .inr (1, [.int r_cl, .ref t0, .ref r1])), (r1, .inl (cI, 10, .inl (upd r_no x3.toNatClampNeg rv3.1))), (t0, .inr (5, [.int t_len, .int rv3.2.1, .int rv3.2.2.1, .int rv3.2.2.2, .ref t1])), (t1, .inl (cI, 200, .inl t_by)), (b0, .inr (3, [.int b_n, .ref b1, .ref b2, .ref b3, .ref b4, .ref b5])), (b1, .inl (cI, 10, .inl b_L)), (b2, .inl (cI, 10, .inl b_U)), (b3, .inl (cI, 12, .inl b_H)), (b4, .inl (cI, 10, .inl b_O)), (b5, .inl (cI, 10, .inl b_B))] := hD
            refine lv_iinc (v := (x3 + (nI 1))) (lv' := [(3, .int (x3 + (nI 1))), (2, .int rv5), (4, .int rv3.1), (0, .ref r0), (1, .ref b0)]) hx hb dX1_readOrder_51 hl (k := 4) rfl (ii_1 _) (by decide) rfl (fun ls hl => ?_)
            refine lv_goto (tgt := 4) hx hb dX1_readOrder_54 (by decide) ?_
            exact ih rv5 (x3 + (nI 1)) (upd r_no x3.toNatClampNeg rv3.1) rv3.2.1 rv3.2.2.1 rv3.2.2.2 hf _ _ hP hD hS ls (lv_sub hl [3, 4, 1, 0] rfl)
          · have hf := ifn hc hf
            refine lv_iconst (v := (nI 0)) hx hb dX1_readOrder_34 ic_0 ?_
            cases hf
            exact W.zret hx hb hr zbl_0.1 (fun t ht _ => ⟨⟨rfl, by rw [ht]; exact hP, hD⟩, hS.F ht⟩) hS.2.2 dX1_readOrder_35
  have hl := lv_entry ([.ref r0, .ref b0]) (n := 5) (Nat.le_of_ble_eq_true rfl)
  rw [lg_entry_eq]
  generalize (lg_sl ([.ref r0, .ref b0]) ++ List.replicate (5 - (lg_sl ([.ref r0, .ref b0])).length) Slot.unset).toArray = ls at hl ⊢
  have hl : lv_has ls 5 [(0, .ref r0), (1, .ref b0)] := hl
  have hS : va_S A s.heap s.heap [] := va_S.rf
  unfold m_X1_readOrder at hf
  refine lv_iconst (v := (nI 0)) hx hb dX1_readOrder_0 ic_0 ?_
  refine lv_istore_n (lv' := [(2, .int (nI 0)), (0, .ref r0), (1, .ref b0)]) hx hb dX1_readOrder_1 rfl hl (by decide) rfl (fun ls hl => ?_)
  refine lv_iconst (v := (nI 0)) hx hb dX1_readOrder_2 ic_0 ?_
  refine lv_istore_n (lv' := [(3, .int (nI 0)), (2, .int (nI 0)), (0, .ref r0), (1, .ref b0)]) hx hb dX1_readOrder_3 rfl hl (by decide) rfl (fun ls hl => ?_)
  exact hB_4 fu (nI 0) (nI 0) r_no t_st t_nx t_kd hf _ _ hP hD hS ls (lv_sub hl [2, 3, 1, 0] rfl)
theorem hdc_X1_readClause : yX1_readClause.cls ≠ "java/lang/invoke/MethodHandle" ∧ yX1_readClause.cls ≠ "java/lang/invoke/VarHandle" ∧ (parseMethodDescriptor yX1_readClause.desc).map (fun d => d.parameters.length) = some 1 := by decide +kernel
set_option maxHeartbeats 4000000 in
set_option maxRecDepth 100000 in
theorem c_X1_readClause (l : Launch) (D : va_G) (cI cZ cM : ClassId) (r0 r1 t0 t1 b0 b1 b2 b3 b4 b5 : Nat) (sz : Nat) (eb : Nat) (adK adV : Nat → Nat) (r_cl : Int32) (r_no : Nat → Int32) (t_len : Int32) (t_st : Int32) (t_nx : Int32) (t_kd : Int32) (t_by : Nat → Int32) (b_n : Int32) (b_L : Nat → Int32) (b_U : Nat → Int32) (b_H : Nat → Int32) (b_O : Nat → Int32) (b_B : Nat → Int32) (fu : Nat) (r : Int32) (r_no' : Nat → Int32) (t_st' : Int32) (t_nx' : Int32) (t_kd' : Int32) (b_n' : Int32) (b_L' : Nat → Int32) (b_U' : Nat → Int32) (b_H' : Nat → Int32) (b_O' : Nat → Int32) (b_B' : Nat → Int32) (hf : m_X1_readClause fu r_no t_len t_st t_nx t_kd t_by b_n b_L b_U b_H b_O b_B = some (r, r_no', t_st', t_nx', t_kd', b_n', b_L', b_U', b_H', b_O', b_B')) : Met l yX1_readClause wsX1_readClause ({ frames := 5, cells := 0, slots := 0, locals := 107 }) (pMs D cI cZ cM sz eb adK adV [(r0, .inr (1, [.int r_cl, .ref t0, .ref r1])), (r1, .inl (cI, 10, .inl r_no)), (t0, .inr (5, [.int t_len, .int t_st, .int t_nx, .int t_kd, .ref t1])), (t1, .inl (cI, 200, .inl t_by)), (b0, .inr (3, [.int b_n, .ref b1, .ref b2, .ref b3, .ref b4, .ref b5])), (b1, .inl (cI, 10, .inl b_L)), (b2, .inl (cI, 10, .inl b_U)), (b3, .inl (cI, 12, .inl b_H)), (b4, .inl (cI, 10, .inl b_O)), (b5, .inl (cI, 10, .inl b_B))] [.ref r0, .ref b0]) (qI D r [(r0, .inr (1, [.int r_cl, .ref t0, .ref r1])), (r1, .inl (cI, 10, .inl r_no')), (t0, .inr (5, [.int t_len, .int t_st', .int t_nx', .int t_kd', .ref t1])), (t1, .inl (cI, 200, .inl t_by)), (b0, .inr (3, [.int b_n', .ref b1, .ref b2, .ref b3, .ref b4, .ref b5])), (b1, .inl (cI, 10, .inl b_L')), (b2, .inl (cI, 10, .inl b_U')), (b3, .inl (cI, 12, .inl b_H')), (b4, .inl (cI, 10, .inl b_O')), (b5, .inl (cI, 10, .inl b_B'))] (va_A [(r0, .inr (1, [.int r_cl, .ref t0, .ref r1])), (r1, .inl (cI, 10, .inl r_no)), (t0, .inr (5, [.int t_len, .int t_st, .int t_nx, .int t_kd, .ref t1])), (t1, .inl (cI, 200, .inl t_by)), (b0, .inr (3, [.int b_n, .ref b1, .ref b2, .ref b3, .ref b4, .ref b5])), (b1, .inl (cI, 10, .inl b_L)), (b2, .inl (cI, 10, .inl b_U)), (b3, .inl (cI, 12, .inl b_H)), (b4, .inl (cI, 10, .inl b_O)), (b5, .inl (cI, 10, .inl b_B))] sz)) 0 0 (va_A [(r0, .inr (1, [.int r_cl, .ref t0, .ref r1])), (r1, .inl (cI, 10, .inl r_no)), (t0, .inr (5, [.int t_len, .int t_st, .int t_nx, .int t_kd, .ref t1])), (t1, .inl (cI, 200, .inl t_by)), (b0, .inr (3, [.int b_n, .ref b1, .ref b2, .ref b3, .ref b4, .ref b5])), (b1, .inl (cI, 10, .inl b_L)), (b2, .inl (cI, 10, .inl b_U)), (b3, .inl (cI, 12, .inl b_H)), (b4, .inl (cI, 10, .inl b_O)), (b5, .inl (cI, 10, .inl b_B))] sz) := by
  refine Met.ofW (cc := cX1_readClause) (maxL := 2) (ret := (some .boolean)) (by decide) rfl ?_
  intro p e s m args below meth c s₁ B hml hv
  obtain ⟨rfl, hsz, hP, hK, hD0, heb, hE⟩ := hv
  have hx := B.exec
  have hb := B.bytes
  have hr := B.returns
  have hts := atoms_spec (ws := wsX1_readClause) B.pre
  have hown : s.vm.findClass RX1 = some m.cls := findClass_of_methodNamed B.named
  have hlocks := B.notSynchronized
  subst hsz
  have hD := hD0.self (sz := s.heap.size)
  generalize hAe : va_A [(r0, .inr (1, [.int r_cl, .ref t0, .ref r1])), (r1, .inl (cI, 10, .inl r_no)), (t0, .inr (5, [.int t_len, .int t_st, .int t_nx, .int t_kd, .ref t1])), (t1, .inl (cI, 200, .inl t_by)), (b0, .inr (3, [.int b_n, .ref b1, .ref b2, .ref b3, .ref b4, .ref b5])), (b1, .inl (cI, 10, .inl b_L)), (b2, .inl (cI, 10, .inl b_U)), (b3, .inl (cI, 12, .inl b_H)), (b4, .inl (cI, 10, .inl b_O)), (b5, .inl (cI, 10, .inl b_B))] s.heap.size = A at hD ⊢
  have hA : ∀ q : Nat, s.heap.size ≤ q → A q := fun q h => by rw [← hAe]; exact Or.inr h
  have hAb : ∀ q, A q → eb ≤ q := fun q h => by
      rw [← hAe] at h
      rcases h with ⟨k, e, h⟩ | h
      · exact hD0.2 k _ h
      · exact Nat.le_trans heb h
  clear hAe hD0
  have hfl_19 := hts (.fieldLink RX1 19 "TermsFirst$ClauseReader" "text" "LTermsFirst$Text;") (List.mem_cons_of_mem _ (List.mem_append_left _ (List.mem_append_left _ (List.mem_append_left _ (List.mem_append_left _ (List.mem_of_getElem? (i := 0) rfl))))))
  have hiX1 : ∀ w ∈ u_ws RX1 TX1 3, w ∈ wsX1_readClause := fun _ h => (List.mem_cons_of_mem _ (List.mem_append_left _ (List.mem_append_left _ (List.mem_append_right _ h))))
  have hl := lv_entry ([.ref r0, .ref b0]) (n := 2) (Nat.le_of_ble_eq_true rfl)
  rw [lg_entry_eq]
  generalize (lg_sl ([.ref r0, .ref b0]) ++ List.replicate (2 - (lg_sl ([.ref r0, .ref b0])).length) Slot.unset).toArray = ls at hl ⊢
  have hl : lv_has ls 2 [(0, .ref r0), (1, .ref b0)] := hl
  have hS : va_S A s.heap s.heap [] := va_S.rf
  unfold m_X1_readClause at hf
  refine lv_aload_n hx hb dX1_readClause_0 rfl (lv_at hl 0 rfl) ?_
  refine va_get (D := D) (ci := 1) (v := .ref t0) (C := RX1) (T := TX1) (N := 3) hx hb hts hiX1 hown hK.1 hP 0 rfl rfl 1 (by decide) hfl_19 (fun _ h9 => h9) rfl dX1_readClause_1 ?_
  refine va_ldcS hx hb hown (hE 0 (by decide)).2 dX1_readClause_4 ?_
  obtain ⟨rv1, hrv1, hf⟩ := bd hf
  refine roI (va_runV (As := [.ref (adK 0)]) (rest := []) ⟨hx, hb, hml, hown, hts⟩ (c_X5_isWord l D cI cZ cM t0 t1 (adK 0) (adV 0) (wlen 0) (wch 0) (wlen_lt 0 (by decide)) (wch_ok 0 (by decide)) t_len t_st t_nx t_kd t_by fu rv1 hrv1) (cwV 1 hts gX1_readClause_X5_isWord rfl rfl rfl ⟨rfl, hdc_X5_isWord⟩ ⟨Nat.le_of_ble_eq_true rfl, Nat.le_of_ble_eq_true rfl⟩) (prVs hK hP [2, 3] rfl (ci := 5) (q0 := 2) rfl rfl (hE.at hAb hS 0 (by decide))) rfl rfl hl.1 rfl (lv_room (Nat.le_of_ble_eq_true rfl)) dX1_readClause_6 ⟨Nat.zero_le _, Nat.zero_le _⟩) ?_
  refine lv_if_eq (tgt := 18) hx hb dX1_readClause_9 (by decide) (fun hc => ?_) (fun hc => ?_)
  · have hf := ifp hc hf
    refine lv_aload_n hx hb dX1_readClause_18 rfl (lv_at hl 0 rfl) ?_
    refine va_get (D := D) (ci := 1) (v := .ref t0) (C := RX1) (T := TX1) (N := 3) hx hb hts hiX1 hown hK.1 hP 0 rfl rfl 1 (by decide) hfl_19 (fun _ h9 => h9) rfl dX1_readClause_19 ?_
    refine va_ldcS hx hb hown (hE 1 (by decide)).2 dX1_readClause_22 ?_
    obtain ⟨rv2, hrv2, hf⟩ := bd hf
    refine roI (va_runV (As := [.ref (adK 1)]) (rest := []) ⟨hx, hb, hml, hown, hts⟩ (c_X5_isWord l D cI cZ cM t0 t1 (adK 1) (adV 1) (wlen 1) (wch 1) (wlen_lt 1 (by decide)) (wch_ok 1 (by decide)) t_len t_st t_nx t_kd t_by fu rv2 hrv2) (cwV 1 hts gX1_readClause_X5_isWord rfl rfl rfl ⟨rfl, hdc_X5_isWord⟩ ⟨Nat.le_of_ble_eq_true rfl, Nat.le_of_ble_eq_true rfl⟩) (prVs hK hP [2, 3] rfl (ci := 5) (q0 := 2) rfl rfl (hE.at hAb hS 1 (by decide))) rfl rfl hl.1 rfl (lv_room (Nat.le_of_ble_eq_true rfl)) dX1_readClause_24 ⟨Nat.zero_le _, Nat.zero_le _⟩) ?_
    refine lv_if_eq (tgt := 36) hx hb dX1_readClause_27 (by decide) (fun hc => ?_) (fun hc => ?_)
    · have hf := ifp hc hf
      refine lv_aload_n hx hb dX1_readClause_36 rfl (lv_at hl 0 rfl) ?_
      refine va_get (D := D) (ci := 1) (v := .ref t0) (C := RX1) (T := TX1) (N := 3) hx hb hts hiX1 hown hK.1 hP 0 rfl rfl 1 (by decide) hfl_19 (fun _ h9 => h9) rfl dX1_readClause_37 ?_
      refine va_ldcS hx hb hown (hE 2 (by decide)).2 dX1_readClause_40 ?_
      obtain ⟨rv3, hrv3, hf⟩ := bd hf
      refine roI (va_runV (As := [.ref (adK 2)]) (rest := []) ⟨hx, hb, hml, hown, hts⟩ (c_X5_isWord l D cI cZ cM t0 t1 (adK 2) (adV 2) (wlen 2) (wch 2) (wlen_lt 2 (by decide)) (wch_ok 2 (by decide)) t_len t_st t_nx t_kd t_by fu rv3 hrv3) (cwV 1 hts gX1_readClause_X5_isWord rfl rfl rfl ⟨rfl, hdc_X5_isWord⟩ ⟨Nat.le_of_ble_eq_true rfl, Nat.le_of_ble_eq_true rfl⟩) (prVs hK hP [2, 3] rfl (ci := 5) (q0 := 2) rfl rfl (hE.at hAb hS 2 (by decide))) rfl rfl hl.1 rfl (lv_room (Nat.le_of_ble_eq_true rfl)) dX1_readClause_42 ⟨Nat.zero_le _, Nat.zero_le _⟩) ?_
      refine lv_if_eq (tgt := 54) hx hb dX1_readClause_45 (by decide) (fun hc => ?_) (fun hc => ?_)
      · have hf := ifp hc hf
        refine lv_aload_n hx hb dX1_readClause_54 rfl (lv_at hl 0 rfl) ?_
        refine va_get (D := D) (ci := 1) (v := .ref t0) (C := RX1) (T := TX1) (N := 3) hx hb hts hiX1 hown hK.1 hP 0 rfl rfl 1 (by decide) hfl_19 (fun _ h9 => h9) rfl dX1_readClause_55 ?_
        refine va_ldcS hx hb hown (hE 3 (by decide)).2 dX1_readClause_58 ?_
        obtain ⟨rv4, hrv4, hf⟩ := bd hf
        refine roI (va_runV (As := [.ref (adK 3)]) (rest := []) ⟨hx, hb, hml, hown, hts⟩ (c_X5_isWord l D cI cZ cM t0 t1 (adK 3) (adV 3) (wlen 3) (wch 3) (wlen_lt 3 (by decide)) (wch_ok 3 (by decide)) t_len t_st t_nx t_kd t_by fu rv4 hrv4) (cwV 1 hts gX1_readClause_X5_isWord rfl rfl rfl ⟨rfl, hdc_X5_isWord⟩ ⟨Nat.le_of_ble_eq_true rfl, Nat.le_of_ble_eq_true rfl⟩) (prVs hK hP [2, 3] rfl (ci := 5) (q0 := 2) rfl rfl (hE.at hAb hS 3 (by decide))) rfl rfl hl.1 rfl (lv_room (Nat.le_of_ble_eq_true rfl)) dX1_readClause_60 ⟨Nat.zero_le _, Nat.zero_le _⟩) ?_
        refine lv_if_eq (tgt := 72) hx hb dX1_readClause_63 (by decide) (fun hc => ?_) (fun hc => ?_)
        · have hf := ifp hc hf
          refine lv_aload_n hx hb dX1_readClause_72 rfl (lv_at hl 0 rfl) ?_
          refine va_get (D := D) (ci := 1) (v := .ref t0) (C := RX1) (T := TX1) (N := 3) hx hb hts hiX1 hown hK.1 hP 0 rfl rfl 1 (by decide) hfl_19 (fun _ h9 => h9) rfl dX1_readClause_73 ?_
          refine va_ldcS hx hb hown (hE 4 (by decide)).2 dX1_readClause_76 ?_
          obtain ⟨rv5, hrv5, hf⟩ := bd hf
          refine roI (va_runV (As := [.ref (adK 4)]) (rest := []) ⟨hx, hb, hml, hown, hts⟩ (c_X5_isWord l D cI cZ cM t0 t1 (adK 4) (adV 4) (wlen 4) (wch 4) (wlen_lt 4 (by decide)) (wch_ok 4 (by decide)) t_len t_st t_nx t_kd t_by fu rv5 hrv5) (cwV 1 hts gX1_readClause_X5_isWord rfl rfl rfl ⟨rfl, hdc_X5_isWord⟩ ⟨Nat.le_of_ble_eq_true rfl, Nat.le_of_ble_eq_true rfl⟩) (prVs hK hP [2, 3] rfl (ci := 5) (q0 := 2) rfl rfl (hE.at hAb hS 4 (by decide))) rfl rfl hl.1 rfl (lv_room (Nat.le_of_ble_eq_true rfl)) dX1_readClause_78 ⟨Nat.zero_le _, Nat.zero_le _⟩) ?_
          refine lv_if_eq (tgt := 90) hx hb dX1_readClause_81 (by decide) (fun hc => ?_) (fun hc => ?_)
          · have hf := ifp hc hf
            refine lv_aload_n hx hb dX1_readClause_90 rfl (lv_at hl 0 rfl) ?_
            refine va_get (D := D) (ci := 1) (v := .ref t0) (C := RX1) (T := TX1) (N := 3) hx hb hts hiX1 hown hK.1 hP 0 rfl rfl 1 (by decide) hfl_19 (fun _ h9 => h9) rfl dX1_readClause_91 ?_
            refine va_ldcS hx hb hown (hE 5 (by decide)).2 dX1_readClause_94 ?_
            obtain ⟨rv6, hrv6, hf⟩ := bd hf
            refine roI (va_runV (As := [.ref (adK 5)]) (rest := []) ⟨hx, hb, hml, hown, hts⟩ (c_X5_isWord l D cI cZ cM t0 t1 (adK 5) (adV 5) (wlen 5) (wch 5) (wlen_lt 5 (by decide)) (wch_ok 5 (by decide)) t_len t_st t_nx t_kd t_by fu rv6 hrv6) (cwV 1 hts gX1_readClause_X5_isWord rfl rfl rfl ⟨rfl, hdc_X5_isWord⟩ ⟨Nat.le_of_ble_eq_true rfl, Nat.le_of_ble_eq_true rfl⟩) (prVs hK hP [2, 3] rfl (ci := 5) (q0 := 2) rfl rfl (hE.at hAb hS 5 (by decide))) rfl rfl hl.1 rfl (lv_room (Nat.le_of_ble_eq_true rfl)) dX1_readClause_96 ⟨Nat.zero_le _, Nat.zero_le _⟩) ?_
            refine lv_if_eq (tgt := 108) hx hb dX1_readClause_99 (by decide) (fun hc => ?_) (fun hc => ?_)
            · have hf := ifp hc hf
              refine lv_iconst (v := (nI 0)) hx hb dX1_readClause_108 ic_0 ?_
              cases hf
              exact W.zret hx hb hr zbl_0.1 (fun t ht _ => ⟨⟨rfl, by rw [ht]; exact hP, hD⟩, hS.F ht⟩) hS.2.2 dX1_readClause_109
            · have hf := ifn hc hf
              refine lv_aload_n hx hb dX1_readClause_102 rfl (lv_at hl 0 rfl) ?_
              refine lv_aload_n hx hb dX1_readClause_103 rfl (lv_at hl 1 rfl) ?_
              obtain ⟨rv7, hrv7, hf⟩ := bd hf
              refine muI0 (wr := []) (va_runV (As := [.ref b0]) (rest := []) ⟨hx, hb, hml, hown, hts⟩ (c_X1_readOrder l D cI cZ cM r0 r1 t0 t1 b0 b1 b2 b3 b4 b5 _ r_cl r_no t_len t_st t_nx t_kd t_by b_n b_L b_U b_H b_O b_B fu rv7.1 rv7.2.1 rv7.2.2.1 rv7.2.2.2.1 rv7.2.2.2.2.1 rv7.2.2.2.2.2 hrv7) (cwV 1 hts gX1_readClause_X1_readOrder rfl rfl rfl ⟨rfl, hdc_X1_readOrder⟩ ⟨Nat.le_of_ble_eq_true rfl, Nat.le_of_ble_eq_true rfl⟩) (pmV hK hP hD [0, 1, 2, 3, 4, 5, 6, 7, 8, 9] (by decide) rfl rfl (ci := 1) (q0 := 0) rfl rfl) rfl rfl hl.1 rfl (lv_room (Nat.le_of_ble_eq_true rfl)) dX1_readClause_104 ⟨Nat.zero_le _, Nat.zero_le _⟩) hP hD hS hA [0, 1, 2, 3, 4, 5, 6, 7, 8, 9] [] rfl rfl (by decide) (by decide) (fun H locs hP hD hS => ?_)
              have hP : va_P D vwCl [(r0, .inr (1, [.int r_cl, .ref t0, .ref r1])), (r1, .inl (cI, 10, .inl rv7.2.1)), (t0, .inr (5, [.int t_len, .int rv7.2.2.1, .int rv7.2.2.2.1, .int rv7.2.2.2.2.1, .ref t1])), (t1, .inl (cI, 200, .inl t_by)), (b0, .inr (3, [.int b_n, .ref b1, .ref b2, .ref b3, .ref b4, .ref b5])), (b1, .inl (cI, 10, .inl b_L)), (b2, .inl (cI, 10, .inl b_U)), (b3, .inl (cI, 12, .inl b_H)), (b4, .inl (cI, 10, .inl rv7.2.2.2.2.2)), (b5, .inl (cI, 10, .inl b_B))] H := hP
              have hD : va_D A [(r0, .inr (1, [.int r_cl, .ref t0, .ref r1])), (r1, .inl (cI, 10, .inl rv7.2.1)), (t0, .inr (5, [.int t_len, .int rv7.2.2.1, .int rv7.2.2.2.1, .int rv7.2.2.2.2.1, .ref t1])), (t1, .inl (cI, 200, .inl t_by)), (b0, .inr (3, [.int b_n, .ref b1, .ref b2, .ref b3, .ref b4, .ref b5])), (b1, .inl (cI, 10, .inl b_L)), (b2, .inl (cI, 10, .inl b_U)), (b3, .inl (cI, 12, .inl b_H)), (b4, .inl (cI, 10, .inl rv7.2.2.2.2.2)), (b5, .inl (cI, 10, .inl b_B))] := hD
              obtain ⟨hz, hf⟩ := zb_some hf
              cases hf
              exact W.zret hx hb hr hz.1 (fun t ht _ => ⟨⟨rfl, by rw [ht]; exact hP, hD⟩, hS.F ht⟩) hS.2.2 dX1_readClause_107
          · have hf := ifn hc hf
            refine lv_aload_n hx hb dX1_readClause_84 rfl (lv_at hl 0 rfl) ?_
            refine lv_aload_n hx hb dX1_readClause_85 rfl (lv_at hl 1 rfl) ?_
            obtain ⟨rv8, hrv8, hf⟩ := bd hf
            refine muI0 (wr := []) (va_runV (As := [.ref b0]) (rest := []) ⟨hx, hb, hml, hown, hts⟩ (c_X1_readAhead l D cI cZ cM r0 r1 t0 t1 b0 b1 b2 b3 b4 b5 _ r_cl r_no t_len t_st t_nx t_kd t_by b_n b_L b_U b_H b_O b_B fu rv8.1 rv8.2.1 rv8.2.2.1 rv8.2.2.2.1 rv8.2.2.2.2 hrv8) (cwV 1 hts gX1_readClause_X1_readAhead rfl rfl rfl ⟨rfl, hdc_X1_readAhead⟩ ⟨Nat.le_of_ble_eq_true rfl, Nat.le_of_ble_eq_true rfl⟩) (pmV hK hP hD [0, 1, 2, 3, 4, 5, 6, 7, 8, 9] (by decide) rfl rfl (ci := 1) (q0 := 0) rfl rfl) rfl rfl hl.1 rfl (lv_room (Nat.le_of_ble_eq_true rfl)) dX1_readClause_86 ⟨Nat.zero_le _, Nat.zero_le _⟩) hP hD hS hA [0, 1, 2, 3, 4, 5, 6, 7, 8, 9] [] rfl rfl (by decide) (by decide) (fun H locs hP hD hS => ?_)
            have hP : va_P D vwCl [(r0, .inr (1, [.int r_cl, .ref t0, .ref r1])), (r1, .inl (cI, 10, .inl r_no)), (t0, .inr (5, [.int t_len, .int rv8.2.1, .int rv8.2.2.1, .int rv8.2.2.2.1, .ref t1])), (t1, .inl (cI, 200, .inl t_by)), (b0, .inr (3, [.int b_n, .ref b1, .ref b2, .ref b3, .ref b4, .ref b5])), (b1, .inl (cI, 10, .inl b_L)), (b2, .inl (cI, 10, .inl b_U)), (b3, .inl (cI, 12, .inl b_H)), (b4, .inl (cI, 10, .inl b_O)), (b5, .inl (cI, 10, .inl rv8.2.2.2.2))] H := hP
            have hD : va_D A [(r0, .inr (1, [.int r_cl, .ref t0, .ref r1])), (r1, .inl (cI, 10, .inl r_no)), (t0, .inr (5, [.int t_len, .int rv8.2.1, .int rv8.2.2.1, .int rv8.2.2.2.1, .ref t1])), (t1, .inl (cI, 200, .inl t_by)), (b0, .inr (3, [.int b_n, .ref b1, .ref b2, .ref b3, .ref b4, .ref b5])), (b1, .inl (cI, 10, .inl b_L)), (b2, .inl (cI, 10, .inl b_U)), (b3, .inl (cI, 12, .inl b_H)), (b4, .inl (cI, 10, .inl b_O)), (b5, .inl (cI, 10, .inl rv8.2.2.2.2))] := hD
            obtain ⟨hz, hf⟩ := zb_some hf
            cases hf
            exact W.zret hx hb hr hz.1 (fun t ht _ => ⟨⟨rfl, by rw [ht]; exact hP, hD⟩, hS.F ht⟩) hS.2.2 dX1_readClause_89
        · have hf := ifn hc hf
          refine lv_aload_n hx hb dX1_readClause_66 rfl (lv_at hl 0 rfl) ?_
          refine lv_aload_n hx hb dX1_readClause_67 rfl (lv_at hl 1 rfl) ?_
          obtain ⟨rv9, hrv9, hf⟩ := bd hf
          refine muI0 (wr := []) (va_runV (As := [.ref b0]) (rest := []) ⟨hx, hb, hml, hown, hts⟩ (c_X1_readUses l D cI cZ cM r0 r1 t0 t1 b0 b1 b2 b3 b4 b5 _ r_cl r_no t_len t_st t_nx t_kd t_by b_n b_L b_U b_H b_O b_B fu rv9.1 rv9.2.1 rv9.2.2.1 rv9.2.2.2.1 rv9.2.2.2.2 hrv9) (cwV 1 hts gX1_readClause_X1_readUses rfl rfl rfl ⟨rfl, hdc_X1_readUses⟩ ⟨Nat.le_of_ble_eq_true rfl, Nat.le_of_ble_eq_true rfl⟩) (pmV hK hP hD [0, 1, 2, 3, 4, 5, 6, 7, 8, 9] (by decide) rfl rfl (ci := 1) (q0 := 0) rfl rfl) rfl rfl hl.1 rfl (lv_room (Nat.le_of_ble_eq_true rfl)) dX1_readClause_68 ⟨Nat.zero_le _, Nat.zero_le _⟩) hP hD hS hA [0, 1, 2, 3, 4, 5, 6, 7, 8, 9] [] rfl rfl (by decide) (by decide) (fun H locs hP hD hS => ?_)
          have hP : va_P D vwCl [(r0, .inr (1, [.int r_cl, .ref t0, .ref r1])), (r1, .inl (cI, 10, .inl r_no)), (t0, .inr (5, [.int t_len, .int rv9.2.1, .int rv9.2.2.1, .int rv9.2.2.2.1, .ref t1])), (t1, .inl (cI, 200, .inl t_by)), (b0, .inr (3, [.int b_n, .ref b1, .ref b2, .ref b3, .ref b4, .ref b5])), (b1, .inl (cI, 10, .inl b_L)), (b2, .inl (cI, 10, .inl rv9.2.2.2.2)), (b3, .inl (cI, 12, .inl b_H)), (b4, .inl (cI, 10, .inl b_O)), (b5, .inl (cI, 10, .inl b_B))] H := hP
          have hD : va_D A [(r0, .inr (1, [.int r_cl, .ref t0, .ref r1])), (r1, .inl (cI, 10, .inl r_no)), (t0, .inr (5, [.int t_len, .int rv9.2.1, .int rv9.2.2.1, .int rv9.2.2.2.1, .ref t1])), (t1, .inl (cI, 200, .inl t_by)), (b0, .inr (3, [.int b_n, .ref b1, .ref b2, .ref b3, .ref b4, .ref b5])), (b1, .inl (cI, 10, .inl b_L)), (b2, .inl (cI, 10, .inl rv9.2.2.2.2)), (b3, .inl (cI, 12, .inl b_H)), (b4, .inl (cI, 10, .inl b_O)), (b5, .inl (cI, 10, .inl b_B))] := hD
          obtain ⟨hz, hf⟩ := zb_some hf
          cases hf
          exact W.zret hx hb hr hz.1 (fun t ht _ => ⟨⟨rfl, by rw [ht]; exact hP, hD⟩, hS.F ht⟩) hS.2.2 dX1_readClause_71
      · have hf := ifn hc hf
        refine lv_aload_n hx hb dX1_readClause_48 rfl (lv_at hl 0 rfl) ?_
        refine lv_aload_n hx hb dX1_readClause_49 rfl (lv_at hl 1 rfl) ?_
        obtain ⟨rv10, hrv10, hf⟩ := bd hf
        refine muI0 (wr := []) (va_runV (As := [.ref b0]) (rest := []) ⟨hx, hb, hml, hown, hts⟩ (c_X1_readHome l D cI cZ cM r0 r1 t0 t1 b0 b1 b2 b3 b4 b5 _ r_cl r_no t_len t_st t_nx t_kd t_by b_n b_L b_U b_H b_O b_B fu rv10.1 rv10.2.1 rv10.2.2.1 rv10.2.2.2.1 rv10.2.2.2.2 hrv10) (cwV 1 hts gX1_readClause_X1_readHome rfl rfl rfl ⟨rfl, hdc_X1_readHome⟩ ⟨Nat.le_of_ble_eq_true rfl, Nat.le_of_ble_eq_true rfl⟩) (pmV hK hP hD [0, 1, 2, 3, 4, 5, 6, 7, 8, 9] (by decide) rfl rfl (ci := 1) (q0 := 0) rfl rfl) rfl rfl hl.1 rfl (lv_room (Nat.le_of_ble_eq_true rfl)) dX1_readClause_50 ⟨Nat.zero_le _, Nat.zero_le _⟩) hP hD hS hA [0, 1, 2, 3, 4, 5, 6, 7, 8, 9] [] rfl rfl (by decide) (by decide) (fun H locs hP hD hS => ?_)
        have hP : va_P D vwCl [(r0, .inr (1, [.int r_cl, .ref t0, .ref r1])), (r1, .inl (cI, 10, .inl r_no)), (t0, .inr (5, [.int t_len, .int rv10.2.1, .int rv10.2.2.1, .int rv10.2.2.2.1, .ref t1])), (t1, .inl (cI, 200, .inl t_by)), (b0, .inr (3, [.int b_n, .ref b1, .ref b2, .ref b3, .ref b4, .ref b5])), (b1, .inl (cI, 10, .inl b_L)), (b2, .inl (cI, 10, .inl b_U)), (b3, .inl (cI, 12, .inl rv10.2.2.2.2)), (b4, .inl (cI, 10, .inl b_O)), (b5, .inl (cI, 10, .inl b_B))] H := hP
        have hD : va_D A [(r0, .inr (1, [.int r_cl, .ref t0, .ref r1])), (r1, .inl (cI, 10, .inl r_no)), (t0, .inr (5, [.int t_len, .int rv10.2.1, .int rv10.2.2.1, .int rv10.2.2.2.1, .ref t1])), (t1, .inl (cI, 200, .inl t_by)), (b0, .inr (3, [.int b_n, .ref b1, .ref b2, .ref b3, .ref b4, .ref b5])), (b1, .inl (cI, 10, .inl b_L)), (b2, .inl (cI, 10, .inl b_U)), (b3, .inl (cI, 12, .inl rv10.2.2.2.2)), (b4, .inl (cI, 10, .inl b_O)), (b5, .inl (cI, 10, .inl b_B))] := hD
        obtain ⟨hz, hf⟩ := zb_some hf
        cases hf
        exact W.zret hx hb hr hz.1 (fun t ht _ => ⟨⟨rfl, by rw [ht]; exact hP, hD⟩, hS.F ht⟩) hS.2.2 dX1_readClause_53
    · have hf := ifn hc hf
      refine lv_aload_n hx hb dX1_readClause_30 rfl (lv_at hl 0 rfl) ?_
      refine lv_aload_n hx hb dX1_readClause_31 rfl (lv_at hl 1 rfl) ?_
      obtain ⟨rv11, hrv11, hf⟩ := bd hf
      refine muI0 (wr := []) (va_runV (As := [.ref b0]) (rest := []) ⟨hx, hb, hml, hown, hts⟩ (c_X1_readPages l D cI cZ cM r0 r1 t0 t1 b0 b1 b2 b3 b4 b5 _ r_cl r_no t_len t_st t_nx t_kd t_by b_n b_L b_U b_H b_O b_B fu rv11.1 rv11.2.1 rv11.2.2.1 rv11.2.2.2.1 rv11.2.2.2.2 hrv11) (cwV 1 hts gX1_readClause_X1_readPages rfl rfl rfl ⟨rfl, hdc_X1_readPages⟩ ⟨Nat.le_of_ble_eq_true rfl, Nat.le_of_ble_eq_true rfl⟩) (pmV hK hP hD [0, 1, 2, 3, 4, 5, 6, 7, 8, 9] (by decide) rfl rfl (ci := 1) (q0 := 0) rfl rfl) rfl rfl hl.1 rfl (lv_room (Nat.le_of_ble_eq_true rfl)) dX1_readClause_32 ⟨Nat.zero_le _, Nat.zero_le _⟩) hP hD hS hA [0, 1, 2, 3, 4, 5, 6, 7, 8, 9] [] rfl rfl (by decide) (by decide) (fun H locs hP hD hS => ?_)
      have hP : va_P D vwCl [(r0, .inr (1, [.int r_cl, .ref t0, .ref r1])), (r1, .inl (cI, 10, .inl r_no)), (t0, .inr (5, [.int t_len, .int rv11.2.1, .int rv11.2.2.1, .int rv11.2.2.2.1, .ref t1])), (t1, .inl (cI, 200, .inl t_by)), (b0, .inr (3, [.int b_n, .ref b1, .ref b2, .ref b3, .ref b4, .ref b5])), (b1, .inl (cI, 10, .inl rv11.2.2.2.2)), (b2, .inl (cI, 10, .inl b_U)), (b3, .inl (cI, 12, .inl b_H)), (b4, .inl (cI, 10, .inl b_O)), (b5, .inl (cI, 10, .inl b_B))] H := hP
      have hD : va_D A [(r0, .inr (1, [.int r_cl, .ref t0, .ref r1])), (r1, .inl (cI, 10, .inl r_no)), (t0, .inr (5, [.int t_len, .int rv11.2.1, .int rv11.2.2.1, .int rv11.2.2.2.1, .ref t1])), (t1, .inl (cI, 200, .inl t_by)), (b0, .inr (3, [.int b_n, .ref b1, .ref b2, .ref b3, .ref b4, .ref b5])), (b1, .inl (cI, 10, .inl rv11.2.2.2.2)), (b2, .inl (cI, 10, .inl b_U)), (b3, .inl (cI, 12, .inl b_H)), (b4, .inl (cI, 10, .inl b_O)), (b5, .inl (cI, 10, .inl b_B))] := hD
      obtain ⟨hz, hf⟩ := zb_some hf
      cases hf
      exact W.zret hx hb hr hz.1 (fun t ht _ => ⟨⟨rfl, by rw [ht]; exact hP, hD⟩, hS.F ht⟩) hS.2.2 dX1_readClause_35
  · have hf := ifn hc hf
    refine lv_aload_n hx hb dX1_readClause_12 rfl (lv_at hl 0 rfl) ?_
    refine lv_aload_n hx hb dX1_readClause_13 rfl (lv_at hl 1 rfl) ?_
    obtain ⟨rv12, hrv12, hf⟩ := bd hf
    refine muI0 (wr := []) (va_runV (As := [.ref b0]) (rest := []) ⟨hx, hb, hml, hown, hts⟩ (c_X1_readSections l D cI cZ cM r0 r1 t0 t1 b0 b1 b2 b3 b4 b5 _ r_cl r_no t_len t_st t_nx t_kd t_by b_n b_L b_U b_H b_O b_B fu rv12.1 rv12.2.1 rv12.2.2.1 rv12.2.2.2.1 rv12.2.2.2.2.1 rv12.2.2.2.2.2.1 rv12.2.2.2.2.2.2.1 rv12.2.2.2.2.2.2.2.1 rv12.2.2.2.2.2.2.2.2.1 rv12.2.2.2.2.2.2.2.2.2 hrv12) (cwV 1 hts gX1_readClause_X1_readSections rfl rfl rfl ⟨rfl, hdc_X1_readSections⟩ ⟨Nat.le_of_ble_eq_true rfl, Nat.le_of_ble_eq_true rfl⟩) (pmV hK hP hD [0, 1, 2, 3, 4, 5, 6, 7, 8, 9] (by decide) rfl rfl (ci := 1) (q0 := 0) rfl rfl) rfl rfl hl.1 rfl (lv_room (Nat.le_of_ble_eq_true rfl)) dX1_readClause_14 ⟨Nat.zero_le _, Nat.zero_le _⟩) hP hD hS hA [0, 1, 2, 3, 4, 5, 6, 7, 8, 9] [] rfl rfl (by decide) (by decide) (fun H locs hP hD hS => ?_)
    have hP : va_P D vwCl [(r0, .inr (1, [.int r_cl, .ref t0, .ref r1])), (r1, .inl (cI, 10, .inl r_no)), (t0, .inr (5, [.int t_len, .int rv12.2.1, .int rv12.2.2.1, .int rv12.2.2.2.1, .ref t1])), (t1, .inl (cI, 200, .inl t_by)), (b0, .inr (3, [.int rv12.2.2.2.2.1, .ref b1, .ref b2, .ref b3, .ref b4, .ref b5])), (b1, .inl (cI, 10, .inl rv12.2.2.2.2.2.1)), (b2, .inl (cI, 10, .inl rv12.2.2.2.2.2.2.1)), (b3, .inl (cI, 12, .inl rv12.2.2.2.2.2.2.2.1)), (b4, .inl (cI, 10, .inl rv12.2.2.2.2.2.2.2.2.1)), (b5, .inl (cI, 10, .inl rv12.2.2.2.2.2.2.2.2.2))] H := hP
    have hD : va_D A [(r0, .inr (1, [.int r_cl, .ref t0, .ref r1])), (r1, .inl (cI, 10, .inl r_no)), (t0, .inr (5, [.int t_len, .int rv12.2.1, .int rv12.2.2.1, .int rv12.2.2.2.1, .ref t1])), (t1, .inl (cI, 200, .inl t_by)), (b0, .inr (3, [.int rv12.2.2.2.2.1, .ref b1, .ref b2, .ref b3, .ref b4, .ref b5])), (b1, .inl (cI, 10, .inl rv12.2.2.2.2.2.1)), (b2, .inl (cI, 10, .inl rv12.2.2.2.2.2.2.1)), (b3, .inl (cI, 12, .inl rv12.2.2.2.2.2.2.2.1)), (b4, .inl (cI, 10, .inl rv12.2.2.2.2.2.2.2.2.1)), (b5, .inl (cI, 10, .inl rv12.2.2.2.2.2.2.2.2.2))] := hD
    obtain ⟨hz, hf⟩ := zb_some hf
    cases hf
    exact W.zret hx hb hr hz.1 (fun t ht _ => ⟨⟨rfl, by rw [ht]; exact hP, hD⟩, hS.F ht⟩) hS.2.2 dX1_readClause_17
theorem hdc_X5_isEnd : yX5_isEnd.cls ≠ "java/lang/invoke/MethodHandle" ∧ yX5_isEnd.cls ≠ "java/lang/invoke/VarHandle" ∧ (parseMethodDescriptor yX5_isEnd.desc).map (fun d => d.parameters.length) = some 0 := by decide +kernel
set_option maxHeartbeats 4000000 in
set_option maxRecDepth 100000 in
theorem c_X5_isEnd (l : Launch) (D : va_G) (cI cZ cM : ClassId) (t0 t1 : Nat) (t_len : Int32) (t_st : Int32) (t_nx : Int32) (t_kd : Int32) (t_by : Nat → Int32) (r : Int32) (hf : m_X5_isEnd t_kd = some r) : Met l yX5_isEnd wsX5_isEnd ({ frames := 0, cells := 0, slots := 0, locals := 0 }) (pR D cI cZ cM [(t0, .inr (5, [.int t_len, .int t_st, .int t_nx, .int t_kd, .ref t1])), (t1, .inl (cI, 200, .inl t_by))] [.ref t0]) (qR r) 0 0 (fun _ => False) := by
  refine Met.ofW (cc := cX5_isEnd) (maxL := 1) (ret := (some .boolean)) (by decide) rfl ?_
  intro p e s m args below meth c s₁ B hml hv
  obtain ⟨rfl, hP, hK⟩ := hv
  have hx := B.exec
  have hb := B.bytes
  have hr := B.returns
  have hts := atoms_spec (ws := wsX5_isEnd) B.pre
  have hown : s.vm.findClass RX5 = some m.cls := findClass_of_methodNamed B.named
  have hlocks := B.notSynchronized
  have hfl_21 := hts (.fieldLink RX5 21 "TermsFirst$Text" "kind" "I") (List.mem_cons_of_mem _ (List.mem_append_left _ (List.mem_of_getElem? (i := 0) rfl)))
  have hiX5 : ∀ w ∈ u_ws RX5 TX5 5, w ∈ wsX5_isEnd := fun _ h => (List.mem_cons_of_mem _ (List.mem_append_right _ h))
  have hl := lv_entry ([.ref t0]) (n := 1) (Nat.le_of_ble_eq_true rfl)
  rw [lg_entry_eq]
  generalize (lg_sl ([.ref t0]) ++ List.replicate (1 - (lg_sl ([.ref t0])).length) Slot.unset).toArray = ls at hl ⊢
  have hl : lv_has ls 1 [(0, .ref t0)] := hl
  unfold m_X5_isEnd at hf
  refine lv_aload_n hx hb dX5_isEnd_0 rfl (lv_at hl 0 rfl) ?_
  refine va_get (D := D) (ci := 5) (v := .int t_kd) (C := RX5) (T := TX5) (N := 5) hx hb hts hiX5 hown hK.1 hP 0 rfl rfl 3 (by decide) hfl_21 (fun _ h9 => h9) rfl dX5_isEnd_1 ?_
  refine lv_if_ne (tgt := 11) hx hb dX5_isEnd_4 (by decide) (fun hc => ?_) (fun hc => ?_)
  · have hf := ifn hc hf
    refine lv_iconst (v := (nI 0)) hx hb dX5_isEnd_11 ic_0 ?_
    cases hf
    exact W.zret hx hb hr zbl_0.1 (fun t ht _ => ⟨rfl, ht⟩) (fun _ h => nomatch h) dX5_isEnd_12
  · have hf := ifp hc hf
    refine lv_iconst (v := (nI 1)) hx hb dX5_isEnd_7 ic_1 ?_
    refine lv_goto (tgt := 12) hx hb dX5_isEnd_8 (by decide) ?_
    cases hf
    exact W.zret hx hb hr zbl_1.1 (fun t ht _ => ⟨rfl, ht⟩) (fun _ h => nomatch h) dX5_isEnd_12
theorem hdc_X5_isSemicolon : yX5_isSemicolon.cls ≠ "java/lang/invoke/MethodHandle" ∧ yX5_isSemicolon.cls ≠ "java/lang/invoke/VarHandle" ∧ (parseMethodDescriptor yX5_isSemicolon.desc).map (fun d => d.parameters.length) = some 0 := by decide +kernel
set_option maxHeartbeats 4000000 in
set_option maxRecDepth 100000 in
theorem c_X5_isSemicolon (l : Launch) (D : va_G) (cI cZ cM : ClassId) (t0 t1 : Nat) (t_len : Int32) (t_st : Int32) (t_nx : Int32) (t_kd : Int32) (t_by : Nat → Int32) (r : Int32) (hf : m_X5_isSemicolon t_st t_kd t_by = some r) : Met l yX5_isSemicolon wsX5_isSemicolon ({ frames := 0, cells := 0, slots := 0, locals := 0 }) (pR D cI cZ cM [(t0, .inr (5, [.int t_len, .int t_st, .int t_nx, .int t_kd, .ref t1])), (t1, .inl (cI, 200, .inl t_by))] [.ref t0]) (qR r) 0 0 (fun _ => False) := by
  refine Met.ofW (cc := cX5_isSemicolon) (maxL := 1) (ret := (some .boolean)) (by decide) rfl ?_
  intro p e s m args below meth c s₁ B hml hv
  obtain ⟨rfl, hP, hK⟩ := hv
  have hx := B.exec
  have hb := B.bytes
  have hr := B.returns
  have hts := atoms_spec (ws := wsX5_isSemicolon) B.pre
  have hown : s.vm.findClass RX5 = some m.cls := findClass_of_methodNamed B.named
  have hlocks := B.notSynchronized
  have hfl_15 := hts (.fieldLink RX5 15 "TermsFirst$Text" "start" "I") (List.mem_cons_of_mem _ (List.mem_append_left _ (List.mem_of_getElem? (i := 2) rfl)))
  have hfl_21 := hts (.fieldLink RX5 21 "TermsFirst$Text" "kind" "I") (List.mem_cons_of_mem _ (List.mem_append_left _ (List.mem_of_getElem? (i := 0) rfl)))
  have hfl_24 := hts (.fieldLink RX5 24 "TermsFirst$Text" "bytes" "[I") (List.mem_cons_of_mem _ (List.mem_append_left _ (List.mem_of_getElem? (i := 1) rfl)))
  have hiX5 : ∀ w ∈ u_ws RX5 TX5 5, w ∈ wsX5_isSemicolon := fun _ h => (List.mem_cons_of_mem _ (List.mem_append_right _ h))
  have hl := lv_entry ([.ref t0]) (n := 1) (Nat.le_of_ble_eq_true rfl)
  rw [lg_entry_eq]
  generalize (lg_sl ([.ref t0]) ++ List.replicate (1 - (lg_sl ([.ref t0])).length) Slot.unset).toArray = ls at hl ⊢
  have hl : lv_has ls 1 [(0, .ref t0)] := hl
  unfold m_X5_isSemicolon at hf
  refine lv_aload_n hx hb dX5_isSemicolon_0 rfl (lv_at hl 0 rfl) ?_
  refine va_get (D := D) (ci := 5) (v := .int t_kd) (C := RX5) (T := TX5) (N := 5) hx hb hts hiX5 hown hK.1 hP 0 rfl rfl 3 (by decide) hfl_21 (fun _ h9 => h9) rfl dX5_isSemicolon_1 ?_
  refine lv_iconst (v := (nI 3)) hx hb dX5_isSemicolon_4 ic_3 ?_
  refine lv_icmp_ne (tgt := 26) hx hb dX5_isSemicolon_5 (by decide) (fun hc => ?_) (fun hc => ?_)
  · have hf := ifn hc hf
    refine lv_iconst (v := (nI 0)) hx hb dX5_isSemicolon_26 ic_0 ?_
    cases hf
    exact W.zret hx hb hr zbl_0.1 (fun t ht _ => ⟨rfl, ht⟩) (fun _ h => nomatch h) dX5_isSemicolon_27
  · have hf := ifp hc hf
    refine lv_aload_n hx hb dX5_isSemicolon_8 rfl (lv_at hl 0 rfl) ?_
    refine va_get (D := D) (ci := 5) (v := .ref t1) (C := RX5) (T := TX5) (N := 5) hx hb hts hiX5 hown hK.1 hP 0 rfl rfl 4 (by decide) hfl_24 (fun _ h9 => h9) rfl dX5_isSemicolon_9 ?_
    refine lv_aload_n hx hb dX5_isSemicolon_12 rfl (lv_at hl 0 rfl) ?_
    refine va_get (D := D) (ci := 5) (v := .int t_st) (C := RX5) (T := TX5) (N := 5) hx hb hts hiX5 hown hK.1 hP 0 rfl rfl 1 (by decide) hfl_15 (fun _ h9 => h9) rfl dX5_isSemicolon_13 ?_
    obtain ⟨hi, hf⟩ := gd_some hf
    refine va_iald hx hb hK.1 hP 1 0 rfl rfl hi dX5_isSemicolon_16 ?_
    refine lv_bipush (v := (nI 59)) hx hb dX5_isSemicolon_17 bp_59 ?_
    refine lv_icmp_ne (tgt := 26) hx hb dX5_isSemicolon_19 (by decide) (fun hc => ?_) (fun hc => ?_)
    · have hf := ifn hc hf
      refine lv_iconst (v := (nI 0)) hx hb dX5_isSemicolon_26 ic_0 ?_
      cases hf
      exact W.zret hx hb hr zbl_0.1 (fun t ht _ => ⟨rfl, ht⟩) (fun _ h => nomatch h) dX5_isSemicolon_27
    · have hf := ifp hc hf
      refine lv_iconst (v := (nI 1)) hx hb dX5_isSemicolon_22 ic_1 ?_
      refine lv_goto (tgt := 27) hx hb dX5_isSemicolon_23 (by decide) ?_
      cases hf
      exact W.zret hx hb hr zbl_1.1 (fun t ht _ => ⟨rfl, ht⟩) (fun _ h => nomatch h) dX5_isSemicolon_27
theorem hdc_X1_carryOut : yX1_carryOut.cls ≠ "java/lang/invoke/MethodHandle" ∧ yX1_carryOut.cls ≠ "java/lang/invoke/VarHandle" ∧ (parseMethodDescriptor yX1_carryOut.desc).map (fun d => d.parameters.length) = some 1 := by decide +kernel
set_option maxHeartbeats 4000000 in
set_option maxRecDepth 100000 in
theorem c_X1_carryOut (l : Launch) (D : va_G) (cI cZ cM : ClassId) (r0 r1 t0 t1 b0 b1 b2 b3 b4 b5 : Nat) (sz : Nat) (eb : Nat) (adK adV : Nat → Nat) (r_cl : Int32) (r_no : Nat → Int32) (t_len : Int32) (t_st : Int32) (t_nx : Int32) (t_kd : Int32) (t_by : Nat → Int32) (b_n : Int32) (b_L : Nat → Int32) (b_U : Nat → Int32) (b_H : Nat → Int32) (b_O : Nat → Int32) (b_B : Nat → Int32) (fu : Nat) (r : Int32) (r_cl' : Int32) (r_no' : Nat → Int32) (t_st' : Int32) (t_nx' : Int32) (t_kd' : Int32) (b_n' : Int32) (b_L' : Nat → Int32) (b_U' : Nat → Int32) (b_H' : Nat → Int32) (b_O' : Nat → Int32) (b_B' : Nat → Int32) (hf : m_X1_carryOut fu r_cl r_no t_len t_st t_kd t_by b_n b_L b_U b_H b_O b_B = some (r, r_cl', r_no', t_st', t_nx', t_kd', b_n', b_L', b_U', b_H', b_O', b_B')) : Met l yX1_carryOut wsX1_carryOut ({ frames := 6, cells := 0, slots := 0, locals := 128 }) (pMs D cI cZ cM sz eb adK adV [(r0, .inr (1, [.int r_cl, .ref t0, .ref r1])), (r1, .inl (cI, 10, .inl r_no)), (t0, .inr (5, [.int t_len, .int t_st, .int t_nx, .int t_kd, .ref t1])), (t1, .inl (cI, 200, .inl t_by)), (b0, .inr (3, [.int b_n, .ref b1, .ref b2, .ref b3, .ref b4, .ref b5])), (b1, .inl (cI, 10, .inl b_L)), (b2, .inl (cI, 10, .inl b_U)), (b3, .inl (cI, 12, .inl b_H)), (b4, .inl (cI, 10, .inl b_O)), (b5, .inl (cI, 10, .inl b_B))] [.ref r0, .ref b0]) (qI D r [(r0, .inr (1, [.int r_cl', .ref t0, .ref r1])), (r1, .inl (cI, 10, .inl r_no')), (t0, .inr (5, [.int t_len, .int t_st', .int t_nx', .int t_kd', .ref t1])), (t1, .inl (cI, 200, .inl t_by)), (b0, .inr (3, [.int b_n', .ref b1, .ref b2, .ref b3, .ref b4, .ref b5])), (b1, .inl (cI, 10, .inl b_L')), (b2, .inl (cI, 10, .inl b_U')), (b3, .inl (cI, 12, .inl b_H')), (b4, .inl (cI, 10, .inl b_O')), (b5, .inl (cI, 10, .inl b_B'))] (va_A [(r0, .inr (1, [.int r_cl, .ref t0, .ref r1])), (r1, .inl (cI, 10, .inl r_no)), (t0, .inr (5, [.int t_len, .int t_st, .int t_nx, .int t_kd, .ref t1])), (t1, .inl (cI, 200, .inl t_by)), (b0, .inr (3, [.int b_n, .ref b1, .ref b2, .ref b3, .ref b4, .ref b5])), (b1, .inl (cI, 10, .inl b_L)), (b2, .inl (cI, 10, .inl b_U)), (b3, .inl (cI, 12, .inl b_H)), (b4, .inl (cI, 10, .inl b_O)), (b5, .inl (cI, 10, .inl b_B))] sz)) 0 0 (va_A [(r0, .inr (1, [.int r_cl, .ref t0, .ref r1])), (r1, .inl (cI, 10, .inl r_no)), (t0, .inr (5, [.int t_len, .int t_st, .int t_nx, .int t_kd, .ref t1])), (t1, .inl (cI, 200, .inl t_by)), (b0, .inr (3, [.int b_n, .ref b1, .ref b2, .ref b3, .ref b4, .ref b5])), (b1, .inl (cI, 10, .inl b_L)), (b2, .inl (cI, 10, .inl b_U)), (b3, .inl (cI, 12, .inl b_H)), (b4, .inl (cI, 10, .inl b_O)), (b5, .inl (cI, 10, .inl b_B))] sz) := by
  refine Met.ofW (cc := cX1_carryOut) (maxL := 3) (ret := (some .int)) (by decide) rfl ?_
  intro p e s m args below meth c s₁ B hml hv
  obtain ⟨rfl, hsz, hP, hK, hD0, heb, hE⟩ := hv
  have hx := B.exec
  have hb := B.bytes
  have hr := B.returns
  have hts := atoms_spec (ws := wsX1_carryOut) B.pre
  have hown : s.vm.findClass RX1 = some m.cls := findClass_of_methodNamed B.named
  have hlocks := B.notSynchronized
  subst hsz
  have hD := hD0.self (sz := s.heap.size)
  generalize hAe : va_A [(r0, .inr (1, [.int r_cl, .ref t0, .ref r1])), (r1, .inl (cI, 10, .inl r_no)), (t0, .inr (5, [.int t_len, .int t_st, .int t_nx, .int t_kd, .ref t1])), (t1, .inl (cI, 200, .inl t_by)), (b0, .inr (3, [.int b_n, .ref b1, .ref b2, .ref b3, .ref b4, .ref b5])), (b1, .inl (cI, 10, .inl b_L)), (b2, .inl (cI, 10, .inl b_U)), (b3, .inl (cI, 12, .inl b_H)), (b4, .inl (cI, 10, .inl b_O)), (b5, .inl (cI, 10, .inl b_B))] s.heap.size = A at hD ⊢
  have hA : ∀ q : Nat, s.heap.size ≤ q → A q := fun q h => by rw [← hAe]; exact Or.inr h
  have hAb : ∀ q, A q → eb ≤ q := fun q h => by
      rw [← hAe] at h
      rcases h with ⟨k, e, h⟩ | h
      · exact hD0.2 k _ h
      · exact Nat.le_trans heb h
  clear hAe hD0
  have hfl_9 := hts (.fieldLink RX1 9 "TermsFirst$ClauseReader" "clauses" "I") (List.mem_cons_of_mem _ (List.mem_append_left _ (List.mem_append_left _ (List.mem_append_left _ (List.mem_append_left _ (List.mem_of_getElem? (i := 2) rfl))))))
  have hfl_19 := hts (.fieldLink RX1 19 "TermsFirst$ClauseReader" "text" "LTermsFirst$Text;") (List.mem_cons_of_mem _ (List.mem_append_left _ (List.mem_append_left _ (List.mem_append_left _ (List.mem_append_left _ (List.mem_of_getElem? (i := 0) rfl))))))
  have hfl_35 := hts (.fieldLink RX1 35 "TermsFirst$Text" "start" "I") (List.mem_cons_of_mem _ (List.mem_append_left _ (List.mem_append_left _ (List.mem_append_left _ (List.mem_append_left _ (List.mem_of_getElem? (i := 1) rfl))))))
  have hiX1 : ∀ w ∈ u_ws RX1 TX1 3, w ∈ wsX1_carryOut := fun _ h => (List.mem_cons_of_mem _ (List.mem_append_left _ (List.mem_append_left _ (List.mem_append_right _ h))))
  have hiX5 : ∀ w ∈ u_ws RX5 TX5 5, w ∈ wsX1_carryOut := fun _ h => (List.mem_cons_of_mem _ (List.mem_append_left _ (List.mem_append_right _ h)))
  have hB_9 : ∀ (fn : Nat) (x2 : Int32) (r_cl : Int32) (r_no : Nat → Int32) (t_st : Int32) (t_nx : Int32) (t_kd : Int32) (b_n : Int32) (b_L : Nat → Int32) (b_U : Nat → Int32) (b_H : Nat → Int32) (b_O : Nat → Int32) (b_B : Nat → Int32), m_X1_carryOut_9 fu t_len t_by fn r_cl r_no t_st t_nx t_kd b_n b_L b_U b_H b_O b_B x2 = some (r, r_cl', r_no', t_st', t_nx', t_kd', b_n', b_L', b_U', b_H', b_O', b_B') → ∀ (H : Heap) (locs : List Loc), va_P D vwCl [(r0, .inr (1, [.int r_cl, .ref t0, .ref r1])), (r1, .inl (cI, 10, .inl r_no)), (t0, .inr (5, [.int t_len, .int t_st, .int t_nx, .int t_kd, .ref t1])), (t1, .inl (cI, 200, .inl t_by)), (b0, .inr (3, [.int b_n, .ref b1, .ref b2, .ref b3, .ref b4, .ref b5])), (b1, .inl (cI, 10, .inl b_L)), (b2, .inl (cI, 10, .inl b_U)), (b3, .inl (cI, 12, .inl b_H)), (b4, .inl (cI, 10, .inl b_O)), (b5, .inl (cI, 10, .inl b_B))] H → va_D A [(r0, .inr (1, [.int r_cl, .ref t0, .ref r1])), (r1, .inl (cI, 10, .inl r_no)), (t0, .inr (5, [.int t_len, .int t_st, .int t_nx, .int t_kd, .ref t1])), (t1, .inl (cI, 200, .inl t_by)), (b0, .inr (3, [.int b_n, .ref b1, .ref b2, .ref b3, .ref b4, .ref b5])), (b1, .inl (cI, 10, .inl b_L)), (b2, .inl (cI, 10, .inl b_U)), (b3, .inl (cI, 12, .inl b_H)), (b4, .inl (cI, 10, .inl b_O)), (b5, .inl (cI, 10, .inl b_B))] → va_S A s.heap H locs → ∀ ls : Array Slot, lv_has ls 3 [(0, .ref r0), (1, .ref b0), (2, .int x2)] → W p l e (headSpec wsX1_carryOut { frames := 6, cells := 0, slots := 0, locals := 128 }).room s m ([.ref r0, .ref b0] : List Value).toArray below meth c H locs 0 0 (MQ below (qI D r [(r0, .inr (1, [.int r_cl', .ref t0, .ref r1])), (r1, .inl (cI, 10, .inl r_no')), (t0, .inr (5, [.int t_len, .int t_st', .int t_nx', .int t_kd', .ref t1])), (t1, .inl (cI, 200, .inl t_by)), (b0, .inr (3, [.int b_n', .ref b1, .ref b2, .ref b3, .ref b4, .ref b5])), (b1, .inl (cI, 10, .inl b_L')), (b2, .inl (cI, 10, .inl b_U')), (b3, .inl (cI, 12, .inl b_H')), (b4, .inl (cI, 10, .inl b_O')), (b5, .inl (cI, 10, .inl b_B'))] A) ([.ref r0, .ref b0] : List Value).toArray s 0 0 A) (F0 m 9 ls []) := by
    intro fn
    induction fn with
    | zero => intro x2 r_cl r_no t_st t_nx t_kd b_n b_L b_U b_H b_O b_B hf; rw [m_X1_carryOut_9] at hf; cases hf
    | succ fn ih =>
      intro x2 r_cl r_no t_st t_nx t_kd b_n b_L b_U b_H b_O b_B hf H locs hP hD hS ls hl
      rw [m_X1_carryOut_9] at hf
      refine lv_iload_n hx hb dX1_carryOut_9 rfl (lv_at hl 2 rfl) ?_
      refine lv_bipush (v := (nI 24)) hx hb dX1_carryOut_10 bp_24 ?_
      refine lv_icmp_gt (tgt := 86) hx hb dX1_carryOut_12 (by decide) (fun hc => ?_) (fun hc => ?_)
      · have hf := ifp hc hf
        refine lv_aload_n hx hb dX1_carryOut_86 rfl (lv_at hl 0 rfl) ?_
        refine va_get (D := D) (ci := 1) (v := .ref t0) (C := RX1) (T := TX1) (N := 3) hx hb hts hiX1 hown hK.1 hP 0 rfl rfl 1 (by decide) hfl_19 (fun _ h9 => h9) rfl dX1_carryOut_87 ?_
        refine va_get (D := D) (ci := 5) (v := .int t_st) (C := RX5) (T := TX5) (N := 5) hx hb hts hiX5 hown hK.1 hP 2 rfl rfl 1 (by decide) hfl_35 (fun _ h9 => h9) rfl dX1_carryOut_90 ?_
        cases hf
        exact W.iret hx hb hr (fun t ht _ => ⟨⟨rfl, by rw [ht]; exact hP, hD⟩, hS.F ht⟩) hS.2.2 dX1_carryOut_93
      · have hf := ifn hc hf
        refine lv_aload_n hx hb dX1_carryOut_15 rfl (lv_at hl 0 rfl) ?_
        refine va_get (D := D) (ci := 1) (v := .ref t0) (C := RX1) (T := TX1) (N := 3) hx hb hts hiX1 hown hK.1 hP 0 rfl rfl 1 (by decide) hfl_19 (fun _ h9 => h9) rfl dX1_carryOut_16 ?_
        obtain ⟨rv2, hrv2, hf⟩ := bd hf
        refine muV0 (wr := [(r0, .inr (1, [.int r_cl, .ref t0, .ref r1])), (r1, .inl (cI, 10, .inl r_no)), (b0, .inr (3, [.int b_n, .ref b1, .ref b2, .ref b3, .ref b4, .ref b5])), (b1, .inl (cI, 10, .inl b_L)), (b2, .inl (cI, 10, .inl b_U)), (b3, .inl (cI, 12, .inl b_H)), (b4, .inl (cI, 10, .inl b_O)), (b5, .inl (cI, 10, .inl b_B))]) (va_runV (As := []) (rest := []) ⟨hx, hb, hml, hown, hts⟩ (c_X5_take l D cI cZ cM t0 t1 _ t_len t_st t_nx t_kd t_by fu rv2.1 rv2.2.1 rv2.2.2 hrv2) (cwV 0 hts gX1_carryOut_X5_take rfl rfl rfl ⟨rfl, hdc_X5_take⟩ ⟨Nat.le_of_ble_eq_true rfl, Nat.le_of_ble_eq_true rfl⟩) (pmV hK hP hD [2, 3] (by decide) rfl rfl (ci := 5) (q0 := 2) rfl rfl) rfl rfl hl.1 rfl (lv_room (Nat.le_of_ble_eq_true rfl)) dX1_carryOut_19 ⟨Nat.zero_le _, Nat.zero_le _⟩) hP hD hS hA [2, 3] [0, 1, 4, 5, 6, 7, 8, 9] rfl rfl (by decide) (by decide) (fun H locs hP hD hS => ?_)
        have hP : va_P D vwCl [(r0, .inr (1, [.int r_cl, .ref t0, .ref r1])), (r1, .inl (cI, 10, .inl r_no)), (b0, .inr (3, [.int b_n, .ref b1, .ref b2, .ref b3, .ref b4, .ref b5])), (b1, .inl (cI, 10, .inl b_L)), (b2, .inl (cI, 10, .inl b_U)), (b3, .inl (cI, 12, .inl b_H)), (b4, .inl (cI, 10, .inl b_O)), (b5, .inl (cI, 10, .inl b_B)), (t0, .inr (5, [.int t_len, .int rv2.1, .int rv2.2.1, .int rv2.2.2, .ref t1])), (t1, .inl (cI, 200, .inl t_by))] H := hP
        have hD : va_D A [(r0, .inr (1, [.int r_cl, .ref t0, .ref r1])), (r1, .inl (cI, 10, .inl r_no)), (b0, .inr (3, [.int b_n, .ref b1, .ref b2, .ref b3, .ref b4, .ref b5])), (b1, .inl (cI, 10, .inl b_L)), (b2, .inl (cI, 10, .inl b_U)), (b3, .inl (cI, 12, .inl b_H)), (b4, .inl (cI, 10, .inl b_O)), (b5, .inl (cI, 10, .inl b_B)), (t0, .inr (5, [.int t_len, .int rv2.1, .int rv2.2.1, .int rv2.2.2, .ref t1])), (t1, .inl (cI, 200, .inl t_by))] := hD
        refine lv_aload_n hx hb dX1_carryOut_22 rfl (lv_at hl 0 rfl) ?_
        refine lv_aload_n hx hb dX1_carryOut_23 rfl (lv_at hl 1 rfl) ?_
        obtain ⟨rv3, hrv3, hf⟩ := bd hf
        refine muI0 (wr := []) (va_runV (As := [.ref b0]) (rest := []) ⟨hx, hb, hml, hown, hts⟩ (c_X1_readClause l D cI cZ cM r0 r1 t0 t1 b0 b1 b2 b3 b4 b5 _ eb adK adV r_cl r_no t_len rv2.1 rv2.2.1 rv2.2.2 t_by b_n b_L b_U b_H b_O b_B fu rv3.1 rv3.2.1 rv3.2.2.1 rv3.2.2.2.1 rv3.2.2.2.2.1 rv3.2.2.2.2.2.1 rv3.2.2.2.2.2.2.1 rv3.2.2.2.2.2.2.2.1 rv3.2.2.2.2.2.2.2.2.1 rv3.2.2.2.2.2.2.2.2.2.1 rv3.2.2.2.2.2.2.2.2.2.2 hrv3) (cwV 1 hts gX1_carryOut_X1_readClause rfl rfl rfl ⟨rfl, hdc_X1_readClause⟩ ⟨Nat.le_of_ble_eq_true rfl, Nat.le_of_ble_eq_true rfl⟩) (pmVs hK hP hD hAb hS heb hE [0, 1, 8, 9, 2, 3, 4, 5, 6, 7] (by decide) rfl rfl (ci := 1) (q0 := 0) rfl rfl) rfl rfl hl.1 rfl (lv_room (Nat.le_of_ble_eq_true rfl)) dX1_carryOut_24 ⟨Nat.zero_le _, Nat.zero_le _⟩) hP hD hS hA [0, 1, 8, 9, 2, 3, 4, 5, 6, 7] [] rfl rfl (by decide) (by decide) (fun H locs hP hD hS => ?_)
        have hP : va_P D vwCl [(r0, .inr (1, [.int r_cl, .ref t0, .ref r1])), (r1, .inl (cI, 10, .inl rv3.2.1)), (t0, .inr (5, [.int t_len, .int rv3.2.2.1, .int rv3.2.2.2.1, .int rv3.2.2.2.2.1, .ref t1])), (t1, .inl (cI, 200, .inl t_by)), (b0, .inr (3, [.int rv3.2.2.2.2.2.1, .ref b1, .ref b2, .ref b3, .ref b4, .ref b5])), (b1, .inl (cI, 10, .inl rv3.2.2.2.2.2.2.1)), (b2, .inl (cI, 10, .inl rv3.2.2.2.2.2.2.2.1)), (b3, .inl (cI, 12, .inl rv3.2.2.2.2.2.2.2.2.1)), (b4, .inl (cI, 10, .inl rv3.2.2.2.2.2.2.2.2.2.1)), (b5, .inl (cI, 10, .inl rv3.2.2.2.2.2.2.2.2.2.2))] H := hP
        have hD : va_D A [(r0, .inr (1, [.int r_cl, .ref t0, .ref r1])), (r1, .inl (cI, 10, .inl rv3.2.1)), (t0, .inr (5, [.int t_len, .int rv3.2.2.1, .int rv3.2.2.2.1, .int rv3.2.2.2.2.1, .ref t1])), (t1, .inl (cI, 200, .inl t_by)), (b0, .inr (3, [.int rv3.2.2.2.2.2.1, .ref b1, .ref b2, .ref b3, .ref b4, .ref b5])), (b1, .inl (cI, 10, .inl rv3.2.2.2.2.2.2.1)), (b2, .inl (cI, 10, .inl rv3.2.2.2.2.2.2.2.1)), (b3, .inl (cI, 12, .inl rv3.2.2.2.2.2.2.2.2.1)), (b4, .inl (cI, 10, .inl rv3.2.2.2.2.2.2.2.2.2.1)), (b5, .inl (cI, 10, .inl rv3.2.2.2.2.2.2.2.2.2.2))] := hD
        refine lv_if_ne (tgt := 38) hx hb dX1_carryOut_27 (by decide) (fun hc => ?_) (fun hc => ?_)
        · have hf := ifn hc hf
          refine lv_aload_n hx hb dX1_carryOut_38 rfl (lv_at hl 0 rfl) ?_
          refine lv_iload_n hx hb dX1_carryOut_39 rfl (lv_at hl 2 rfl) ?_
          refine va_put (D := D) (ci := 1) (v := .int x2) (ty := .int) (C := RX1) (T := TX1) (N := 3) hx hb hts hiX1 tyX1 tyX1_ok nmX1 hown hK.1 hP hD hS 0 rfl rfl 0 (by decide) hfl_9 (fun _ h9 => h9) rfl (tyX1_ok 0 (by decide)) rfl rfl (Nat.le_of_ble_eq_true rfl) dX1_carryOut_40 (fun H locs hP hD hS => ?_)
          have hP : va_P D vwCl [(r0, .inr (1, [.int x2, .ref t0, .ref r1])), (r1, .inl (cI, 10, .inl rv3.2.1)), (t0, .inr (5, [.int t_len, .int rv3.2.2.1, .int rv3.2.2.2.1, .int rv3.2.2.2.2.1, .ref t1])), (t1, .inl (cI, 200, .inl t_by)), (b0, .inr (3, [.int rv3.2.2.2.2.2.1, .ref b1, .ref b2, .ref b3, .ref b4, .ref b5])), (b1, .inl (cI, 10, .inl rv3.2.2.2.2.2.2.1)), (b2, .inl (cI, 10, .inl rv3.2.2.2.2.2.2.2.1)), (b3, .inl (cI, 12, .inl rv3.2.2.2.2.2.2.2.2.1)), (b4, .inl (cI, 10, .inl rv3.2.2.2.2.2.2.2.2.2.1)), (b5, .inl (cI, 10, .inl rv3.2.2.2.2.2.2.2.2.2.2))] H := hP
          have hD : va_D A [(r0, .inr (1, [.int x2, .ref t0, .ref r1])), (r1, .inl (cI, 10, .inl rv3.2.1)), (t0, .inr (5, [.int t_len, .int rv3.2.2.1, .int rv3.2.2.2.1, .int rv3.2.2.2.2.1, .ref t1])), (t1, .inl (cI, 200, .inl t_by)), (b0, .inr (3, [.int rv3.2.2.2.2.2.1, .ref b1, .ref b2, .ref b3, .ref b4, .ref b5])), (b1, .inl (cI, 10, .inl rv3.2.2.2.2.2.2.1)), (b2, .inl (cI, 10, .inl rv3.2.2.2.2.2.2.2.1)), (b3, .inl (cI, 12, .inl rv3.2.2.2.2.2.2.2.2.1)), (b4, .inl (cI, 10, .inl rv3.2.2.2.2.2.2.2.2.2.1)), (b5, .inl (cI, 10, .inl rv3.2.2.2.2.2.2.2.2.2.2))] := hD
          refine lv_aload_n hx hb dX1_carryOut_43 rfl (lv_at hl 0 rfl) ?_
          refine va_get (D := D) (ci := 1) (v := .ref t0) (C := RX1) (T := TX1) (N := 3) hx hb hts hiX1 hown hK.1 hP 0 rfl rfl 1 (by decide) hfl_19 (fun _ h9 => h9) rfl dX1_carryOut_44 ?_
          obtain ⟨rv4, hrv4, hf⟩ := bd hf
          refine muV0 (wr := [(r0, .inr (1, [.int x2, .ref t0, .ref r1])), (r1, .inl (cI, 10, .inl rv3.2.1)), (b0, .inr (3, [.int rv3.2.2.2.2.2.1, .ref b1, .ref b2, .ref b3, .ref b4, .ref b5])), (b1, .inl (cI, 10, .inl rv3.2.2.2.2.2.2.1)), (b2, .inl (cI, 10, .inl rv3.2.2.2.2.2.2.2.1)), (b3, .inl (cI, 12, .inl rv3.2.2.2.2.2.2.2.2.1)), (b4, .inl (cI, 10, .inl rv3.2.2.2.2.2.2.2.2.2.1)), (b5, .inl (cI, 10, .inl rv3.2.2.2.2.2.2.2.2.2.2))]) (va_runV (As := []) (rest := []) ⟨hx, hb, hml, hown, hts⟩ (c_X5_take l D cI cZ cM t0 t1 _ t_len rv3.2.2.1 rv3.2.2.2.1 rv3.2.2.2.2.1 t_by fu rv4.1 rv4.2.1 rv4.2.2 hrv4) (cwV 0 hts gX1_carryOut_X5_take rfl rfl rfl ⟨rfl, hdc_X5_take⟩ ⟨Nat.le_of_ble_eq_true rfl, Nat.le_of_ble_eq_true rfl⟩) (pmV hK hP hD [2, 3] (by decide) rfl rfl (ci := 5) (q0 := 2) rfl rfl) rfl rfl hl.1 rfl (lv_room (Nat.le_of_ble_eq_true rfl)) dX1_carryOut_47 ⟨Nat.zero_le _, Nat.zero_le _⟩) hP hD hS hA [2, 3] [0, 1, 4, 5, 6, 7, 8, 9] rfl rfl (by decide) (by decide) (fun H locs hP hD hS => ?_)
          have hP : va_P D vwCl [(r0, .inr (1, [.int x2, .ref t0, .ref r1])), (r1, .inl (cI, 10, .inl rv3.2.1)), (b0, .inr (3, [.int rv3.2.2.2.2.2.1, .ref b1, .ref b2, .ref b3, .ref b4, .ref b5])), (b1, .inl (cI, 10, .inl rv3.2.2.2.2.2.2.1)), (b2, .inl (cI, 10, .inl rv3.2.2.2.2.2.2.2.1)), (b3, .inl (cI, 12, .inl rv3.2.2.2.2.2.2.2.2.1)), (b4, .inl (cI, 10, .inl rv3.2.2.2.2.2.2.2.2.2.1)), (b5, .inl (cI, 10, .inl rv3.2.2.2.2.2.2.2.2.2.2)), (t0, .inr (5, [.int t_len, .int rv4.1, .int rv4.2.1, .int rv4.2.2, .ref t1])), (t1, .inl (cI, 200, .inl t_by))] H := hP
          have hD : va_D A [(r0, .inr (1, [.int x2, .ref t0, .ref r1])), (r1, .inl (cI, 10, .inl rv3.2.1)), (b0, .inr (3, [.int rv3.2.2.2.2.2.1, .ref b1, .ref b2, .ref b3, .ref b4, .ref b5])), (b1, .inl (cI, 10, .inl rv3.2.2.2.2.2.2.1)), (b2, .inl (cI, 10, .inl rv3.2.2.2.2.2.2.2.1)), (b3, .inl (cI, 12, .inl rv3.2.2.2.2.2.2.2.2.1)), (b4, .inl (cI, 10, .inl rv3.2.2.2.2.2.2.2.2.2.1)), (b5, .inl (cI, 10, .inl rv3.2.2.2.2.2.2.2.2.2.2)), (t0, .inr (5, [.int t_len, .int rv4.1, .int rv4.2.1, .int rv4.2.2, .ref t1])), (t1, .inl (cI, 200, .inl t_by))] := hD
          refine lv_aload_n hx hb dX1_carryOut_50 rfl (lv_at hl 0 rfl) ?_
          refine va_get (D := D) (ci := 1) (v := .ref t0) (C := RX1) (T := TX1) (N := 3) hx hb hts hiX1 hown hK.1 hP 0 rfl rfl 1 (by decide) hfl_19 (fun _ h9 => h9) rfl dX1_carryOut_51 ?_
          obtain ⟨rv5, hrv5, hf⟩ := bd hf
          refine roI (va_runV (As := []) (rest := []) ⟨hx, hb, hml, hown, hts⟩ (c_X5_isEnd l D cI cZ cM t0 t1 t_len rv4.1 rv4.2.1 rv4.2.2 t_by rv5 hrv5) (cwV 0 hts gX1_carryOut_X5_isEnd rfl rfl rfl ⟨rfl, hdc_X5_isEnd⟩ ⟨Nat.le_of_ble_eq_true rfl, Nat.le_of_ble_eq_true rfl⟩) (prV hK hP [8, 9] rfl (ci := 5) (q0 := 8) rfl rfl) rfl rfl hl.1 rfl (lv_room (Nat.le_of_ble_eq_true rfl)) dX1_carryOut_54 ⟨Nat.zero_le _, Nat.zero_le _⟩) ?_
          refine lv_if_eq (tgt := 62) hx hb dX1_carryOut_57 (by decide) (fun hc => ?_) (fun hc => ?_)
          · have hf := ifp hc hf
            refine lv_aload_n hx hb dX1_carryOut_62 rfl (lv_at hl 0 rfl) ?_
            refine va_get (D := D) (ci := 1) (v := .ref t0) (C := RX1) (T := TX1) (N := 3) hx hb hts hiX1 hown hK.1 hP 0 rfl rfl 1 (by decide) hfl_19 (fun _ h9 => h9) rfl dX1_carryOut_63 ?_
            obtain ⟨rv6, hrv6, hf⟩ := bd hf
            refine roI (va_runV (As := []) (rest := []) ⟨hx, hb, hml, hown, hts⟩ (c_X5_isSemicolon l D cI cZ cM t0 t1 t_len rv4.1 rv4.2.1 rv4.2.2 t_by rv6 hrv6) (cwV 0 hts gX1_carryOut_X5_isSemicolon rfl rfl rfl ⟨rfl, hdc_X5_isSemicolon⟩ ⟨Nat.le_of_ble_eq_true rfl, Nat.le_of_ble_eq_true rfl⟩) (prV hK hP [8, 9] rfl (ci := 5) (q0 := 8) rfl rfl) rfl rfl hl.1 rfl (lv_room (Nat.le_of_ble_eq_true rfl)) dX1_carryOut_66 ⟨Nat.zero_le _, Nat.zero_le _⟩) ?_
            refine lv_if_ne (tgt := 80) hx hb dX1_carryOut_69 (by decide) (fun hc => ?_) (fun hc => ?_)
            · have hf := ifn hc hf
              refine lv_iinc (v := (x2 + (nI 1))) (lv' := [(2, .int (x2 + (nI 1))), (0, .ref r0), (1, .ref b0)]) hx hb dX1_carryOut_80 hl (k := 2) rfl (ii_1 _) (by decide) rfl (fun ls hl => ?_)
              refine lv_goto (tgt := 9) hx hb dX1_carryOut_83 (by decide) ?_
              exact ih (x2 + (nI 1)) x2 rv3.2.1 rv4.1 rv4.2.1 rv4.2.2 rv3.2.2.2.2.2.1 rv3.2.2.2.2.2.2.1 rv3.2.2.2.2.2.2.2.1 rv3.2.2.2.2.2.2.2.2.1 rv3.2.2.2.2.2.2.2.2.2.1 rv3.2.2.2.2.2.2.2.2.2.2 hf _ _ (hP.sub [0, 1, 8, 9, 2, 3, 4, 5, 6, 7] rfl) (hD.sub [0, 1, 8, 9, 2, 3, 4, 5, 6, 7] (by decide) rfl) hS ls (lv_sub hl [1, 2, 0] rfl)
            · have hf := ifp hc hf
              refine lv_aload_n hx hb dX1_carryOut_72 rfl (lv_at hl 0 rfl) ?_
              refine va_get (D := D) (ci := 1) (v := .ref t0) (C := RX1) (T := TX1) (N := 3) hx hb hts hiX1 hown hK.1 hP 0 rfl rfl 1 (by decide) hfl_19 (fun _ h9 => h9) rfl dX1_carryOut_73 ?_
              refine va_get (D := D) (ci := 5) (v := .int rv4.1) (C := RX5) (T := TX5) (N := 5) hx hb hts hiX5 hown hK.1 hP 8 rfl rfl 1 (by decide) hfl_35 (fun _ h9 => h9) rfl dX1_carryOut_76 ?_
              cases hf
              exact W.iret hx hb hr (fun t ht _ => ⟨⟨rfl, by rw [ht]; exact (hP.sub [0, 1, 8, 9, 2, 3, 4, 5, 6, 7] rfl), (hD.sub [0, 1, 8, 9, 2, 3, 4, 5, 6, 7] (by decide) rfl)⟩, hS.F ht⟩) hS.2.2 dX1_carryOut_79
          · have hf := ifn hc hf
            refine lv_iconst (v := (-1 : Int32)) hx hb dX1_carryOut_60 ic_m1 ?_
            cases hf
            exact W.iret hx hb hr (fun t ht _ => ⟨⟨rfl, by rw [ht]; exact (hP.sub [0, 1, 8, 9, 2, 3, 4, 5, 6, 7] rfl), (hD.sub [0, 1, 8, 9, 2, 3, 4, 5, 6, 7] (by decide) rfl)⟩, hS.F ht⟩) hS.2.2 dX1_carryOut_61
        · have hf := ifp hc hf
          refine lv_aload_n hx hb dX1_carryOut_30 rfl (lv_at hl 0 rfl) ?_
          refine va_get (D := D) (ci := 1) (v := .ref t0) (C := RX1) (T := TX1) (N := 3) hx hb hts hiX1 hown hK.1 hP 0 rfl rfl 1 (by decide) hfl_19 (fun _ h9 => h9) rfl dX1_carryOut_31 ?_
          refine va_get (D := D) (ci := 5) (v := .int rv3.2.2.1) (C := RX5) (T := TX5) (N := 5) hx hb hts hiX5 hown hK.1 hP 2 rfl rfl 1 (by decide) hfl_35 (fun _ h9 => h9) rfl dX1_carryOut_34 ?_
          cases hf
          exact W.iret hx hb hr (fun t ht _ => ⟨⟨rfl, by rw [ht]; exact hP, hD⟩, hS.F ht⟩) hS.2.2 dX1_carryOut_37
  have hl := lv_entry ([.ref r0, .ref b0]) (n := 3) (Nat.le_of_ble_eq_true rfl)
  rw [lg_entry_eq]
  generalize (lg_sl ([.ref r0, .ref b0]) ++ List.replicate (3 - (lg_sl ([.ref r0, .ref b0])).length) Slot.unset).toArray = ls at hl ⊢
  have hl : lv_has ls 3 [(0, .ref r0), (1, .ref b0)] := hl
  have hS : va_S A s.heap s.heap [] := va_S.rf
  unfold m_X1_carryOut at hf
  refine lv_aload_n hx hb dX1_carryOut_0 rfl (lv_at hl 0 rfl) ?_
  refine va_get (D := D) (ci := 1) (v := .ref t0) (C := RX1) (T := TX1) (N := 3) hx hb hts hiX1 hown hK.1 hP 0 rfl rfl 1 (by decide) hfl_19 (fun _ h9 => h9) rfl dX1_carryOut_1 ?_
  obtain ⟨rv1, hrv1, hf⟩ := bd hf
  refine muV0 (wr := [(r0, .inr (1, [.int r_cl, .ref t0, .ref r1])), (r1, .inl (cI, 10, .inl r_no)), (b0, .inr (3, [.int b_n, .ref b1, .ref b2, .ref b3, .ref b4, .ref b5])), (b1, .inl (cI, 10, .inl b_L)), (b2, .inl (cI, 10, .inl b_U)), (b3, .inl (cI, 12, .inl b_H)), (b4, .inl (cI, 10, .inl b_O)), (b5, .inl (cI, 10, .inl b_B))]) (va_runV (As := []) (rest := []) ⟨hx, hb, hml, hown, hts⟩ (c_X5_rewind l D cI cZ cM t0 t1 _ t_len t_st t_nx t_kd t_by rv1 hrv1) (cwV 0 hts gX1_carryOut_X5_rewind rfl rfl rfl ⟨rfl, hdc_X5_rewind⟩ ⟨Nat.le_of_ble_eq_true rfl, Nat.le_of_ble_eq_true rfl⟩) (pmV hK hP hD [2, 3] (by decide) rfl rfl (ci := 5) (q0 := 2) rfl rfl) rfl rfl hl.1 rfl (lv_room (Nat.le_of_ble_eq_true rfl)) dX1_carryOut_4 ⟨Nat.zero_le _, Nat.zero_le _⟩) hP hD hS hA [2, 3] [0, 1, 4, 5, 6, 7, 8, 9] rfl rfl (by decide) (by decide) (fun H locs hP hD hS => ?_)
  have hP : va_P D vwCl [(r0, .inr (1, [.int r_cl, .ref t0, .ref r1])), (r1, .inl (cI, 10, .inl r_no)), (b0, .inr (3, [.int b_n, .ref b1, .ref b2, .ref b3, .ref b4, .ref b5])), (b1, .inl (cI, 10, .inl b_L)), (b2, .inl (cI, 10, .inl b_U)), (b3, .inl (cI, 12, .inl b_H)), (b4, .inl (cI, 10, .inl b_O)), (b5, .inl (cI, 10, .inl b_B)), (t0, .inr (5, [.int t_len, .int t_st, .int rv1, .int t_kd, .ref t1])), (t1, .inl (cI, 200, .inl t_by))] H := hP
  have hD : va_D A [(r0, .inr (1, [.int r_cl, .ref t0, .ref r1])), (r1, .inl (cI, 10, .inl r_no)), (b0, .inr (3, [.int b_n, .ref b1, .ref b2, .ref b3, .ref b4, .ref b5])), (b1, .inl (cI, 10, .inl b_L)), (b2, .inl (cI, 10, .inl b_U)), (b3, .inl (cI, 12, .inl b_H)), (b4, .inl (cI, 10, .inl b_O)), (b5, .inl (cI, 10, .inl b_B)), (t0, .inr (5, [.int t_len, .int t_st, .int rv1, .int t_kd, .ref t1])), (t1, .inl (cI, 200, .inl t_by))] := hD
  refine lv_iconst (v := (nI 1)) hx hb dX1_carryOut_7 ic_1 ?_
  refine lv_istore_n (lv' := [(2, .int (nI 1)), (0, .ref r0), (1, .ref b0)]) hx hb dX1_carryOut_8 rfl hl (by decide) rfl (fun ls hl => ?_)
  exact hB_9 fu (nI 1) r_cl r_no t_st rv1 t_kd b_n b_L b_U b_H b_O b_B hf _ _ (hP.sub [0, 1, 8, 9, 2, 3, 4, 5, 6, 7] rfl) (hD.sub [0, 1, 8, 9, 2, 3, 4, 5, 6, 7] (by decide) rfl) hS ls (lv_sub hl [1, 2, 0] rfl)
theorem hdc_X2_remember : yX2_remember.cls ≠ "java/lang/invoke/MethodHandle" ∧ yX2_remember.cls ≠ "java/lang/invoke/VarHandle" ∧ (parseMethodDescriptor yX2_remember.desc).map (fun d => d.parameters.length) = some 1 := by decide +kernel
set_option maxHeartbeats 4000000 in
set_option maxRecDepth 100000 in
theorem c_X2_remember (l : Launch) (D : va_G) (cI cZ cM : ClassId) (h0 h1 y0 y1 y2 y3 y4 y5 a0 a1 a2 a3 a4 a5 : Nat) (sz : Nat) (h_sz : Int32) (h_nx : Int32) (h_st : Nat → Option Nat) (y_n : Int32) (y_L : Nat → Int32) (y_U : Nat → Int32) (y_H : Nat → Int32) (y_O : Nat → Int32) (y_B : Nat → Int32) (a_n : Int32) (a_L : Nat → Int32) (a_U : Nat → Int32) (a_H : Nat → Int32) (a_O : Nat → Int32) (a_B : Nat → Int32) (hg : h_st h_nx.toNatClampNeg = some y0) (fu : Nat) (h_sz' : Int32) (h_nx' : Int32) (y_n' : Int32) (y_L' : Nat → Int32) (y_U' : Nat → Int32) (y_H' : Nat → Int32) (y_O' : Nat → Int32) (y_B' : Nat → Int32) (hf : m_X2_remember fu h_sz h_nx y_L y_U y_H y_O y_B a_n a_L a_U a_H a_O a_B = some (h_sz', h_nx', y_n', y_L', y_U', y_H', y_O', y_B')) : Met l yX2_remember wsX2_remember ({ frames := 1, cells := 0, slots := 0, locals := 30 }) (pM D cI cZ cM sz [(h0, .inr (2, [.int h_sz, .int h_nx, .ref h1])), (h1, .inl (cM, 8, .inr (.inr (.inr (.inr h_st))))), (y0, .inr (3, [.int y_n, .ref y1, .ref y2, .ref y3, .ref y4, .ref y5])), (y1, .inl (cI, 10, .inl y_L)), (y2, .inl (cI, 10, .inl y_U)), (y3, .inl (cI, 12, .inl y_H)), (y4, .inl (cI, 10, .inl y_O)), (y5, .inl (cI, 10, .inl y_B)), (a0, .inr (3, [.int a_n, .ref a1, .ref a2, .ref a3, .ref a4, .ref a5])), (a1, .inl (cI, 10, .inl a_L)), (a2, .inl (cI, 10, .inl a_U)), (a3, .inl (cI, 12, .inl a_H)), (a4, .inl (cI, 10, .inl a_O)), (a5, .inl (cI, 10, .inl a_B))] [.ref h0, .ref a0]) (qV D [(h0, .inr (2, [.int h_sz', .int h_nx', .ref h1])), (h1, .inl (cM, 8, .inr (.inr (.inr (.inr h_st))))), (y0, .inr (3, [.int y_n', .ref y1, .ref y2, .ref y3, .ref y4, .ref y5])), (y1, .inl (cI, 10, .inl y_L')), (y2, .inl (cI, 10, .inl y_U')), (y3, .inl (cI, 12, .inl y_H')), (y4, .inl (cI, 10, .inl y_O')), (y5, .inl (cI, 10, .inl y_B')), (a0, .inr (3, [.int a_n, .ref a1, .ref a2, .ref a3, .ref a4, .ref a5])), (a1, .inl (cI, 10, .inl a_L)), (a2, .inl (cI, 10, .inl a_U)), (a3, .inl (cI, 12, .inl a_H)), (a4, .inl (cI, 10, .inl a_O)), (a5, .inl (cI, 10, .inl a_B))] (va_A [(h0, .inr (2, [.int h_sz, .int h_nx, .ref h1])), (h1, .inl (cM, 8, .inr (.inr (.inr (.inr h_st))))), (y0, .inr (3, [.int y_n, .ref y1, .ref y2, .ref y3, .ref y4, .ref y5])), (y1, .inl (cI, 10, .inl y_L)), (y2, .inl (cI, 10, .inl y_U)), (y3, .inl (cI, 12, .inl y_H)), (y4, .inl (cI, 10, .inl y_O)), (y5, .inl (cI, 10, .inl y_B)), (a0, .inr (3, [.int a_n, .ref a1, .ref a2, .ref a3, .ref a4, .ref a5])), (a1, .inl (cI, 10, .inl a_L)), (a2, .inl (cI, 10, .inl a_U)), (a3, .inl (cI, 12, .inl a_H)), (a4, .inl (cI, 10, .inl a_O)), (a5, .inl (cI, 10, .inl a_B))] sz)) 0 0 (va_A [(h0, .inr (2, [.int h_sz, .int h_nx, .ref h1])), (h1, .inl (cM, 8, .inr (.inr (.inr (.inr h_st))))), (y0, .inr (3, [.int y_n, .ref y1, .ref y2, .ref y3, .ref y4, .ref y5])), (y1, .inl (cI, 10, .inl y_L)), (y2, .inl (cI, 10, .inl y_U)), (y3, .inl (cI, 12, .inl y_H)), (y4, .inl (cI, 10, .inl y_O)), (y5, .inl (cI, 10, .inl y_B)), (a0, .inr (3, [.int a_n, .ref a1, .ref a2, .ref a3, .ref a4, .ref a5])), (a1, .inl (cI, 10, .inl a_L)), (a2, .inl (cI, 10, .inl a_U)), (a3, .inl (cI, 12, .inl a_H)), (a4, .inl (cI, 10, .inl a_O)), (a5, .inl (cI, 10, .inl a_B))] sz) := by
  refine Met.ofW (cc := cX2_remember) (maxL := 2) (ret := none) (by decide) rfl ?_
  intro p e s m args below meth c s₁ B hml hv
  obtain ⟨rfl, hsz, hP, hK, hD0⟩ := hv
  have hx := B.exec
  have hb := B.bytes
  have hr := B.returns
  have hts := atoms_spec (ws := wsX2_remember) B.pre
  have hown : s.vm.findClass RX2 = some m.cls := findClass_of_methodNamed B.named
  have hlocks := B.notSynchronized
  subst hsz
  have hD := hD0.self (sz := s.heap.size)
  generalize hAe : va_A [(h0, .inr (2, [.int h_sz, .int h_nx, .ref h1])), (h1, .inl (cM, 8, .inr (.inr (.inr (.inr h_st))))), (y0, .inr (3, [.int y_n, .ref y1, .ref y2, .ref y3, .ref y4, .ref y5])), (y1, .inl (cI, 10, .inl y_L)), (y2, .inl (cI, 10, .inl y_U)), (y3, .inl (cI, 12, .inl y_H)), (y4, .inl (cI, 10, .inl y_O)), (y5, .inl (cI, 10, .inl y_B)), (a0, .inr (3, [.int a_n, .ref a1, .ref a2, .ref a3, .ref a4, .ref a5])), (a1, .inl (cI, 10, .inl a_L)), (a2, .inl (cI, 10, .inl a_U)), (a3, .inl (cI, 12, .inl a_H)), (a4, .inl (cI, 10, .inl a_O)), (a5, .inl (cI, 10, .inl a_B))] s.heap.size = A at hD ⊢
  have hA : ∀ q : Nat, s.heap.size ≤ q → A q := fun q h => by rw [← hAe]; exact Or.inr h
  clear hAe hD0
  have hfl_9 := hts (.fieldLink RX2 9 "TermsFirst$History" "size" "I") (List.mem_cons_of_mem _ (List.mem_append_left _ (List.mem_append_left _ (List.mem_of_getElem? (i := 2) rfl))))
  have hfl_15 := hts (.fieldLink RX2 15 "TermsFirst$History" "next" "I") (List.mem_cons_of_mem _ (List.mem_append_left _ (List.mem_append_left _ (List.mem_of_getElem? (i := 1) rfl))))
  have hfl_20 := hts (.fieldLink RX2 20 "TermsFirst$History" "states" "[LTermsFirst$Manual;") (List.mem_cons_of_mem _ (List.mem_append_left _ (List.mem_append_left _ (List.mem_of_getElem? (i := 0) rfl))))
  have hiX2 : ∀ w ∈ u_ws RX2 TX2 3, w ∈ wsX2_remember := fun _ h => (List.mem_cons_of_mem _ (List.mem_append_left _ (List.mem_append_right _ h)))
  have hl := lv_entry ([.ref h0, .ref a0]) (n := 2) (Nat.le_of_ble_eq_true rfl)
  rw [lg_entry_eq]
  generalize (lg_sl ([.ref h0, .ref a0]) ++ List.replicate (2 - (lg_sl ([.ref h0, .ref a0])).length) Slot.unset).toArray = ls at hl ⊢
  have hl : lv_has ls 2 [(0, .ref h0), (1, .ref a0)] := hl
  have hS : va_S A s.heap s.heap [] := va_S.rf
  unfold m_X2_remember at hf
  refine lv_aload_n hx hb dX2_remember_0 rfl (lv_at hl 0 rfl) ?_
  refine va_get (D := D) (ci := 2) (v := .ref h1) (C := RX2) (T := TX2) (N := 3) hx hb hts hiX2 hown hK.1 hP 0 rfl rfl 2 (by decide) hfl_20 (fun _ h9 => h9) rfl dX2_remember_1 ?_
  refine lv_aload_n hx hb dX2_remember_4 rfl (lv_at hl 0 rfl) ?_
  refine va_get (D := D) (ci := 2) (v := .int h_nx) (C := RX2) (T := TX2) (N := 3) hx hb hts hiX2 hown hK.1 hP 0 rfl rfl 1 (by decide) hfl_15 (fun _ h9 => h9) rfl dX2_remember_5 ?_
  obtain ⟨hi, hf⟩ := gd_some hf
  refine aldq hx hb hK.1 hP 1 2 rfl rfl hi hg dX2_remember_8 ?_
  refine lv_aload_n hx hb dX2_remember_9 rfl (lv_at hl 1 rfl) ?_
  obtain ⟨rv1, hrv1, hf⟩ := bd hf
  refine muV0 (wr := [(h0, .inr (2, [.int h_sz, .int h_nx, .ref h1])), (h1, .inl (cM, 8, .inr (.inr (.inr (.inr h_st)))))]) (va_runV (As := [.ref a0]) (rest := []) ⟨hx, hb, hml, hown, hts⟩ (c_X3_become l D cI cZ cM y0 y1 y2 y3 y4 y5 a0 a1 a2 a3 a4 a5 _ y_n y_L y_U y_H y_O y_B a_n a_L a_U a_H a_O a_B fu rv1.1 rv1.2.1 rv1.2.2.1 rv1.2.2.2.1 rv1.2.2.2.2.1 rv1.2.2.2.2.2 hrv1) (cwV 1 hts gX2_remember_X3_become rfl rfl rfl ⟨rfl, hdc_X3_become⟩ ⟨Nat.le_of_ble_eq_true rfl, Nat.le_of_ble_eq_true rfl⟩) (pmV hK hP hD [2, 3, 4, 5, 6, 7, 8, 9, 10, 11, 12, 13] (by decide) rfl rfl (ci := 3) (q0 := 2) rfl rfl) rfl rfl hl.1 rfl (lv_room (Nat.le_of_ble_eq_true rfl)) dX2_remember_10 ⟨Nat.zero_le _, Nat.zero_le _⟩) hP hD hS hA [2, 3, 4, 5, 6, 7, 8, 9, 10, 11, 12, 13] [0, 1] rfl rfl (by decide) (by decide) (fun H locs hP hD hS => ?_)
  have hP : va_P D vwCl [(h0, .inr (2, [.int h_sz, .int h_nx, .ref h1])), (h1, .inl (cM, 8, .inr (.inr (.inr (.inr h_st))))), (y0, .inr (3, [.int rv1.1, .ref y1, .ref y2, .ref y3, .ref y4, .ref y5])), (y1, .inl (cI, 10, .inl rv1.2.1)), (y2, .inl (cI, 10, .inl rv1.2.2.1)), (y3, .inl (cI, 12, .inl rv1.2.2.2.1)), (y4, .inl (cI, 10, .inl rv1.2.2.2.2.1)), (y5, .inl (cI, 10, .inl rv1.2.2.2.2.2)), (a0, .inr (3, [.int a_n, .ref a1, .ref a2, .ref a3, .ref a4, .ref a5])), (a1, .inl (cI, 10, .inl a_L)), (a2, .inl (cI, 10, .inl a_U)), (a3, .inl (cI, 12, .inl a_H)), (a4, .inl (cI, 10, .inl a_O)), (a5, .inl (cI, 10, .inl a_B))] H := hP
  have hD : va_D A [(h0, .inr (2, [.int h_sz, .int h_nx, .ref h1])), (h1, .inl (cM, 8, .inr (.inr (.inr (.inr h_st))))), (y0, .inr (3, [.int rv1.1, .ref y1, .ref y2, .ref y3, .ref y4, .ref y5])), (y1, .inl (cI, 10, .inl rv1.2.1)), (y2, .inl (cI, 10, .inl rv1.2.2.1)), (y3, .inl (cI, 12, .inl rv1.2.2.2.1)), (y4, .inl (cI, 10, .inl rv1.2.2.2.2.1)), (y5, .inl (cI, 10, .inl rv1.2.2.2.2.2)), (a0, .inr (3, [.int a_n, .ref a1, .ref a2, .ref a3, .ref a4, .ref a5])), (a1, .inl (cI, 10, .inl a_L)), (a2, .inl (cI, 10, .inl a_U)), (a3, .inl (cI, 12, .inl a_H)), (a4, .inl (cI, 10, .inl a_O)), (a5, .inl (cI, 10, .inl a_B))] := hD
  refine lv_aload_n hx hb dX2_remember_13 rfl (lv_at hl 0 rfl) ?_
  refine lv_aload_n hx hb dX2_remember_14 rfl (lv_at hl 0 rfl) ?_
  refine va_get (D := D) (ci := 2) (v := .int h_nx) (C := RX2) (T := TX2) (N := 3) hx hb hts hiX2 hown hK.1 hP 0 rfl rfl 1 (by decide) hfl_15 (fun _ h9 => h9) rfl dX2_remember_15 ?_
  refine lv_iconst (v := (nI 1)) hx hb dX2_remember_18 ic_1 ?_
  refine lv_iadd hx hb dX2_remember_19 ?_
  refine lv_bipush (v := (nI 8)) hx hb dX2_remember_20 bp_8 ?_
  refine lv_irem hx hb dX2_remember_22 (by decide +kernel) ?_
  refine va_put (D := D) (ci := 2) (v := .int ((h_nx + (nI 1)) - (h_nx + (nI 1)) / (nI 8) * (nI 8))) (ty := .int) (C := RX2) (T := TX2) (N := 3) hx hb hts hiX2 tyX2 tyX2_ok nmX2 hown hK.1 hP hD hS 0 rfl rfl 1 (by decide) hfl_15 (fun _ h9 => h9) rfl (tyX2_ok 1 (by decide)) rfl rfl (Nat.le_of_ble_eq_true rfl) dX2_remember_23 (fun H locs hP hD hS => ?_)
  have hP : va_P D vwCl [(h0, .inr (2, [.int h_sz, .int ((h_nx + (nI 1)) - (h_nx + (nI 1)) / (nI 8) * (nI 8)), .ref h1])), (h1, .inl (cM, 8, .inr (.inr (.inr (.inr h_st))))), (y0, .inr (3, [.int rv1.1, .ref y1, .ref y2, .ref y3, .ref y4, .ref y5])), (y1, .inl (cI, 10, .inl rv1.2.1)), (y2, .inl (cI, 10, .inl rv1.2.2.1)), (y3, .inl (cI, 12, .inl rv1.2.2.2.1)), (y4, .inl (cI, 10, .inl rv1.2.2.2.2.1)), (y5, .inl (cI, 10, .inl rv1.2.2.2.2.2)), (a0, .inr (3, [.int a_n, .ref a1, .ref a2, .ref a3, .ref a4, .ref a5])), (a1, .inl (cI, 10, .inl a_L)), (a2, .inl (cI, 10, .inl a_U)), (a3, .inl (cI, 12, .inl a_H)), (a4, .inl (cI, 10, .inl a_O)), (a5, .inl (cI, 10, .inl a_B))] H := hP
  have hD : va_D A [(h0, .inr (2, [.int h_sz, .int ((h_nx + (nI 1)) - (h_nx + (nI 1)) / (nI 8) * (nI 8)), .ref h1])), (h1, .inl (cM, 8, .inr (.inr (.inr (.inr h_st))))), (y0, .inr (3, [.int rv1.1, .ref y1, .ref y2, .ref y3, .ref y4, .ref y5])), (y1, .inl (cI, 10, .inl rv1.2.1)), (y2, .inl (cI, 10, .inl rv1.2.2.1)), (y3, .inl (cI, 12, .inl rv1.2.2.2.1)), (y4, .inl (cI, 10, .inl rv1.2.2.2.2.1)), (y5, .inl (cI, 10, .inl rv1.2.2.2.2.2)), (a0, .inr (3, [.int a_n, .ref a1, .ref a2, .ref a3, .ref a4, .ref a5])), (a1, .inl (cI, 10, .inl a_L)), (a2, .inl (cI, 10, .inl a_U)), (a3, .inl (cI, 12, .inl a_H)), (a4, .inl (cI, 10, .inl a_O)), (a5, .inl (cI, 10, .inl a_B))] := hD
  refine lv_aload_n hx hb dX2_remember_26 rfl (lv_at hl 0 rfl) ?_
  refine lv_aload_n hx hb dX2_remember_27 rfl (lv_at hl 0 rfl) ?_
  refine va_get (D := D) (ci := 2) (v := .int h_sz) (C := RX2) (T := TX2) (N := 3) hx hb hts hiX2 hown hK.1 hP 0 rfl rfl 0 (by decide) hfl_9 (fun _ h9 => h9) rfl dX2_remember_28 ?_
  refine lv_iconst (v := (nI 1)) hx hb dX2_remember_31 ic_1 ?_
  refine lv_iadd hx hb dX2_remember_32 ?_
  refine lv_bipush (v := (nI 8)) hx hb dX2_remember_33 bp_8 ?_
  refine va_mmin hx hb (hml.trans hl.1.symm) hown (hts (.methodLink RX2 29 Lib.Math.min.name) (List.mem_cons_of_mem _ (List.mem_append_left _ (List.mem_append_left _ (List.mem_of_getElem? (i := 3) rfl))))) (hts (.static Lib.Math.min.name) (List.mem_cons_of_mem _ (List.mem_append_left _ (List.mem_append_left _ (List.mem_of_getElem? (i := 4) rfl))))) (hts (.initialized "java/lang/Math") (List.mem_cons_of_mem _ (List.mem_append_left _ (List.mem_append_left _ (List.mem_of_getElem? (i := 5) rfl))))) (hts (.code Lib.Math.min.name Lib.Math.min.code 2 (some .int)) (List.mem_cons_of_mem _ (List.mem_append_left _ (List.mem_append_left _ (List.mem_of_getElem? (i := 6) rfl))))) (Nat.le_of_ble_eq_true rfl) (Nat.le_of_ble_eq_true rfl) (Nat.zero_le _) (Nat.zero_le _) dX2_remember_35 ?_
  refine va_put (D := D) (ci := 2) (v := .int (if (nI 8) < (h_sz + (nI 1)) then (nI 8) else (h_sz + (nI 1)))) (ty := .int) (C := RX2) (T := TX2) (N := 3) hx hb hts hiX2 tyX2 tyX2_ok nmX2 hown hK.1 hP hD hS 0 rfl rfl 0 (by decide) hfl_9 (fun _ h9 => h9) rfl (tyX2_ok 0 (by decide)) rfl rfl (Nat.le_of_ble_eq_true rfl) dX2_remember_38 (fun H locs hP hD hS => ?_)
  have hP : va_P D vwCl [(h0, .inr (2, [.int (if (nI 8) < (h_sz + (nI 1)) then (nI 8) else (h_sz + (nI 1))), .int ((h_nx + (nI 1)) - (h_nx + (nI 1)) / (nI 8) * (nI 8)), .ref h1])), (h1, .inl (cM, 8, .inr (.inr (.inr (.inr h_st))))), (y0, .inr (3, [.int rv1.1, .ref y1, .ref y2, .ref y3, .ref y4, .ref y5])), (y1, .inl (cI, 10, .inl rv1.2.1)), (y2, .inl (cI, 10, .inl rv1.2.2.1)), (y3, .inl (cI, 12, .inl rv1.2.2.2.1)), (y4, .inl (cI, 10, .inl rv1.2.2.2.2.1)), (y5, .inl (cI, 10, .inl rv1.2.2.2.2.2)), (a0, .inr (3, [.int a_n, .ref a1, .ref a2, .ref a3, .ref a4, .ref a5])), (a1, .inl (cI, 10, .inl a_L)), (a2, .inl (cI, 10, .inl a_U)), (a3, .inl (cI, 12, .inl a_H)), (a4, .inl (cI, 10, .inl a_O)), (a5, .inl (cI, 10, .inl a_B))] H := hP
  have hD : va_D A [(h0, .inr (2, [.int (if (nI 8) < (h_sz + (nI 1)) then (nI 8) else (h_sz + (nI 1))), .int ((h_nx + (nI 1)) - (h_nx + (nI 1)) / (nI 8) * (nI 8)), .ref h1])), (h1, .inl (cM, 8, .inr (.inr (.inr (.inr h_st))))), (y0, .inr (3, [.int rv1.1, .ref y1, .ref y2, .ref y3, .ref y4, .ref y5])), (y1, .inl (cI, 10, .inl rv1.2.1)), (y2, .inl (cI, 10, .inl rv1.2.2.1)), (y3, .inl (cI, 12, .inl rv1.2.2.2.1)), (y4, .inl (cI, 10, .inl rv1.2.2.2.2.1)), (y5, .inl (cI, 10, .inl rv1.2.2.2.2.2)), (a0, .inr (3, [.int a_n, .ref a1, .ref a2, .ref a3, .ref a4, .ref a5])), (a1, .inl (cI, 10, .inl a_L)), (a2, .inl (cI, 10, .inl a_U)), (a3, .inl (cI, 12, .inl a_H)), (a4, .inl (cI, 10, .inl a_O)), (a5, .inl (cI, 10, .inl a_B))] := hD
  cases hf
  exact W.vret hx hb hr (fun t ht _ => ⟨⟨rfl, by rw [ht]; exact hP, hD⟩, hS.F ht⟩) hS.2.2 dX2_remember_41
theorem hdc_X2_restore : yX2_restore.cls ≠ "java/lang/invoke/MethodHandle" ∧ yX2_restore.cls ≠ "java/lang/invoke/VarHandle" ∧ (parseMethodDescriptor yX2_restore.desc).map (fun d => d.parameters.length) = some 1 := by decide +kernel
set_option maxHeartbeats 4000000 in
set_option maxRecDepth 100000 in
theorem c_X2_restore (l : Launch) (D : va_G) (cI cZ cM : ClassId) (h0 h1 y0 y1 y2 y3 y4 y5 a0 a1 a2 a3 a4 a5 : Nat) (sz : Nat) (h_sz : Int32) (h_nx : Int32) (h_st : Nat → Option Nat) (y_n : Int32) (y_L : Nat → Int32) (y_U : Nat → Int32) (y_H : Nat → Int32) (y_O : Nat → Int32) (y_B : Nat → Int32) (a_n : Int32) (a_L : Nat → Int32) (a_U : Nat → Int32) (a_H : Nat → Int32) (a_O : Nat → Int32) (a_B : Nat → Int32) (hg : h_st (((h_nx + (nI 8)) - (nI 1)) - ((h_nx + (nI 8)) - (nI 1)) / (nI 8) * (nI 8)).toNatClampNeg = some y0) (fu : Nat) (h_sz' : Int32) (h_nx' : Int32) (a_n' : Int32) (a_L' : Nat → Int32) (a_U' : Nat → Int32) (a_H' : Nat → Int32) (a_O' : Nat → Int32) (a_B' : Nat → Int32) (hf : m_X2_restore fu h_sz h_nx y_n y_L y_U y_H y_O y_B a_n a_L a_U a_H a_O a_B = some (h_sz', h_nx', a_n', a_L', a_U', a_H', a_O', a_B')) : Met l yX2_restore wsX2_restore ({ frames := 1, cells := 0, slots := 0, locals := 22 }) (pM D cI cZ cM sz [(h0, .inr (2, [.int h_sz, .int h_nx, .ref h1])), (h1, .inl (cM, 8, .inr (.inr (.inr (.inr h_st))))), (y0, .inr (3, [.int y_n, .ref y1, .ref y2, .ref y3, .ref y4, .ref y5])), (y1, .inl (cI, 10, .inl y_L)), (y2, .inl (cI, 10, .inl y_U)), (y3, .inl (cI, 12, .inl y_H)), (y4, .inl (cI, 10, .inl y_O)), (y5, .inl (cI, 10, .inl y_B)), (a0, .inr (3, [.int a_n, .ref a1, .ref a2, .ref a3, .ref a4, .ref a5])), (a1, .inl (cI, 10, .inl a_L)), (a2, .inl (cI, 10, .inl a_U)), (a3, .inl (cI, 12, .inl a_H)), (a4, .inl (cI, 10, .inl a_O)), (a5, .inl (cI, 10, .inl a_B))] [.ref h0, .ref a0]) (qV D [(h0, .inr (2, [.int h_sz', .int h_nx', .ref h1])), (h1, .inl (cM, 8, .inr (.inr (.inr (.inr h_st))))), (y0, .inr (3, [.int y_n, .ref y1, .ref y2, .ref y3, .ref y4, .ref y5])), (y1, .inl (cI, 10, .inl y_L)), (y2, .inl (cI, 10, .inl y_U)), (y3, .inl (cI, 12, .inl y_H)), (y4, .inl (cI, 10, .inl y_O)), (y5, .inl (cI, 10, .inl y_B)), (a0, .inr (3, [.int a_n', .ref a1, .ref a2, .ref a3, .ref a4, .ref a5])), (a1, .inl (cI, 10, .inl a_L')), (a2, .inl (cI, 10, .inl a_U')), (a3, .inl (cI, 12, .inl a_H')), (a4, .inl (cI, 10, .inl a_O')), (a5, .inl (cI, 10, .inl a_B'))] (va_A [(h0, .inr (2, [.int h_sz, .int h_nx, .ref h1])), (h1, .inl (cM, 8, .inr (.inr (.inr (.inr h_st))))), (y0, .inr (3, [.int y_n, .ref y1, .ref y2, .ref y3, .ref y4, .ref y5])), (y1, .inl (cI, 10, .inl y_L)), (y2, .inl (cI, 10, .inl y_U)), (y3, .inl (cI, 12, .inl y_H)), (y4, .inl (cI, 10, .inl y_O)), (y5, .inl (cI, 10, .inl y_B)), (a0, .inr (3, [.int a_n, .ref a1, .ref a2, .ref a3, .ref a4, .ref a5])), (a1, .inl (cI, 10, .inl a_L)), (a2, .inl (cI, 10, .inl a_U)), (a3, .inl (cI, 12, .inl a_H)), (a4, .inl (cI, 10, .inl a_O)), (a5, .inl (cI, 10, .inl a_B))] sz)) 0 0 (va_A [(h0, .inr (2, [.int h_sz, .int h_nx, .ref h1])), (h1, .inl (cM, 8, .inr (.inr (.inr (.inr h_st))))), (y0, .inr (3, [.int y_n, .ref y1, .ref y2, .ref y3, .ref y4, .ref y5])), (y1, .inl (cI, 10, .inl y_L)), (y2, .inl (cI, 10, .inl y_U)), (y3, .inl (cI, 12, .inl y_H)), (y4, .inl (cI, 10, .inl y_O)), (y5, .inl (cI, 10, .inl y_B)), (a0, .inr (3, [.int a_n, .ref a1, .ref a2, .ref a3, .ref a4, .ref a5])), (a1, .inl (cI, 10, .inl a_L)), (a2, .inl (cI, 10, .inl a_U)), (a3, .inl (cI, 12, .inl a_H)), (a4, .inl (cI, 10, .inl a_O)), (a5, .inl (cI, 10, .inl a_B))] sz) := by
  refine Met.ofW (cc := cX2_restore) (maxL := 2) (ret := none) (by decide) rfl ?_
  intro p e s m args below meth c s₁ B hml hv
  obtain ⟨rfl, hsz, hP, hK, hD0⟩ := hv
  have hx := B.exec
  have hb := B.bytes
  have hr := B.returns
  have hts := atoms_spec (ws := wsX2_restore) B.pre
  have hown : s.vm.findClass RX2 = some m.cls := findClass_of_methodNamed B.named
  have hlocks := B.notSynchronized
  subst hsz
  have hD := hD0.self (sz := s.heap.size)
  generalize hAe : va_A [(h0, .inr (2, [.int h_sz, .int h_nx, .ref h1])), (h1, .inl (cM, 8, .inr (.inr (.inr (.inr h_st))))), (y0, .inr (3, [.int y_n, .ref y1, .ref y2, .ref y3, .ref y4, .ref y5])), (y1, .inl (cI, 10, .inl y_L)), (y2, .inl (cI, 10, .inl y_U)), (y3, .inl (cI, 12, .inl y_H)), (y4, .inl (cI, 10, .inl y_O)), (y5, .inl (cI, 10, .inl y_B)), (a0, .inr (3, [.int a_n, .ref a1, .ref a2, .ref a3, .ref a4, .ref a5])), (a1, .inl (cI, 10, .inl a_L)), (a2, .inl (cI, 10, .inl a_U)), (a3, .inl (cI, 12, .inl a_H)), (a4, .inl (cI, 10, .inl a_O)), (a5, .inl (cI, 10, .inl a_B))] s.heap.size = A at hD ⊢
  have hA : ∀ q : Nat, s.heap.size ≤ q → A q := fun q h => by rw [← hAe]; exact Or.inr h
  clear hAe hD0
  have hfl_9 := hts (.fieldLink RX2 9 "TermsFirst$History" "size" "I") (List.mem_cons_of_mem _ (List.mem_append_left _ (List.mem_append_left _ (List.mem_of_getElem? (i := 0) rfl))))
  have hfl_15 := hts (.fieldLink RX2 15 "TermsFirst$History" "next" "I") (List.mem_cons_of_mem _ (List.mem_append_left _ (List.mem_append_left _ (List.mem_of_getElem? (i := 1) rfl))))
  have hfl_20 := hts (.fieldLink RX2 20 "TermsFirst$History" "states" "[LTermsFirst$Manual;") (List.mem_cons_of_mem _ (List.mem_append_left _ (List.mem_append_left _ (List.mem_of_getElem? (i := 2) rfl))))
  have hiX2 : ∀ w ∈ u_ws RX2 TX2 3, w ∈ wsX2_restore := fun _ h => (List.mem_cons_of_mem _ (List.mem_append_left _ (List.mem_append_right _ h)))
  have hl := lv_entry ([.ref h0, .ref a0]) (n := 2) (Nat.le_of_ble_eq_true rfl)
  rw [lg_entry_eq]
  generalize (lg_sl ([.ref h0, .ref a0]) ++ List.replicate (2 - (lg_sl ([.ref h0, .ref a0])).length) Slot.unset).toArray = ls at hl ⊢
  have hl : lv_has ls 2 [(0, .ref h0), (1, .ref a0)] := hl
  have hS : va_S A s.heap s.heap [] := va_S.rf
  unfold m_X2_restore at hf
  refine lv_aload_n hx hb dX2_restore_0 rfl (lv_at hl 0 rfl) ?_
  refine va_get (D := D) (ci := 2) (v := .int h_sz) (C := RX2) (T := TX2) (N := 3) hx hb hts hiX2 hown hK.1 hP 0 rfl rfl 0 (by decide) hfl_9 (fun _ h9 => h9) rfl dX2_restore_1 ?_
  refine lv_if_ne (tgt := 8) hx hb dX2_restore_4 (by decide) (fun hc => ?_) (fun hc => ?_)
  · have hf := ifn hc hf
    refine lv_aload_n hx hb dX2_restore_8 rfl (lv_at hl 0 rfl) ?_
    refine lv_aload_n hx hb dX2_restore_9 rfl (lv_at hl 0 rfl) ?_
    refine va_get (D := D) (ci := 2) (v := .int h_nx) (C := RX2) (T := TX2) (N := 3) hx hb hts hiX2 hown hK.1 hP 0 rfl rfl 1 (by decide) hfl_15 (fun _ h9 => h9) rfl dX2_restore_10 ?_
    refine lv_bipush (v := (nI 8)) hx hb dX2_restore_13 bp_8 ?_
    refine lv_iadd hx hb dX2_restore_15 ?_
    refine lv_iconst (v := (nI 1)) hx hb dX2_restore_16 ic_1 ?_
    refine lv_isub hx hb dX2_restore_17 ?_
    refine lv_bipush (v := (nI 8)) hx hb dX2_restore_18 bp_8 ?_
    refine lv_irem hx hb dX2_restore_20 (by decide +kernel) ?_
    refine va_put (D := D) (ci := 2) (v := .int (((h_nx + (nI 8)) - (nI 1)) - ((h_nx + (nI 8)) - (nI 1)) / (nI 8) * (nI 8))) (ty := .int) (C := RX2) (T := TX2) (N := 3) hx hb hts hiX2 tyX2 tyX2_ok nmX2 hown hK.1 hP hD hS 0 rfl rfl 1 (by decide) hfl_15 (fun _ h9 => h9) rfl (tyX2_ok 1 (by decide)) rfl rfl (Nat.le_of_ble_eq_true rfl) dX2_restore_21 (fun H locs hP hD hS => ?_)
    have hP : va_P D vwCl [(h0, .inr (2, [.int h_sz, .int (((h_nx + (nI 8)) - (nI 1)) - ((h_nx + (nI 8)) - (nI 1)) / (nI 8) * (nI 8)), .ref h1])), (h1, .inl (cM, 8, .inr (.inr (.inr (.inr h_st))))), (y0, .inr (3, [.int y_n, .ref y1, .ref y2, .ref y3, .ref y4, .ref y5])), (y1, .inl (cI, 10, .inl y_L)), (y2, .inl (cI, 10, .inl y_U)), (y3, .inl (cI, 12, .inl y_H)), (y4, .inl (cI, 10, .inl y_O)), (y5, .inl (cI, 10, .inl y_B)), (a0, .inr (3, [.int a_n, .ref a1, .ref a2, .ref a3, .ref a4, .ref a5])), (a1, .inl (cI, 10, .inl a_L)), (a2, .inl (cI, 10, .inl a_U)), (a3, .inl (cI, 12, .inl a_H)), (a4, .inl (cI, 10, .inl a_O)), (a5, .inl (cI, 10, .inl a_B))] H := hP
    have hD : va_D A [(h0, .inr (2, [.int h_sz, .int (((h_nx + (nI 8)) - (nI 1)) - ((h_nx + (nI 8)) - (nI 1)) / (nI 8) * (nI 8)), .ref h1])), (h1, .inl (cM, 8, .inr (.inr (.inr (.inr h_st))))), (y0, .inr (3, [.int y_n, .ref y1, .ref y2, .ref y3, .ref y4, .ref y5])), (y1, .inl (cI, 10, .inl y_L)), (y2, .inl (cI, 10, .inl y_U)), (y3, .inl (cI, 12, .inl y_H)), (y4, .inl (cI, 10, .inl y_O)), (y5, .inl (cI, 10, .inl y_B)), (a0, .inr (3, [.int a_n, .ref a1, .ref a2, .ref a3, .ref a4, .ref a5])), (a1, .inl (cI, 10, .inl a_L)), (a2, .inl (cI, 10, .inl a_U)), (a3, .inl (cI, 12, .inl a_H)), (a4, .inl (cI, 10, .inl a_O)), (a5, .inl (cI, 10, .inl a_B))] := hD
    refine lv_aload_n hx hb dX2_restore_24 rfl (lv_at hl 0 rfl) ?_
    refine lv_dup hx hb dX2_restore_25 rfl ?_
    refine va_get (D := D) (ci := 2) (v := .int h_sz) (C := RX2) (T := TX2) (N := 3) hx hb hts hiX2 hown hK.1 hP 0 rfl rfl 0 (by decide) hfl_9 (fun _ h9 => h9) rfl dX2_restore_26 ?_
    refine lv_iconst (v := (nI 1)) hx hb dX2_restore_29 ic_1 ?_
    refine lv_isub hx hb dX2_restore_30 ?_
    refine va_put (D := D) (ci := 2) (v := .int (h_sz - (nI 1))) (ty := .int) (C := RX2) (T := TX2) (N := 3) hx hb hts hiX2 tyX2 tyX2_ok nmX2 hown hK.1 hP hD hS 0 rfl rfl 0 (by decide) hfl_9 (fun _ h9 => h9) rfl (tyX2_ok 0 (by decide)) rfl rfl (Nat.le_of_ble_eq_true rfl) dX2_restore_31 (fun H locs hP hD hS => ?_)
    have hP : va_P D vwCl [(h0, .inr (2, [.int (h_sz - (nI 1)), .int (((h_nx + (nI 8)) - (nI 1)) - ((h_nx + (nI 8)) - (nI 1)) / (nI 8) * (nI 8)), .ref h1])), (h1, .inl (cM, 8, .inr (.inr (.inr (.inr h_st))))), (y0, .inr (3, [.int y_n, .ref y1, .ref y2, .ref y3, .ref y4, .ref y5])), (y1, .inl (cI, 10, .inl y_L)), (y2, .inl (cI, 10, .inl y_U)), (y3, .inl (cI, 12, .inl y_H)), (y4, .inl (cI, 10, .inl y_O)), (y5, .inl (cI, 10, .inl y_B)), (a0, .inr (3, [.int a_n, .ref a1, .ref a2, .ref a3, .ref a4, .ref a5])), (a1, .inl (cI, 10, .inl a_L)), (a2, .inl (cI, 10, .inl a_U)), (a3, .inl (cI, 12, .inl a_H)), (a4, .inl (cI, 10, .inl a_O)), (a5, .inl (cI, 10, .inl a_B))] H := hP
    have hD : va_D A [(h0, .inr (2, [.int (h_sz - (nI 1)), .int (((h_nx + (nI 8)) - (nI 1)) - ((h_nx + (nI 8)) - (nI 1)) / (nI 8) * (nI 8)), .ref h1])), (h1, .inl (cM, 8, .inr (.inr (.inr (.inr h_st))))), (y0, .inr (3, [.int y_n, .ref y1, .ref y2, .ref y3, .ref y4, .ref y5])), (y1, .inl (cI, 10, .inl y_L)), (y2, .inl (cI, 10, .inl y_U)), (y3, .inl (cI, 12, .inl y_H)), (y4, .inl (cI, 10, .inl y_O)), (y5, .inl (cI, 10, .inl y_B)), (a0, .inr (3, [.int a_n, .ref a1, .ref a2, .ref a3, .ref a4, .ref a5])), (a1, .inl (cI, 10, .inl a_L)), (a2, .inl (cI, 10, .inl a_U)), (a3, .inl (cI, 12, .inl a_H)), (a4, .inl (cI, 10, .inl a_O)), (a5, .inl (cI, 10, .inl a_B))] := hD
    refine lv_aload_n hx hb dX2_restore_34 rfl (lv_at hl 1 rfl) ?_
    refine lv_aload_n hx hb dX2_restore_35 rfl (lv_at hl 0 rfl) ?_
    refine va_get (D := D) (ci := 2) (v := .ref h1) (C := RX2) (T := TX2) (N := 3) hx hb hts hiX2 hown hK.1 hP 0 rfl rfl 2 (by decide) hfl_20 (fun _ h9 => h9) rfl dX2_restore_36 ?_
    refine lv_aload_n hx hb dX2_restore_39 rfl (lv_at hl 0 rfl) ?_
    refine va_get (D := D) (ci := 2) (v := .int (((h_nx + (nI 8)) - (nI 1)) - ((h_nx + (nI 8)) - (nI 1)) / (nI 8) * (nI 8))) (C := RX2) (T := TX2) (N := 3) hx hb hts hiX2 hown hK.1 hP 0 rfl rfl 1 (by decide) hfl_15 (fun _ h9 => h9) rfl dX2_restore_40 ?_
    obtain ⟨hi, hf⟩ := gd_some hf
    refine aldq hx hb hK.1 hP 1 2 rfl rfl hi hg dX2_restore_43 ?_
    obtain ⟨rv1, hrv1, hf⟩ := bd hf
    refine muV0 (wr := [(h0, .inr (2, [.int (h_sz - (nI 1)), .int (((h_nx + (nI 8)) - (nI 1)) - ((h_nx + (nI 8)) - (nI 1)) / (nI 8) * (nI 8)), .ref h1])), (h1, .inl (cM, 8, .inr (.inr (.inr (.inr h_st)))))]) (va_runV (As := [.ref y0]) (rest := []) ⟨hx, hb, hml, hown, hts⟩ (c_X3_become l D cI cZ cM a0 a1 a2 a3 a4 a5 y0 y1 y2 y3 y4 y5 _ a_n a_L a_U a_H a_O a_B y_n y_L y_U y_H y_O y_B fu rv1.1 rv1.2.1 rv1.2.2.1 rv1.2.2.2.1 rv1.2.2.2.2.1 rv1.2.2.2.2.2 hrv1) (cwV 1 hts gX2_restore_X3_become rfl rfl rfl ⟨rfl, hdc_X3_become⟩ ⟨Nat.le_of_ble_eq_true rfl, Nat.le_of_ble_eq_true rfl⟩) (pmV hK hP hD [8, 9, 10, 11, 12, 13, 2, 3, 4, 5, 6, 7] (by decide) rfl rfl (ci := 3) (q0 := 8) rfl rfl) rfl rfl hl.1 rfl (lv_room (Nat.le_of_ble_eq_true rfl)) dX2_restore_44 ⟨Nat.zero_le _, Nat.zero_le _⟩) hP hD hS hA [8, 9, 10, 11, 12, 13, 2, 3, 4, 5, 6, 7] [0, 1] rfl rfl (by decide) (by decide) (fun H locs hP hD hS => ?_)
    have hP : va_P D vwCl [(h0, .inr (2, [.int (h_sz - (nI 1)), .int (((h_nx + (nI 8)) - (nI 1)) - ((h_nx + (nI 8)) - (nI 1)) / (nI 8) * (nI 8)), .ref h1])), (h1, .inl (cM, 8, .inr (.inr (.inr (.inr h_st))))), (a0, .inr (3, [.int rv1.1, .ref a1, .ref a2, .ref a3, .ref a4, .ref a5])), (a1, .inl (cI, 10, .inl rv1.2.1)), (a2, .inl (cI, 10, .inl rv1.2.2.1)), (a3, .inl (cI, 12, .inl rv1.2.2.2.1)), (a4, .inl (cI, 10, .inl rv1.2.2.2.2.1)), (a5, .inl (cI, 10, .inl rv1.2.2.2.2.2)), (y0, .inr (3, [.int y_n, .ref y1, .ref y2, .ref y3, .ref y4, .ref y5])), (y1, .inl (cI, 10, .inl y_L)), (y2, .inl (cI, 10, .inl y_U)), (y3, .inl (cI, 12, .inl y_H)), (y4, .inl (cI, 10, .inl y_O)), (y5, .inl (cI, 10, .inl y_B))] H := hP
    have hD : va_D A [(h0, .inr (2, [.int (h_sz - (nI 1)), .int (((h_nx + (nI 8)) - (nI 1)) - ((h_nx + (nI 8)) - (nI 1)) / (nI 8) * (nI 8)), .ref h1])), (h1, .inl (cM, 8, .inr (.inr (.inr (.inr h_st))))), (a0, .inr (3, [.int rv1.1, .ref a1, .ref a2, .ref a3, .ref a4, .ref a5])), (a1, .inl (cI, 10, .inl rv1.2.1)), (a2, .inl (cI, 10, .inl rv1.2.2.1)), (a3, .inl (cI, 12, .inl rv1.2.2.2.1)), (a4, .inl (cI, 10, .inl rv1.2.2.2.2.1)), (a5, .inl (cI, 10, .inl rv1.2.2.2.2.2)), (y0, .inr (3, [.int y_n, .ref y1, .ref y2, .ref y3, .ref y4, .ref y5])), (y1, .inl (cI, 10, .inl y_L)), (y2, .inl (cI, 10, .inl y_U)), (y3, .inl (cI, 12, .inl y_H)), (y4, .inl (cI, 10, .inl y_O)), (y5, .inl (cI, 10, .inl y_B))] := hD
    cases hf
    exact W.vret hx hb hr (fun t ht _ => ⟨⟨rfl, by rw [ht]; exact (hP.sub [0, 1, 8, 9, 10, 11, 12, 13, 2, 3, 4, 5, 6, 7] rfl), (hD.sub [0, 1, 8, 9, 10, 11, 12, 13, 2, 3, 4, 5, 6, 7] (by decide) rfl)⟩, hS.F ht⟩) hS.2.2 dX2_restore_47
  · have hf := ifp hc hf
    cases hf
    exact W.vret hx hb hr (fun t ht _ => ⟨⟨rfl, by rw [ht]; exact hP, hD⟩, hS.F ht⟩) hS.2.2 dX2_restore_7
theorem hdc_X2_forget : yX2_forget.cls ≠ "java/lang/invoke/MethodHandle" ∧ yX2_forget.cls ≠ "java/lang/invoke/VarHandle" ∧ (parseMethodDescriptor yX2_forget.desc).map (fun d => d.parameters.length) = some 0 := by decide +kernel
set_option maxHeartbeats 4000000 in
set_option maxRecDepth 100000 in
theorem c_X2_forget (l : Launch) (D : va_G) (cI cZ cM : ClassId) (h0 h1 : Nat) (sz : Nat) (h_sz : Int32) (h_nx : Int32) (h_st : Nat → Option Nat) (h_sz' : Int32) (hf : m_X2_forget = some h_sz') : Met l yX2_forget wsX2_forget ({ frames := 0, cells := 0, slots := 0, locals := 0 }) (pM D cI cZ cM sz [(h0, .inr (2, [.int h_sz, .int h_nx, .ref h1])), (h1, .inl (cM, 8, .inr (.inr (.inr (.inr h_st)))))] [.ref h0]) (qV D [(h0, .inr (2, [.int h_sz', .int h_nx, .ref h1])), (h1, .inl (cM, 8, .inr (.inr (.inr (.inr h_st)))))] (va_A [(h0, .inr (2, [.int h_sz, .int h_nx, .ref h1])), (h1, .inl (cM, 8, .inr (.inr (.inr (.inr h_st)))))] sz)) 0 0 (va_A [(h0, .inr (2, [.int h_sz, .int h_nx, .ref h1])), (h1, .inl (cM, 8, .inr (.inr (.inr (.inr h_st)))))] sz) := by
  refine Met.ofW (cc := cX2_forget) (maxL := 1) (ret := none) (by decide) rfl ?_
  intro p e s m args below meth c s₁ B hml hv
  obtain ⟨rfl, hsz, hP, hK, hD0⟩ := hv
  have hx := B.exec
  have hb := B.bytes
  have hr := B.returns
  have hts := atoms_spec (ws := wsX2_forget) B.pre
  have hown : s.vm.findClass RX2 = some m.cls := findClass_of_methodNamed B.named
  have hlocks := B.notSynchronized
  subst hsz
  have hD := hD0.self (sz := s.heap.size)
  generalize hAe : va_A [(h0, .inr (2, [.int h_sz, .int h_nx, .ref h1])), (h1, .inl (cM, 8, .inr (.inr (.inr (.inr h_st)))))] s.heap.size = A at hD ⊢
  have hA : ∀ q : Nat, s.heap.size ≤ q → A q := fun q h => by rw [← hAe]; exact Or.inr h
  clear hAe hD0
  have hfl_9 := hts (.fieldLink RX2 9 "TermsFirst$History" "size" "I") (List.mem_cons_of_mem _ (List.mem_append_left _ (List.mem_of_getElem? (i := 0) rfl)))
  have hiX2 : ∀ w ∈ u_ws RX2 TX2 3, w ∈ wsX2_forget := fun _ h => (List.mem_cons_of_mem _ (List.mem_append_right _ h))
  have hl := lv_entry ([.ref h0]) (n := 1) (Nat.le_of_ble_eq_true rfl)
  rw [lg_entry_eq]
  generalize (lg_sl ([.ref h0]) ++ List.replicate (1 - (lg_sl ([.ref h0])).length) Slot.unset).toArray = ls at hl ⊢
  have hl : lv_has ls 1 [(0, .ref h0)] := hl
  have hS : va_S A s.heap s.heap [] := va_S.rf
  unfold m_X2_forget at hf
  refine lv_aload_n hx hb dX2_forget_0 rfl (lv_at hl 0 rfl) ?_
  refine lv_iconst (v := (nI 0)) hx hb dX2_forget_1 ic_0 ?_
  refine va_put (D := D) (ci := 2) (v := .int (nI 0)) (ty := .int) (C := RX2) (T := TX2) (N := 3) hx hb hts hiX2 tyX2 tyX2_ok nmX2 hown hK.1 hP hD hS 0 rfl rfl 0 (by decide) hfl_9 (fun _ h9 => h9) rfl (tyX2_ok 0 (by decide)) rfl rfl (Nat.le_of_ble_eq_true rfl) dX2_forget_2 (fun H locs hP hD hS => ?_)
  have hP : va_P D vwCl [(h0, .inr (2, [.int (nI 0), .int h_nx, .ref h1])), (h1, .inl (cM, 8, .inr (.inr (.inr (.inr h_st)))))] H := hP
  have hD : va_D A [(h0, .inr (2, [.int (nI 0), .int h_nx, .ref h1])), (h1, .inl (cM, 8, .inr (.inr (.inr (.inr h_st)))))] := hD
  cases hf
  exact W.vret hx hb hr (fun t ht _ => ⟨⟨rfl, by rw [ht]; exact hP, hD⟩, hS.F ht⟩) hS.2.2 dX2_forget_5
theorem hdc_X3_hasSection : yX3_hasSection.cls ≠ "java/lang/invoke/MethodHandle" ∧ yX3_hasSection.cls ≠ "java/lang/invoke/VarHandle" ∧ (parseMethodDescriptor yX3_hasSection.desc).map (fun d => d.parameters.length) = some 1 := by decide +kernel
set_option maxHeartbeats 4000000 in
set_option maxRecDepth 100000 in
theorem c_X3_hasSection (l : Launch) (D : va_G) (cI cZ cM : ClassId) (a0 a1 a2 a3 a4 a5 : Nat) (a_n : Int32) (a_L : Nat → Int32) (a_U : Nat → Int32) (a_H : Nat → Int32) (a_O : Nat → Int32) (a_B : Nat → Int32) (x1 : Int32) (r : Int32) (hf : m_X3_hasSection a_n x1 = some r) : Met l yX3_hasSection wsX3_hasSection ({ frames := 0, cells := 0, slots := 0, locals := 0 }) (pR D cI cZ cM [(a0, .inr (3, [.int a_n, .ref a1, .ref a2, .ref a3, .ref a4, .ref a5])), (a1, .inl (cI, 10, .inl a_L)), (a2, .inl (cI, 10, .inl a_U)), (a3, .inl (cI, 12, .inl a_H)), (a4, .inl (cI, 10, .inl a_O)), (a5, .inl (cI, 10, .inl a_B))] [.ref a0, .int x1]) (qR r) 0 0 (fun _ => False) := by
  refine Met.ofW (cc := cX3_hasSection) (maxL := 2) (ret := (some .boolean)) (by decide) rfl ?_
  intro p e s m args below meth c s₁ B hml hv
  obtain ⟨rfl, hP, hK⟩ := hv
  have hx := B.exec
  have hb := B.bytes
  have hr := B.returns
  have hts := atoms_spec (ws := wsX3_hasSection) B.pre
  have hown : s.vm.findClass RX3 = some m.cls := findClass_of_methodNamed B.named
  have hlocks := B.notSynchronized
  have hfl_31 := hts (.fieldLink RX3 31 "TermsFirst$Manual" "n" "I") (List.mem_cons_of_mem _ (List.mem_append_left _ (List.mem_of_getElem? (i := 0) rfl)))
  have hiX3 : ∀ w ∈ u_ws RX3 TX3 6, w ∈ wsX3_hasSection := fun _ h => (List.mem_cons_of_mem _ (List.mem_append_right _ h))
  have hl := lv_entry ([.ref a0, .int x1]) (n := 2) (Nat.le_of_ble_eq_true rfl)
  rw [lg_entry_eq]
  generalize (lg_sl ([.ref a0, .int x1]) ++ List.replicate (2 - (lg_sl ([.ref a0, .int x1])).length) Slot.unset).toArray = ls at hl ⊢
  have hl : lv_has ls 2 [(0, .ref a0), (1, .int x1)] := hl
  unfold m_X3_hasSection at hf
  refine lv_iload_n hx hb dX3_hasSection_0 rfl (lv_at hl 1 rfl) ?_
  refine lv_if_lt (tgt := 16) hx hb dX3_hasSection_1 (by decide) (fun hc => ?_) (fun hc => ?_)
  · have hf := ifp hc hf
    refine lv_iconst (v := (nI 0)) hx hb dX3_hasSection_16 ic_0 ?_
    cases hf
    exact W.zret hx hb hr zbl_0.1 (fun t ht _ => ⟨rfl, ht⟩) (fun _ h => nomatch h) dX3_hasSection_17
  · have hf := ifn hc hf
    refine lv_iload_n hx hb dX3_hasSection_4 rfl (lv_at hl 1 rfl) ?_
    refine lv_aload_n hx hb dX3_hasSection_5 rfl (lv_at hl 0 rfl) ?_
    refine va_get (D := D) (ci := 3) (v := .int a_n) (C := RX3) (T := TX3) (N := 6) hx hb hts hiX3 hown hK.1 hP 0 rfl rfl 0 (by decide) hfl_31 (fun _ h9 => h9) rfl dX3_hasSection_6 ?_
    refine lv_icmp_ge (tgt := 16) hx hb dX3_hasSection_9 (by decide) (fun hc => ?_) (fun hc => ?_)
    · have hf := ifp hc hf
      refine lv_iconst (v := (nI 0)) hx hb dX3_hasSection_16 ic_0 ?_
      cases hf
      exact W.zret hx hb hr zbl_0.1 (fun t ht _ => ⟨rfl, ht⟩) (fun _ h => nomatch h) dX3_hasSection_17
    · have hf := ifn hc hf
      refine lv_iconst (v := (nI 1)) hx hb dX3_hasSection_12 ic_1 ?_
      refine lv_goto (tgt := 17) hx hb dX3_hasSection_13 (by decide) ?_
      cases hf
      exact W.zret hx hb hr zbl_1.1 (fun t ht _ => ⟨rfl, ht⟩) (fun _ h => nomatch h) dX3_hasSection_17
theorem hdc_X3_hasPlace : yX3_hasPlace.cls ≠ "java/lang/invoke/MethodHandle" ∧ yX3_hasPlace.cls ≠ "java/lang/invoke/VarHandle" ∧ (parseMethodDescriptor yX3_hasPlace.desc).map (fun d => d.parameters.length) = some 1 := by decide +kernel
set_option maxHeartbeats 4000000 in
set_option maxRecDepth 100000 in
theorem c_X3_hasPlace (l : Launch) (D : va_G) (cI cZ cM : ClassId) (a0 a1 a2 a3 a4 a5 : Nat) (a_n : Int32) (a_L : Nat → Int32) (a_U : Nat → Int32) (a_H : Nat → Int32) (a_O : Nat → Int32) (a_B : Nat → Int32) (x1 : Int32) (r : Int32) (hf : m_X3_hasPlace a_n x1 = some r) : Met l yX3_hasPlace wsX3_hasPlace ({ frames := 0, cells := 0, slots := 0, locals := 0 }) (pR D cI cZ cM [(a0, .inr (3, [.int a_n, .ref a1, .ref a2, .ref a3, .ref a4, .ref a5])), (a1, .inl (cI, 10, .inl a_L)), (a2, .inl (cI, 10, .inl a_U)), (a3, .inl (cI, 12, .inl a_H)), (a4, .inl (cI, 10, .inl a_O)), (a5, .inl (cI, 10, .inl a_B))] [.ref a0, .int x1]) (qR r) 0 0 (fun _ => False) := by
  refine Met.ofW (cc := cX3_hasPlace) (maxL := 2) (ret := (some .boolean)) (by decide) rfl ?_
  intro p e s m args below meth c s₁ B hml hv
  obtain ⟨rfl, hP, hK⟩ := hv
  have hx := B.exec
  have hb := B.bytes
  have hr := B.returns
  have hts := atoms_spec (ws := wsX3_hasPlace) B.pre
  have hown : s.vm.findClass RX3 = some m.cls := findClass_of_methodNamed B.named
  have hlocks := B.notSynchronized
  have hfl_31 := hts (.fieldLink RX3 31 "TermsFirst$Manual" "n" "I") (List.mem_cons_of_mem _ (List.mem_append_left _ (List.mem_of_getElem? (i := 0) rfl)))
  have hiX3 : ∀ w ∈ u_ws RX3 TX3 6, w ∈ wsX3_hasPlace := fun _ h => (List.mem_cons_of_mem _ (List.mem_append_right _ h))
  have hl := lv_entry ([.ref a0, .int x1]) (n := 2) (Nat.le_of_ble_eq_true rfl)
  rw [lg_entry_eq]
  generalize (lg_sl ([.ref a0, .int x1]) ++ List.replicate (2 - (lg_sl ([.ref a0, .int x1])).length) Slot.unset).toArray = ls at hl ⊢
  have hl : lv_has ls 2 [(0, .ref a0), (1, .int x1)] := hl
  unfold m_X3_hasPlace at hf
  refine lv_iload_n hx hb dX3_hasPlace_0 rfl (lv_at hl 1 rfl) ?_
  refine lv_if_lt (tgt := 16) hx hb dX3_hasPlace_1 (by decide) (fun hc => ?_) (fun hc => ?_)
  · have hf := ifp hc hf
    refine lv_iconst (v := (nI 0)) hx hb dX3_hasPlace_16 ic_0 ?_
    cases hf
    exact W.zret hx hb hr zbl_0.1 (fun t ht _ => ⟨rfl, ht⟩) (fun _ h => nomatch h) dX3_hasPlace_17
  · have hf := ifn hc hf
    refine lv_iload_n hx hb dX3_hasPlace_4 rfl (lv_at hl 1 rfl) ?_
    refine lv_aload_n hx hb dX3_hasPlace_5 rfl (lv_at hl 0 rfl) ?_
    refine va_get (D := D) (ci := 3) (v := .int a_n) (C := RX3) (T := TX3) (N := 6) hx hb hts hiX3 hown hK.1 hP 0 rfl rfl 0 (by decide) hfl_31 (fun _ h9 => h9) rfl dX3_hasPlace_6 ?_
    refine lv_icmp_ge (tgt := 16) hx hb dX3_hasPlace_9 (by decide) (fun hc => ?_) (fun hc => ?_)
    · have hf := ifp hc hf
      refine lv_iconst (v := (nI 0)) hx hb dX3_hasPlace_16 ic_0 ?_
      cases hf
      exact W.zret hx hb hr zbl_0.1 (fun t ht _ => ⟨rfl, ht⟩) (fun _ h => nomatch h) dX3_hasPlace_17
    · have hf := ifn hc hf
      refine lv_iconst (v := (nI 1)) hx hb dX3_hasPlace_12 ic_1 ?_
      refine lv_goto (tgt := 17) hx hb dX3_hasPlace_13 (by decide) ?_
      cases hf
      exact W.zret hx hb hr zbl_1.1 (fun t ht _ => ⟨rfl, ht⟩) (fun _ h => nomatch h) dX3_hasPlace_17
