theorem hdc_X1_readClause : yX1_readClause.cls ≠ "java/lang/invoke/MethodHandle" ∧ yX1_readClause.cls ≠ "java/lang/invoke/VarHandle" ∧ (parseMethodDescriptor yX1_readClause.desc).map (fun d => d.parameters.length) = some 1 := by decide +kernel
set_option maxHeartbeats 4000000 in
set_option maxRecDepth 100000 in
theorem c_X1_readClause (l : Launch) (D : va_G) (cI cZ cM : ClassId) (r0 r1 t0 t1 b0 b1 b2 b3 b4 b5 : Nat) (sz : Nat) (eb : Nat) (adK adV : Nat → Nat) (r_cl : Int32) (r_no : Nat → Int32) (t_len : Int32) (t_st : Int32) (t_nx : Int32) (t_kd : Int32) (t_by : Nat → Int32) (b_n : Int32) (b_L : Nat → Int32) (b_U : Nat → Int32) (b_H : Nat → Int32) (b_O : Nat → Int32) (b_B : Nat → Int32) (fu : Nat) (r : Int32) (r_no' : Nat → Int32) (t_st' : Int32) (t_nx' : Int32) (t_kd' : Int32) (b_n' : Int32) (b_L' : Nat → Int32) (b_U' : Nat → Int32) (b_H' : Nat → Int32) (b_O' : Nat → Int32) (b_B' : Nat → Int32) (hf : m_X1_readClause fu r_no t_len t_st t_nx t_kd t_by b_n b_L b_U b_H b_O b_B = some (r, r_no', t_st', t_nx', t_kd', b_n', b_L', b_U', b_H', b_O', b_B')) : Met l yX1_readClause wsX1_readClause ({ frames := 5, cells := 0, slots := 0, locals := 107 }) (pMs D cI cZ cM sz eb adK adV [(r0, .inr (1, [.int r_cl, .ref t0, .ref r1])), (r1, .inl (cI, 10, .inl r_no)), (t0, .inr (5, [.int t_len, .int t_st, .int t_nx, .int t_kd, .ref t1])), (t1, .inl (cI, 200, .inl t_by)), (b0, .inr (3, [.int b_n, .ref b1, .ref b2, .ref b3, .ref b4, .ref b5])), (b1, .inl (cI, 10, .inl b_L)), (b2, .inl (cI, 10, .inl b_U)), (b3, .inl (cI, 12, .inl b_H)), (b4, .inl (cI, 10, .inl b_O)), (b5, .inl (cI, 10, .inl b_B))] [.ref r0, .ref b0]) (qI D r [(r0, .inr (1, [.int r_cl, .ref t0, .ref r1])), (r1, .inl (cI, 10, .inl r_no')), (t0, .inr (5, [.int t_len, .int t_st', .int t_nx', .int t_kd', .ref t1])), (t1, .inl (cI, 200, .inl t_by)), (b0, .inr (3, [.int b_n', .ref b1, .ref b2, .ref b3, .ref b4, .ref b5])), (b1, .inl (cI, 10, .inl b_L')), (b2, .inl (cI, 10, .inl b_U')), (b3, .inl (cI, 12, .inl b_H')), (b4, .inl (cI, 10, .inl b_O')), (b5, .inl (cI, 10, .inl b_B'))] (va_A [(r0, .inr (1, [.int r_cl, .ref t0, .ref r1])), (r1, .inl (cI, 10, .inl r_no)), (t0, .inr (5, [.int t_len, .int t_st, .int t_nx, .int t_kd, .ref t1])), (t1, .inl (cI, 200, .inl t_by)), (b0, .inr (3, [.int b_n, .ref b1, .ref b2, .ref b3, .ref b4, .ref b5])), (b1, .inl (cI, 10, .inl b_L)), (b2, .inl (cI, 10, .inl b_U)), (b3, .inl (cI, 12, .inl b_H)), (b4, .inl (cI, 10, .inl b_O)), (b5, .inl (cI, 10, .inl b_B))] sz)) 0 0 (va_A [(r0, .inr (1, [.int r_cl, .ref t0, .ref r1])), (r1, .inl (cI, 10, .inl r_no)), (t0, .inr (5, [.int t_len, .int t_st, .int t_nx, .int t_kd, .ref t1])), (t1, .inl (cI, 200, .inl t_by)), (b0, .inr (3, [.int b_n, .ref b1, .ref b2, .ref b3, .ref b4, .ref b5])), (b1, .inl (cI, 10, .inl b_L)), (b2, .inl (cI, 10, .inl b_U)), (b3, .inl (cI, 12, .inl b_H)), (b4, .inl (cI, 10, .inl b_O)), (b5, .inl (cI, 10, .inl b_B))] sz) := by
  refine Met.ofW (cc := cX1_readClause) (maxL := 2) (ret := (some .boolean)) (by decide) rfl ?_
  intro p e s m args below meth c s₁ B hml hv
  obtain ⟨rfl, hsz, hP, hK, hD0, heb, hE⟩ := hv
  have hx := B.exec
  have hb := B.bytes
  have hr := B.returns
  have hts := atoms_spec (ws := wsX1_readClause) B.pre
  have hown : s.vm.findClass RX1 = some m.cls := findClass_of_methodNamed B.named
  have hlocks := B.notSynchronized
  subst hsz
  have hD := hD0.self (sz := s.heap.size)
  generalize hAe : va_A [(r0, .inr (1, [.int r_cl, .ref t0, .ref r1])), (r1, .inl (cI, 10, .inl r_no)), (t0, .inr (5, [.int t_len, .int t_st, .int t_nx, .int t_kd, .ref t1])), (t1, .inl (cI, 200, .inl t_by)), (b0, .inr (3, [.int b_n, .ref b1, .ref b2, .ref b3, .ref b4, .ref b5])), (b1, .inl (cI, 10, .inl b_L)), (b2, .inl (cI, 10, .inl b_U)), (b3, .inl (cI, 12, .inl b_H)), (b4, .inl (cI, 10, .inl b_O)), (b5, .inl (cI, 10, .inl b_B))] s.heap.size = A at hD ⊢
  have hA : ∀ q : Nat, s.heap.size ≤ q → A q := fun q h => by rw [← hAe]; exact Or.inr h
  have hAb : ∀ q, A q → eb ≤ q := fun q h => by
      rw [← hAe] at h
      rcases h with ⟨k, e, h⟩ | h
      · exact hD0.2 k _ h
      · exact Nat.le_trans heb h
  clear hAe hD0
  have hfl_19 := hts (.fieldLink RX1 19 "TermsFirst$ClauseReader" "text" "LTermsFirst$Text;") (by decide +kernel)
  have hiX1 : ∀ w ∈ u_ws RX1 TX1 3, w ∈ wsX1_readClause := by decide +kernel
  have hl := lv_entry ([.ref r0, .ref b0]) (n := 2) (Nat.le_of_ble_eq_true rfl)
  rw [lg_entry_eq]
  generalize (lg_sl ([.ref r0, .ref b0]) ++ List.replicate (2 - (lg_sl ([.ref r0, .ref b0])).length) Slot.unset).toArray = ls at hl ⊢
  have hl : lv_has ls 2 [(0, .ref r0), (1, .ref b0)] := hl
  have hS : va_S A s.heap s.heap [] := va_S.rf
  unfold m_X1_readClause at hf
  refine lv_aload_n hx hb dX1_readClause_0 rfl (lv_at hl 0 rfl) ?_
  refine va_get (D := D) (ci := 1) (v := .ref t0) (C := RX1) (T := TX1) (N := 3) hx hb hts hiX1 hown hK.1 hP 0 rfl rfl 1 (by decide) hfl_19 (fun _ h9 => h9) rfl dX1_readClause_1 ?_
  refine va_ldcS hx hb hown (hE 0 (by decide)).2 dX1_readClause_4 ?_
  obtain ⟨q1, hq1, hf⟩ := bd hf
  refine roI (va_runV (As := [.ref (adK 0)]) (rest := []) ⟨hx, hb, hml, hown, hts⟩ (c_X5_isWord l D cI cZ cM t0 t1 (adK 0) (adV 0) (wlen 0) (wch 0) (wlen_lt 0 (by decide)) (wch_ok 0 (by decide)) t_len t_st t_nx t_kd t_by fu q1 hq1) (cwV 1 hts gX1_readClause_X5_isWord rfl rfl rfl ⟨rfl, hdc_X5_isWord⟩ ⟨Nat.le_of_ble_eq_true rfl, Nat.le_of_ble_eq_true rfl⟩) (prVs hK hP [2, 3] rfl (ci := 5) (q0 := 2) rfl rfl (hE.at hAb hS 0 (by decide))) rfl rfl hl.1 rfl (lv_room (Nat.le_of_ble_eq_true rfl)) dX1_readClause_6 ⟨Nat.zero_le _, Nat.zero_le _⟩) ?_
  refine lv_if_eq (tgt := 18) hx hb dX1_readClause_9 (by decide) (fun hc => ?_) (fun hc => ?_)
  · have hf := ifp hc hf
    refine lv_aload_n hx hb dX1_readClause_18 rfl (lv_at hl 0 rfl) ?_
    refine va_get (D := D) (ci := 1) (v := .ref t0) (C := RX1) (T := TX1) (N := 3) hx hb hts hiX1 hown hK.1 hP 0 rfl rfl 1 (by decide) hfl_19 (fun _ h9 => h9) rfl dX1_readClause_19 ?_
    refine va_ldcS hx hb hown (hE 1 (by decide)).2 dX1_readClause_22 ?_
    obtain ⟨q2, hq2, hf⟩ := bd hf
    refine roI (va_runV (As := [.ref (adK 1)]) (rest := []) ⟨hx, hb, hml, hown, hts⟩ (c_X5_isWord l D cI cZ cM t0 t1 (adK 1) (adV 1) (wlen 1) (wch 1) (wlen_lt 1 (by decide)) (wch_ok 1 (by decide)) t_len t_st t_nx t_kd t_by fu q2 hq2) (cwV 1 hts gX1_readClause_X5_isWord rfl rfl rfl ⟨rfl, hdc_X5_isWord⟩ ⟨Nat.le_of_ble_eq_true rfl, Nat.le_of_ble_eq_true rfl⟩) (prVs hK hP [2, 3] rfl (ci := 5) (q0 := 2) rfl rfl (hE.at hAb hS 1 (by decide))) rfl rfl hl.1 rfl (lv_room (Nat.le_of_ble_eq_true rfl)) dX1_readClause_24 ⟨Nat.zero_le _, Nat.zero_le _⟩) ?_
    refine lv_if_eq (tgt := 36) hx hb dX1_readClause_27 (by decide) (fun hc => ?_) (fun hc => ?_)
    · have hf := ifp hc hf
      refine lv_aload_n hx hb dX1_readClause_36 rfl (lv_at hl 0 rfl) ?_
      refine va_get (D := D) (ci := 1) (v := .ref t0) (C := RX1) (T := TX1) (N := 3) hx hb hts hiX1 hown hK.1 hP 0 rfl rfl 1 (by decide) hfl_19 (fun _ h9 => h9) rfl dX1_readClause_37 ?_
      refine va_ldcS hx hb hown (hE 2 (by decide)).2 dX1_readClause_40 ?_
      obtain ⟨q3, hq3, hf⟩ := bd hf
      refine roI (va_runV (As := [.ref (adK 2)]) (rest := []) ⟨hx, hb, hml, hown, hts⟩ (c_X5_isWord l D cI cZ cM t0 t1 (adK 2) (adV 2) (wlen 2) (wch 2) (wlen_lt 2 (by decide)) (wch_ok 2 (by decide)) t_len t_st t_nx t_kd t_by fu q3 hq3) (cwV 1 hts gX1_readClause_X5_isWord rfl rfl rfl ⟨rfl, hdc_X5_isWord⟩ ⟨Nat.le_of_ble_eq_true rfl, Nat.le_of_ble_eq_true rfl⟩) (prVs hK hP [2, 3] rfl (ci := 5) (q0 := 2) rfl rfl (hE.at hAb hS 2 (by decide))) rfl rfl hl.1 rfl (lv_room (Nat.le_of_ble_eq_true rfl)) dX1_readClause_42 ⟨Nat.zero_le _, Nat.zero_le _⟩) ?_
      refine lv_if_eq (tgt := 54) hx hb dX1_readClause_45 (by decide) (fun hc => ?_) (fun hc => ?_)
      · have hf := ifp hc hf
        refine lv_aload_n hx hb dX1_readClause_54 rfl (lv_at hl 0 rfl) ?_
        refine va_get (D := D) (ci := 1) (v := .ref t0) (C := RX1) (T := TX1) (N := 3) hx hb hts hiX1 hown hK.1 hP 0 rfl rfl 1 (by decide) hfl_19 (fun _ h9 => h9) rfl dX1_readClause_55 ?_
        refine va_ldcS hx hb hown (hE 3 (by decide)).2 dX1_readClause_58 ?_
        obtain ⟨q4, hq4, hf⟩ := bd hf
        refine roI (va_runV (As := [.ref (adK 3)]) (rest := []) ⟨hx, hb, hml, hown, hts⟩ (c_X5_isWord l D cI cZ cM t0 t1 (adK 3) (adV 3) (wlen 3) (wch 3) (wlen_lt 3 (by decide)) (wch_ok 3 (by decide)) t_len t_st t_nx t_kd t_by fu q4 hq4) (cwV 1 hts gX1_readClause_X5_isWord rfl rfl rfl ⟨rfl, hdc_X5_isWord⟩ ⟨Nat.le_of_ble_eq_true rfl, Nat.le_of_ble_eq_true rfl⟩) (prVs hK hP [2, 3] rfl (ci := 5) (q0 := 2) rfl rfl (hE.at hAb hS 3 (by decide))) rfl rfl hl.1 rfl (lv_room (Nat.le_of_ble_eq_true rfl)) dX1_readClause_60 ⟨Nat.zero_le _, Nat.zero_le _⟩) ?_
        refine lv_if_eq (tgt := 72) hx hb dX1_readClause_63 (by decide) (fun hc => ?_) (fun hc => ?_)
        · have hf := ifp hc hf
          refine lv_aload_n hx hb dX1_readClause_72 rfl (lv_at hl 0 rfl) ?_
          refine va_get (D := D) (ci := 1) (v := .ref t0) (C := RX1) (T := TX1) (N := 3) hx hb hts hiX1 hown hK.1 hP 0 rfl rfl 1 (by decide) hfl_19 (fun _ h9 => h9) rfl dX1_readClause_73 ?_
          refine va_ldcS hx hb hown (hE 4 (by decide)).2 dX1_readClause_76 ?_
          obtain ⟨q5, hq5, hf⟩ := bd hf
          refine roI (va_runV (As := [.ref (adK 4)]) (rest := []) ⟨hx, hb, hml, hown, hts⟩ (c_X5_isWord l D cI cZ cM t0 t1 (adK 4) (adV 4) (wlen 4) (wch 4) (wlen_lt 4 (by decide)) (wch_ok 4 (by decide)) t_len t_st t_nx t_kd t_by fu q5 hq5) (cwV 1 hts gX1_readClause_X5_isWord rfl rfl rfl ⟨rfl, hdc_X5_isWord⟩ ⟨Nat.le_of_ble_eq_true rfl, Nat.le_of_ble_eq_true rfl⟩) (prVs hK hP [2, 3] rfl (ci := 5) (q0 := 2) rfl rfl (hE.at hAb hS 4 (by decide))) rfl rfl hl.1 rfl (lv_room (Nat.le_of_ble_eq_true rfl)) dX1_readClause_78 ⟨Nat.zero_le _, Nat.zero_le _⟩) ?_
          refine lv_if_eq (tgt := 90) hx hb dX1_readClause_81 (by decide) (fun hc => ?_) (fun hc => ?_)
          · have hf := ifp hc hf
            refine lv_aload_n hx hb dX1_readClause_90 rfl (lv_at hl 0 rfl) ?_
            refine va_get (D := D) (ci := 1) (v := .ref t0) (C := RX1) (T := TX1) (N := 3) hx hb hts hiX1 hown hK.1 hP 0 rfl rfl 1 (by decide) hfl_19 (fun _ h9 => h9) rfl dX1_readClause_91 ?_
            refine va_ldcS hx hb hown (hE 5 (by decide)).2 dX1_readClause_94 ?_
            obtain ⟨q6, hq6, hf⟩ := bd hf
            refine roI (va_runV (As := [.ref (adK 5)]) (rest := []) ⟨hx, hb, hml, hown, hts⟩ (c_X5_isWord l D cI cZ cM t0 t1 (adK 5) (adV 5) (wlen 5) (wch 5) (wlen_lt 5 (by decide)) (wch_ok 5 (by decide)) t_len t_st t_nx t_kd t_by fu q6 hq6) (cwV 1 hts gX1_readClause_X5_isWord rfl rfl rfl ⟨rfl, hdc_X5_isWord⟩ ⟨Nat.le_of_ble_eq_true rfl, Nat.le_of_ble_eq_true rfl⟩) (prVs hK hP [2, 3] rfl (ci := 5) (q0 := 2) rfl rfl (hE.at hAb hS 5 (by decide))) rfl rfl hl.1 rfl (lv_room (Nat.le_of_ble_eq_true rfl)) dX1_readClause_96 ⟨Nat.zero_le _, Nat.zero_le _⟩) ?_
            refine lv_if_eq (tgt := 108) hx hb dX1_readClause_99 (by decide) (fun hc => ?_) (fun hc => ?_)
            · have hf := ifp hc hf
              refine lv_iconst (v := (nI 0)) hx hb dX1_readClause_108 ic_0 ?_
              cases hf
              exact W.zret hx hb hr zbl_0.1 (fun t ht _ => ⟨⟨rfl, by rw [ht]; exact hP, hD⟩, hS.F ht⟩) hS.2.2 dX1_readClause_109
            · have hf := ifn hc hf
              refine lv_aload_n hx hb dX1_readClause_102 rfl (lv_at hl 0 rfl) ?_
              refine lv_aload_n hx hb dX1_readClause_103 rfl (lv_at hl 1 rfl) ?_
              obtain ⟨q7, hq7, hf⟩ := bd hf
              refine muI0 (wr := []) (va_runV (As := [.ref b0]) (rest := []) ⟨hx, hb, hml, hown, hts⟩ (c_X1_readOrder l D cI cZ cM r0 r1 t0 t1 b0 b1 b2 b3 b4 b5 H.size r_cl r_no t_len t_st t_nx t_kd t_by b_n b_L b_U b_H b_O b_B fu q7.1 q7.2.1 q7.2.2.1 q7.2.2.2.1 q7.2.2.2.2.1 q7.2.2.2.2.2 hq7) (cwV 1 hts gX1_readClause_X1_readOrder rfl rfl rfl ⟨rfl, hdc_X1_readOrder⟩ ⟨Nat.le_of_ble_eq_true rfl, Nat.le_of_ble_eq_true rfl⟩) (pmV hK hP hD [0, 1, 2, 3, 4, 5, 6, 7, 8, 9] (by decide) rfl rfl (ci := 1) (q0 := 0) rfl rfl) rfl rfl hl.1 rfl (lv_room (Nat.le_of_ble_eq_true rfl)) dX1_readClause_104 ⟨Nat.zero_le _, Nat.zero_le _⟩) hP hD hS hA [0, 1, 2, 3, 4, 5, 6, 7, 8, 9] [] rfl rfl (by decide) (by decide) (fun H locs hP hD hS => ?_)
              have hP : va_P D vwCl [(r0, .inr (1, [.int r_cl, .ref t0, .ref r1])), (r1, .inl (cI, 10, .inl q7.2.1)), (t0, .inr (5, [.int t_len, .int q7.2.2.1, .int q7.2.2.2.1, .int q7.2.2.2.2.1, .ref t1])), (t1, .inl (cI, 200, .inl t_by)), (b0, .inr (3, [.int b_n, .ref b1, .ref b2, .ref b3, .ref b4, .ref b5])), (b1, .inl (cI, 10, .inl b_L)), (b2, .inl (cI, 10, .inl b_U)), (b3, .inl (cI, 12, .inl b_H)), (b4, .inl (cI, 10, .inl q7.2.2.2.2.2)), (b5, .inl (cI, 10, .inl b_B))] H := hP
              have hD : va_D A [(r0, .inr (1, [.int r_cl, .ref t0, .ref r1])), (r1, .inl (cI, 10, .inl q7.2.1)), (t0, .inr (5, [.int t_len, .int q7.2.2.1, .int q7.2.2.2.1, .int q7.2.2.2.2.1, .ref t1])), (t1, .inl (cI, 200, .inl t_by)), (b0, .inr (3, [.int b_n, .ref b1, .ref b2, .ref b3, .ref b4, .ref b5])), (b1, .inl (cI, 10, .inl b_L)), (b2, .inl (cI, 10, .inl b_U)), (b3, .inl (cI, 12, .inl b_H)), (b4, .inl (cI, 10, .inl q7.2.2.2.2.2)), (b5, .inl (cI, 10, .inl b_B))] := hD
              obtain ⟨hz, hf⟩ := zb_some hf
              cases hf
              exact W.zret hx hb hr hz.1 (fun t ht _ => ⟨⟨rfl, by rw [ht]; exact hP, hD⟩, hS.F ht⟩) hS.2.2 dX1_readClause_107
          · have hf := ifn hc hf
            refine lv_aload_n hx hb dX1_readClause_84 rfl (lv_at hl 0 rfl) ?_
            refine lv_aload_n hx hb dX1_readClause_85 rfl (lv_at hl 1 rfl) ?_
            obtain ⟨q8, hq8, hf⟩ := bd hf
            refine muI0 (wr := []) (va_runV (As := [.ref b0]) (rest := []) ⟨hx, hb, hml, hown, hts⟩ (c_X1_readAhead l D cI cZ cM r0 r1 t0 t1 b0 b1 b2 b3 b4 b5 H.size r_cl r_no t_len t_st t_nx t_kd t_by b_n b_L b_U b_H b_O b_B fu q8.1 q8.2.1 q8.2.2.1 q8.2.2.2.1 q8.2.2.2.2 hq8) (cwV 1 hts gX1_readClause_X1_readAhead rfl rfl rfl ⟨rfl, hdc_X1_readAhead⟩ ⟨Nat.le_of_ble_eq_true rfl, Nat.le_of_ble_eq_true rfl⟩) (pmV hK hP hD [0, 1, 2, 3, 4, 5, 6, 7, 8, 9] (by decide) rfl rfl (ci := 1) (q0 := 0) rfl rfl) rfl rfl hl.1 rfl (lv_room (Nat.le_of_ble_eq_true rfl)) dX1_readClause_86 ⟨Nat.zero_le _, Nat.zero_le _⟩) hP hD hS hA [0, 1, 2, 3, 4, 5, 6, 7, 8, 9] [] rfl rfl (by decide) (by decide) (fun H locs hP hD hS => ?_)
            have hP : va_P D vwCl [(r0, .inr (1, [.int r_cl, .ref t0, .ref r1])), (r1, .inl (cI, 10, .inl r_no)), (t0, .inr (5, [.int t_len, .int q8.2.1, .int q8.2.2.1, .int q8.2.2.2.1, .ref t1])), (t1, .inl (cI, 200, .inl t_by)), (b0, .inr (3, [.int b_n, .ref b1, .ref b2, .ref b3, .ref b4, .ref b5])), (b1, .inl (cI, 10, .inl b_L)), (b2, .inl (cI, 10, .inl b_U)), (b3, .inl (cI, 12, .inl b_H)), (b4, .inl (cI, 10, .inl b_O)), (b5, .inl (cI, 10, .inl q8.2.2.2.2))] H := hP
            have hD : va_D A [(r0, .inr (1, [.int r_cl, .ref t0, .ref r1])), (r1, .inl (cI, 10, .inl r_no)), (t0, .inr (5, [.int t_len, .int q8.2.1, .int q8.2.2.1, .int q8.2.2.2.1, .ref t1])), (t1, .inl (cI, 200, .inl t_by)), (b0, .inr (3, [.int b_n, .ref b1, .ref b2, .ref b3, .ref b4, .ref b5])), (b1, .inl (cI, 10, .inl b_L)), (b2, .inl (cI, 10, .inl b_U)), (b3, .inl (cI, 12, .inl b_H)), (b4, .inl (cI, 10, .inl b_O)), (b5, .inl (cI, 10, .inl q8.2.2.2.2))] := hD
            obtain ⟨hz, hf⟩ := zb_some hf
            cases hf
            exact W.zret hx hb hr hz.1 (fun t ht _ => ⟨⟨rfl, by rw [ht]; exact hP, hD⟩, hS.F ht⟩) hS.2.2 dX1_readClause_89
        · have hf := ifn hc hf
          refine lv_aload_n hx hb dX1_readClause_66 rfl (lv_at hl 0 rfl) ?_
          refine lv_aload_n hx hb dX1_readClause_67 rfl (lv_at hl 1 rfl) ?_
          obtain ⟨q9, hq9, hf⟩ := bd hf
          refine muI0 (wr := []) (va_runV (As := [.ref b0]) (rest := []) ⟨hx, hb, hml, hown, hts⟩ (c_X1_readUses l D cI cZ cM r0 r1 t0 t1 b0 b1 b2 b3 b4 b5 H.size r_cl r_no t_len t_st t_nx t_kd t_by b_n b_L b_U b_H b_O b_B fu q9.1 q9.2.1 q9.2.2.1 q9.2.2.2.1 q9.2.2.2.2 hq9) (cwV 1 hts gX1_readClause_X1_readUses rfl rfl rfl ⟨rfl, hdc_X1_readUses⟩ ⟨Nat.le_of_ble_eq_true rfl, Nat.le_of_ble_eq_true rfl⟩) (pmV hK hP hD [0, 1, 2, 3, 4, 5, 6, 7, 8, 9] (by decide) rfl rfl (ci := 1) (q0 := 0) rfl rfl) rfl rfl hl.1 rfl (lv_room (Nat.le_of_ble_eq_true rfl)) dX1_readClause_68 ⟨Nat.zero_le _, Nat.zero_le _⟩) hP hD hS hA [0, 1, 2, 3, 4, 5, 6, 7, 8, 9] [] rfl rfl (by decide) (by decide) (fun H locs hP hD hS => ?_)
          have hP : va_P D vwCl [(r0, .inr (1, [.int r_cl, .ref t0, .ref r1])), (r1, .inl (cI, 10, .inl r_no)), (t0, .inr (5, [.int t_len, .int q9.2.1, .int q9.2.2.1, .int q9.2.2.2.1, .ref t1])), (t1, .inl (cI, 200, .inl t_by)), (b0, .inr (3, [.int b_n, .ref b1, .ref b2, .ref b3, .ref b4, .ref b5])), (b1, .inl (cI, 10, .inl b_L)), (b2, .inl (cI, 10, .inl q9.2.2.2.2)), (b3, .inl (cI, 12, .inl b_H)), (b4, .inl (cI, 10, .inl b_O)), (b5, .inl (cI, 10, .inl b_B))] H := hP
          have hD : va_D A [(r0, .inr (1, [.int r_cl, .ref t0, .ref r1])), (r1, .inl (cI, 10, .inl r_no)), (t0, .inr (5, [.int t_len, .int q9.2.1, .int q9.2.2.1, .int q9.2.2.2.1, .ref t1])), (t1, .inl (cI, 200, .inl t_by)), (b0, .inr (3, [.int b_n, .ref b1, .ref b2, .ref b3, .ref b4, .ref b5])), (b1, .inl (cI, 10, .inl b_L)), (b2, .inl (cI, 10, .inl q9.2.2.2.2)), (b3, .inl (cI, 12, .inl b_H)), (b4, .inl (cI, 10, .inl b_O)), (b5, .inl (cI, 10, .inl b_B))] := hD
          obtain ⟨hz, hf⟩ := zb_some hf
          cases hf
          exact W.zret hx hb hr hz.1 (fun t ht _ => ⟨⟨rfl, by rw [ht]; exact hP, hD⟩, hS.F ht⟩) hS.2.2 dX1_readClause_71
      · have hf := ifn hc hf
        refine lv_aload_n hx hb dX1_readClause_48 rfl (lv_at hl 0 rfl) ?_
        refine lv_aload_n hx hb dX1_readClause_49 rfl (lv_at hl 1 rfl) ?_
        obtain ⟨q10, hq10, hf⟩ := bd hf
        refine muI0 (wr := []) (va_runV (As := [.ref b0]) (rest := []) ⟨hx, hb, hml, hown, hts⟩ (c_X1_readHome l D cI cZ cM r0 r1 t0 t1 b0 b1 b2 b3 b4 b5 H.size r_cl r_no t_len t_st t_nx t_kd t_by b_n b_L b_U b_H b_O b_B fu q10.1 q10.2.1 q10.2.2.1 q10.2.2.2.1 q10.2.2.2.2 hq10) (cwV 1 hts gX1_readClause_X1_readHome rfl rfl rfl ⟨rfl, hdc_X1_readHome⟩ ⟨Nat.le_of_ble_eq_true rfl, Nat.le_of_ble_eq_true rfl⟩) (pmV hK hP hD [0, 1, 2, 3, 4, 5, 6, 7, 8, 9] (by decide) rfl rfl (ci := 1) (q0 := 0) rfl rfl) rfl rfl hl.1 rfl (lv_room (Nat.le_of_ble_eq_true rfl)) dX1_readClause_50 ⟨Nat.zero_le _, Nat.zero_le _⟩) hP hD hS hA [0, 1, 2, 3, 4, 5, 6, 7, 8, 9] [] rfl rfl (by decide) (by decide) (fun H locs hP hD hS => ?_)
        have hP : va_P D vwCl [(r0, .inr (1, [.int r_cl, .ref t0, .ref r1])), (r1, .inl (cI, 10, .inl r_no)), (t0, .inr (5, [.int t_len, .int q10.2.1, .int q10.2.2.1, .int q10.2.2.2.1, .ref t1])), (t1, .inl (cI, 200, .inl t_by)), (b0, .inr (3, [.int b_n, .ref b1, .ref b2, .ref b3, .ref b4, .ref b5])), (b1, .inl (cI, 10, .inl b_L)), (b2, .inl (cI, 10, .inl b_U)), (b3, .inl (cI, 12, .inl q10.2.2.2.2)), (b4, .inl (cI, 10, .inl b_O)), (b5, .inl (cI, 10, .inl b_B))] H := hP
        have hD : va_D A [(r0, .inr (1, [.int r_cl, .ref t0, .ref r1])), (r1, .inl (cI, 10, .inl r_no)), (t0, .inr (5, [.int t_len, .int q10.2.1, .int q10.2.2.1, .int q10.2.2.2.1, .ref t1])), (t1, .inl (cI, 200, .inl t_by)), (b0, .inr (3, [.int b_n, .ref b1, .ref b2, .ref b3, .ref b4, .ref b5])), (b1, .inl (cI, 10, .inl b_L)), (b2, .inl (cI, 10, .inl b_U)), (b3, .inl (cI, 12, .inl q10.2.2.2.2)), (b4, .inl (cI, 10, .inl b_O)), (b5, .inl (cI, 10, .inl b_B))] := hD
        obtain ⟨hz, hf⟩ := zb_some hf
        cases hf
        exact W.zret hx hb hr hz.1 (fun t ht _ => ⟨⟨rfl, by rw [ht]; exact hP, hD⟩, hS.F ht⟩) hS.2.2 dX1_readClause_53
    · have hf := ifn hc hf
      refine lv_aload_n hx hb dX1_readClause_30 rfl (lv_at hl 0 rfl) ?_
      refine lv_aload_n hx hb dX1_readClause_31 rfl (lv_at hl 1 rfl) ?_
      obtain ⟨q11, hq11, hf⟩ := bd hf
      refine muI0 (wr := []) (va_runV (As := [.ref b0]) (rest := []) ⟨hx, hb, hml, hown, hts⟩ (c_X1_readPages l D cI cZ cM r0 r1 t0 t1 b0 b1 b2 b3 b4 b5 H.size r_cl r_no t_len t_st t_nx t_kd t_by b_n b_L b_U b_H b_O b_B fu q11.1 q11.2.1 q11.2.2.1 q11.2.2.2.1 q11.2.2.2.2 hq11) (cwV 1 hts gX1_readClause_X1_readPages rfl rfl rfl ⟨rfl, hdc_X1_readPages⟩ ⟨Nat.le_of_ble_eq_true rfl, Nat.le_of_ble_eq_true rfl⟩) (pmV hK hP hD [0, 1, 2, 3, 4, 5, 6, 7, 8, 9] (by decide) rfl rfl (ci := 1) (q0 := 0) rfl rfl) rfl rfl hl.1 rfl (lv_room (Nat.le_of_ble_eq_true rfl)) dX1_readClause_32 ⟨Nat.zero_le _, Nat.zero_le _⟩) hP hD hS hA [0, 1, 2, 3, 4, 5, 6, 7, 8, 9] [] rfl rfl (by decide) (by decide) (fun H locs hP hD hS => ?_)
      have hP : va_P D vwCl [(r0, .inr (1, [.int r_cl, .ref t0, .ref r1])), (r1, .inl (cI, 10, .inl r_no)), (t0, .inr (5, [.int t_len, .int q11.2.1, .int q11.2.2.1, .int q11.2.2.2.1, .ref t1])), (t1, .inl (cI, 200, .inl t_by)), (b0, .inr (3, [.int b_n, .ref b1, .ref b2, .ref b3, .ref b4, .ref b5])), (b1, .inl (cI, 10, .inl q11.2.2.2.2)), (b2, .inl (cI, 10, .inl b_U)), (b3, .inl (cI, 12, .inl b_H)), (b4, .inl (cI, 10, .inl b_O)), (b5, .inl (cI, 10, .inl b_B))] H := hP
      have hD : va_D A [(r0, .inr (1, [.int r_cl, .ref t0, .ref r1])), (r1, .inl (cI, 10, .inl r_no)), (t0, .inr (5, [.int t_len, .int q11.2.1, .int q11.2.2.1, .int q11.2.2.2.1, .ref t1])), (t1, .inl (cI, 200, .inl t_by)), (b0, .inr (3, [.int b_n, .ref b1, .ref b2, .ref b3, .ref b4, .ref b5])), (b1, .inl (cI, 10, .inl q11.2.2.2.2)), (b2, .inl (cI, 10, .inl b_U)), (b3, .inl (cI, 12, .inl b_H)), (b4, .inl (cI, 10, .inl b_O)), (b5, .inl (cI, 10, .inl b_B))] := hD
      obtain ⟨hz, hf⟩ := zb_some hf
      cases hf
      exact W.zret hx hb hr hz.1 (fun t ht _ => ⟨⟨rfl, by rw [ht]; exact hP, hD⟩, hS.F ht⟩) hS.2.2 dX1_readClause_35
  · have hf := ifn hc hf
    refine lv_aload_n hx hb dX1_readClause_12 rfl (lv_at hl 0 rfl) ?_
    refine lv_aload_n hx hb dX1_readClause_13 rfl (lv_at hl 1 rfl) ?_
    obtain ⟨q12, hq12, hf⟩ := bd hf
    refine muI0 (wr := []) (va_runV (As := [.ref b0]) (rest := []) ⟨hx, hb, hml, hown, hts⟩ (c_X1_readSections l D cI cZ cM r0 r1 t0 t1 b0 b1 b2 b3 b4 b5 H.size r_cl r_no t_len t_st t_nx t_kd t_by b_n b_L b_U b_H b_O b_B fu q12.1 q12.2.1 q12.2.2.1 q12.2.2.2.1 q12.2.2.2.2.1 q12.2.2.2.2.2.1 q12.2.2.2.2.2.2.1 q12.2.2.2.2.2.2.2.1 q12.2.2.2.2.2.2.2.2.1 q12.2.2.2.2.2.2.2.2.2 hq12) (cwV 1 hts gX1_readClause_X1_readSections rfl rfl rfl ⟨rfl, hdc_X1_readSections⟩ ⟨Nat.le_of_ble_eq_true rfl, Nat.le_of_ble_eq_true rfl⟩) (pmV hK hP hD [0, 1, 2, 3, 4, 5, 6, 7, 8, 9] (by decide) rfl rfl (ci := 1) (q0 := 0) rfl rfl) rfl rfl hl.1 rfl (lv_room (Nat.le_of_ble_eq_true rfl)) dX1_readClause_14 ⟨Nat.zero_le _, Nat.zero_le _⟩) hP hD hS hA [0, 1, 2, 3, 4, 5, 6, 7, 8, 9] [] rfl rfl (by decide) (by decide) (fun H locs hP hD hS => ?_)
    have hP : va_P D vwCl [(r0, .inr (1, [.int r_cl, .ref t0, .ref r1])), (r1, .inl (cI, 10, .inl r_no)), (t0, .inr (5, [.int t_len, .int q12.2.1, .int q12.2.2.1, .int q12.2.2.2.1, .ref t1])), (t1, .inl (cI, 200, .inl t_by)), (b0, .inr (3, [.int q12.2.2.2.2.1, .ref b1, .ref b2, .ref b3, .ref b4, .ref b5])), (b1, .inl (cI, 10, .inl q12.2.2.2.2.2.1)), (b2, .inl (cI, 10, .inl q12.2.2.2.2.2.2.1)), (b3, .inl (cI, 12, .inl q12.2.2.2.2.2.2.2.1)), (b4, .inl (cI, 10, .inl q12.2.2.2.2.2.2.2.2.1)), (b5, .inl (cI, 10, .inl q12.2.2.2.2.2.2.2.2.2))] H := hP
    have hD : va_D A [(r0, .inr (1, [.int r_cl, .ref t0, .ref r1])), (r1, .inl (cI, 10, .inl r_no)), (t0, .inr (5, [.int t_len, .int q12.2.1, .int q12.2.2.1, .int q12.2.2.2.1, .ref t1])), (t1, .inl (cI, 200, .inl t_by)), (b0, .inr (3, [.int q12.2.2.2.2.1, .ref b1, .ref b2, .ref b3, .ref b4, .ref b5])), (b1, .inl (cI, 10, .inl q12.2.2.2.2.2.1)), (b2, .inl (cI, 10, .inl q12.2.2.2.2.2.2.1)), (b3, .inl (cI, 12, .inl q12.2.2.2.2.2.2.2.1)), (b4, .inl (cI, 10, .inl q12.2.2.2.2.2.2.2.2.1)), (b5, .inl (cI, 10, .inl q12.2.2.2.2.2.2.2.2.2))] := hD
    obtain ⟨hz, hf⟩ := zb_some hf
    cases hf
    exact W.zret hx hb hr hz.1 (fun t ht _ => ⟨⟨rfl, by rw [ht]; exact hP, hD⟩, hS.F ht⟩) hS.2.2 dX1_readClause_17
theorem hdc_X5_isEnd : yX5_isEnd.cls ≠ "java/lang/invoke/MethodHandle" ∧ yX5_isEnd.cls ≠ "java/lang/invoke/VarHandle" ∧ (parseMethodDescriptor yX5_isEnd.desc).map (fun d => d.parameters.length) = some 0 := by decide +kernel
set_option maxHeartbeats 4000000 in
set_option maxRecDepth 100000 in
theorem c_X5_isEnd (l : Launch) (D : va_G) (cI cZ cM : ClassId) (t0 t1 : Nat) (t_len : Int32) (t_st : Int32) (t_nx : Int32) (t_kd : Int32) (t_by : Nat → Int32) (r : Int32) (hf : m_X5_isEnd t_kd = some r) : Met l yX5_isEnd wsX5_isEnd ({ frames := 0, cells := 0, slots := 0, locals := 0 }) (pR D cI cZ cM [(t0, .inr (5, [.int t_len, .int t_st, .int t_nx, .int t_kd, .ref t1])), (t1, .inl (cI, 200, .inl t_by))] [.ref t0]) (qR r) 0 0 (fun _ => False) := by
  refine Met.ofW (cc := cX5_isEnd) (maxL := 1) (ret := (some .boolean)) (by decide) rfl ?_
  intro p e s m args below meth c s₁ B hml hv
  obtain ⟨rfl, hP, hK⟩ := hv
  have hx := B.exec
  have hb := B.bytes
  have hr := B.returns
  have hts := atoms_spec (ws := wsX5_isEnd) B.pre
  have hown : s.vm.findClass RX5 = some m.cls := findClass_of_methodNamed B.named
  have hlocks := B.notSynchronized
  have hfl_21 := hts (.fieldLink RX5 21 "TermsFirst$Text" "kind" "I") (by decide +kernel)
  have hiX5 : ∀ w ∈ u_ws RX5 TX5 5, w ∈ wsX5_isEnd := by decide +kernel
  have hl := lv_entry ([.ref t0]) (n := 1) (Nat.le_of_ble_eq_true rfl)
  rw [lg_entry_eq]
  generalize (lg_sl ([.ref t0]) ++ List.replicate (1 - (lg_sl ([.ref t0])).length) Slot.unset).toArray = ls at hl ⊢
  have hl : lv_has ls 1 [(0, .ref t0)] := hl
  unfold m_X5_isEnd at hf
  refine lv_aload_n hx hb dX5_isEnd_0 rfl (lv_at hl 0 rfl) ?_
  refine va_get (D := D) (ci := 5) (v := .int t_kd) (C := RX5) (T := TX5) (N := 5) hx hb hts hiX5 hown hK.1 hP 0 rfl rfl 3 (by decide) hfl_21 (fun _ h9 => h9) rfl dX5_isEnd_1 ?_
  refine lv_if_ne (tgt := 11) hx hb dX5_isEnd_4 (by decide) (fun hc => ?_) (fun hc => ?_)
  · have hf := ifn hc hf
    refine lv_iconst (v := (nI 0)) hx hb dX5_isEnd_11 ic_0 ?_
    cases hf
    exact W.zret hx hb hr zbl_0.1 (fun t ht _ => ⟨rfl, ht⟩) (fun _ h => nomatch h) dX5_isEnd_12
  · have hf := ifp (Decidable.not_not.mp hc) hf
    refine lv_iconst (v := (nI 1)) hx hb dX5_isEnd_7 ic_1 ?_
    refine lv_goto (tgt := 12) hx hb dX5_isEnd_8 (by decide) ?_
    cases hf
    exact W.zret hx hb hr zbl_1.1 (fun t ht _ => ⟨rfl, ht⟩) (fun _ h => nomatch h) dX5_isEnd_12
theorem hdc_X5_isSemicolon : yX5_isSemicolon.cls ≠ "java/lang/invoke/MethodHandle" ∧ yX5_isSemicolon.cls ≠ "java/lang/invoke/VarHandle" ∧ (parseMethodDescriptor yX5_isSemicolon.desc).map (fun d => d.parameters.length) = some 0 := by decide +kernel
set_option maxHeartbeats 4000000 in
set_option maxRecDepth 100000 in
theorem c_X5_isSemicolon (l : Launch) (D : va_G) (cI cZ cM : ClassId) (t0 t1 : Nat) (t_len : Int32) (t_st : Int32) (t_nx : Int32) (t_kd : Int32) (t_by : Nat → Int32) (r : Int32) (hf : m_X5_isSemicolon t_st t_kd t_by = some r) : Met l yX5_isSemicolon wsX5_isSemicolon ({ frames := 0, cells := 0, slots := 0, locals := 0 }) (pR D cI cZ cM [(t0, .inr (5, [.int t_len, .int t_st, .int t_nx, .int t_kd, .ref t1])), (t1, .inl (cI, 200, .inl t_by))] [.ref t0]) (qR r) 0 0 (fun _ => False) := by
  refine Met.ofW (cc := cX5_isSemicolon) (maxL := 1) (ret := (some .boolean)) (by decide) rfl ?_
  intro p e s m args below meth c s₁ B hml hv
  obtain ⟨rfl, hP, hK⟩ := hv
  have hx := B.exec
  have hb := B.bytes
  have hr := B.returns
  have hts := atoms_spec (ws := wsX5_isSemicolon) B.pre
  have hown : s.vm.findClass RX5 = some m.cls := findClass_of_methodNamed B.named
  have hlocks := B.notSynchronized
  have hfl_15 := hts (.fieldLink RX5 15 "TermsFirst$Text" "start" "I") (by decide +kernel)
  have hfl_21 := hts (.fieldLink RX5 21 "TermsFirst$Text" "kind" "I") (by decide +kernel)
  have hfl_24 := hts (.fieldLink RX5 24 "TermsFirst$Text" "bytes" "[I") (by decide +kernel)
  have hiX5 : ∀ w ∈ u_ws RX5 TX5 5, w ∈ wsX5_isSemicolon := by decide +kernel
  have hl := lv_entry ([.ref t0]) (n := 1) (Nat.le_of_ble_eq_true rfl)
  rw [lg_entry_eq]
  generalize (lg_sl ([.ref t0]) ++ List.replicate (1 - (lg_sl ([.ref t0])).length) Slot.unset).toArray = ls at hl ⊢
  have hl : lv_has ls 1 [(0, .ref t0)] := hl
  unfold m_X5_isSemicolon at hf
  refine lv_aload_n hx hb dX5_isSemicolon_0 rfl (lv_at hl 0 rfl) ?_
  refine va_get (D := D) (ci := 5) (v := .int t_kd) (C := RX5) (T := TX5) (N := 5) hx hb hts hiX5 hown hK.1 hP 0 rfl rfl 3 (by decide) hfl_21 (fun _ h9 => h9) rfl dX5_isSemicolon_1 ?_
  refine lv_iconst (v := (nI 3)) hx hb dX5_isSemicolon_4 ic_3 ?_
  refine lv_icmp_ne (tgt := 26) hx hb dX5_isSemicolon_5 (by decide) (fun hc => ?_) (fun hc => ?_)
  · have hf := ifn hc hf
    refine lv_iconst (v := (nI 0)) hx hb dX5_isSemicolon_26 ic_0 ?_
    cases hf
    exact W.zret hx hb hr zbl_0.1 (fun t ht _ => ⟨rfl, ht⟩) (fun _ h => nomatch h) dX5_isSemicolon_27
  · have hf := ifp (Decidable.not_not.mp hc) hf
    refine lv_aload_n hx hb dX5_isSemicolon_8 rfl (lv_at hl 0 rfl) ?_
    refine va_get (D := D) (ci := 5) (v := .ref t1) (C := RX5) (T := TX5) (N := 5) hx hb hts hiX5 hown hK.1 hP 0 rfl rfl 4 (by decide) hfl_24 (fun _ h9 => h9) rfl dX5_isSemicolon_9 ?_
    refine lv_aload_n hx hb dX5_isSemicolon_12 rfl (lv_at hl 0 rfl) ?_
    refine va_get (D := D) (ci := 5) (v := .int t_st) (C := RX5) (T := TX5) (N := 5) hx hb hts hiX5 hown hK.1 hP 0 rfl rfl 1 (by decide) hfl_15 (fun _ h9 => h9) rfl dX5_isSemicolon_13 ?_
    obtain ⟨hi, hf⟩ := gd_some hf
    refine va_iald hx hb hK.1 hP 1 0 rfl rfl hi dX5_isSemicolon_16 ?_
    refine lv_bipush (v := (nI 59)) hx hb dX5_isSemicolon_17 bp_59 ?_
    refine lv_icmp_ne (tgt := 26) hx hb dX5_isSemicolon_19 (by decide) (fun hc => ?_) (fun hc => ?_)
    · have hf := ifn hc hf
      refine lv_iconst (v := (nI 0)) hx hb dX5_isSemicolon_26 ic_0 ?_
      cases hf
      exact W.zret hx hb hr zbl_0.1 (fun t ht _ => ⟨rfl, ht⟩) (fun _ h => nomatch h) dX5_isSemicolon_27
    · have hf := ifp (Decidable.not_not.mp hc) hf
      refine lv_iconst (v := (nI 1)) hx hb dX5_isSemicolon_22 ic_1 ?_
      refine lv_goto (tgt := 27) hx hb dX5_isSemicolon_23 (by decide) ?_
      cases hf
      exact W.zret hx hb hr zbl_1.1 (fun t ht _ => ⟨rfl, ht⟩) (fun _ h => nomatch h) dX5_isSemicolon_27
theorem hdc_X1_carryOut : yX1_carryOut.cls ≠ "java/lang/invoke/MethodHandle" ∧ yX1_carryOut.cls ≠ "java/lang/invoke/VarHandle" ∧ (parseMethodDescriptor yX1_carryOut.desc).map (fun d => d.parameters.length) = some 1 := by decide +kernel
set_option maxHeartbeats 4000000 in
set_option maxRecDepth 100000 in
theorem c_X1_carryOut (l : Launch) (D : va_G) (cI cZ cM : ClassId) (r0 r1 t0 t1 b0 b1 b2 b3 b4 b5 : Nat) (sz : Nat) (eb : Nat) (adK adV : Nat → Nat) (r_cl : Int32) (r_no : Nat → Int32) (t_len : Int32) (t_st : Int32) (t_nx : Int32) (t_kd : Int32) (t_by : Nat → Int32) (b_n : Int32) (b_L : Nat → Int32) (b_U : Nat → Int32) (b_H : Nat → Int32) (b_O : Nat → Int32) (b_B : Nat → Int32) (fu : Nat) (r : Int32) (r_cl' : Int32) (r_no' : Nat → Int32) (t_st' : Int32) (t_nx' : Int32) (t_kd' : Int32) (b_n' : Int32) (b_L' : Nat → Int32) (b_U' : Nat → Int32) (b_H' : Nat → Int32) (b_O' : Nat → Int32) (b_B' : Nat → Int32) (hf : m_X1_carryOut fu r_cl r_no t_len t_st t_kd t_by b_n b_L b_U b_H b_O b_B = some (r, r_cl', r_no', t_st', t_nx', t_kd', b_n', b_L', b_U', b_H', b_O', b_B')) : Met l yX1_carryOut wsX1_carryOut ({ frames := 6, cells := 0, slots := 0, locals := 128 }) (pMs D cI cZ cM sz eb adK adV [(r0, .inr (1, [.int r_cl, .ref t0, .ref r1])), (r1, .inl (cI, 10, .inl r_no)), (t0, .inr (5, [.int t_len, .int t_st, .int t_nx, .int t_kd, .ref t1])), (t1, .inl (cI, 200, .inl t_by)), (b0, .inr (3, [.int b_n, .ref b1, .ref b2, .ref b3, .ref b4, .ref b5])), (b1, .inl (cI, 10, .inl b_L)), (b2, .inl (cI, 10, .inl b_U)), (b3, .inl (cI, 12, .inl b_H)), (b4, .inl (cI, 10, .inl b_O)), (b5, .inl (cI, 10, .inl b_B))] [.ref r0, .ref b0]) (qI D r [(r0, .inr (1, [.int r_cl', .ref t0, .ref r1])), (r1, .inl (cI, 10, .inl r_no')), (t0, .inr (5, [.int t_len, .int t_st', .int t_nx', .int t_kd', .ref t1])), (t1, .inl (cI, 200, .inl t_by)), (b0, .inr (3, [.int b_n', .ref b1, .ref b2, .ref b3, .ref b4, .ref b5])), (b1, .inl (cI, 10, .inl b_L')), (b2, .inl (cI, 10, .inl b_U')), (b3, .inl (cI, 12, .inl b_H')), (b4, .inl (cI, 10, .inl b_O')), (b5, .inl (cI, 10, .inl b_B'))] (va_A [(r0, .inr (1, [.int r_cl, .ref t0, .ref r1])), (r1, .inl (cI, 10, .inl r_no)), (t0, .inr (5, [.int t_len, .int t_st, .int t_nx, .int t_kd, .ref t1])), (t1, .inl (cI, 200, .inl t_by)), (b0, .inr (3, [.int b_n, .ref b1, .ref b2, .ref b3, .ref b4, .ref b5])), (b1, .inl (cI, 10, .inl b_L)), (b2, .inl (cI, 10, .inl b_U)), (b3, .inl (cI, 12, .inl b_H)), (b4, .inl (cI, 10, .inl b_O)), (b5, .inl (cI, 10, .inl b_B))] sz)) 0 0 (va_A [(r0, .inr (1, [.int r_cl, .ref t0, .ref r1])), (r1, .inl (cI, 10, .inl r_no)), (t0, .inr (5, [.int t_len, .int t_st, .int t_nx, .int t_kd, .ref t1])), (t1, .inl (cI, 200, .inl t_by)), (b0, .inr (3, [.int b_n, .ref b1, .ref b2, .ref b3, .ref b4, .ref b5])), (b1, .inl (cI, 10, .inl b_L)), (b2, .inl (cI, 10, .inl b_U)), (b3, .inl (cI, 12, .inl b_H)), (b4, .inl (cI, 10, .inl b_O)), (b5, .inl (cI, 10, .inl b_B))] sz) := by
  refine Met.ofW (cc := cX1_carryOut) (maxL := 3) (ret := (some .int)) (by decide) rfl ?_
  intro p e s m args below meth c s₁ B hml hv
  obtain ⟨rfl, hsz, hP, hK, hD0, heb, hE⟩ := hv
  have hx := B.exec
  have hb := B.bytes
  have hr := B.returns
  have hts := atoms_spec (ws := wsX1_carryOut) B.pre
  have hown : s.vm.findClass RX1 = some m.cls := findClass_of_methodNamed B.named
  have hlocks := B.notSynchronized
  subst hsz
  have hD := hD0.self (sz := s.heap.size)
  generalize hAe : va_A [(r0, .inr (1, [.int r_cl, .ref t0, .ref r1])), (r1, .inl (cI, 10, .inl r_no)), (t0, .inr (5, [.int t_len, .int t_st, .int t_nx, .int t_kd, .ref t1])), (t1, .inl (cI, 200, .inl t_by)), (b0, .inr (3, [.int b_n, .ref b1, .ref b2, .ref b3, .ref b4, .ref b5])), (b1, .inl (cI, 10, .inl b_L)), (b2, .inl (cI, 10, .inl b_U)), (b3, .inl (cI, 12, .inl b_H)), (b4, .inl (cI, 10, .inl b_O)), (b5, .inl (cI, 10, .inl b_B))] s.heap.size = A at hD ⊢
  have hA : ∀ q : Nat, s.heap.size ≤ q → A q := fun q h => by rw [← hAe]; exact Or.inr h
  have hAb : ∀ q, A q → eb ≤ q := fun q h => by
      rw [← hAe] at h
      rcases h with ⟨k, e, h⟩ | h
      · exact hD0.2 k _ h
      · exact Nat.le_trans heb h
  clear hAe hD0
  have hfl_9 := hts (.fieldLink RX1 9 "TermsFirst$ClauseReader" "clauses" "I") (by decide +kernel)
  have hfl_19 := hts (.fieldLink RX1 19 "TermsFirst$ClauseReader" "text" "LTermsFirst$Text;") (by decide +kernel)
  have hfl_35 := hts (.fieldLink RX1 35 "TermsFirst$Text" "start" "I") (by decide +kernel)
  have hiX1 : ∀ w ∈ u_ws RX1 TX1 3, w ∈ wsX1_carryOut := by decide +kernel
  have hiX5 : ∀ w ∈ u_ws RX5 TX5 5, w ∈ wsX1_carryOut := by decide +kernel
  have hB_9 : ∀ (fn : Nat) (x2 : Int32) (r_cl : Int32) (r_no : Nat → Int32) (t_st : Int32) (t_nx : Int32) (t_kd : Int32) (b_n : Int32) (b_L : Nat → Int32) (b_U : Nat → Int32) (b_H : Nat → Int32) (b_O : Nat → Int32) (b_B : Nat → Int32), m_X1_carryOut_9 fu t_len t_by fn r_cl r_no t_st t_nx t_kd b_n b_L b_U b_H b_O b_B x2 = some (r, r_cl', r_no', t_st', t_nx', t_kd', b_n', b_L', b_U', b_H', b_O', b_B') → ∀ (H : Heap) (locs : List Loc), va_P D vwCl [(r0, .inr (1, [.int r_cl, .ref t0, .ref r1])), (r1, .inl (cI, 10, .inl r_no)), (t0, .inr (5, [.int t_len, .int t_st, .int t_nx, .int t_kd, .ref t1])), (t1, .inl (cI, 200, .inl t_by)), (b0, .inr (3, [.int b_n, .ref b1, .ref b2, .ref b3, .ref b4, .ref b5])), (b1, .inl (cI, 10, .inl b_L)), (b2, .inl (cI, 10, .inl b_U)), (b3, .inl (cI, 12, .inl b_H)), (b4, .inl (cI, 10, .inl b_O)), (b5, .inl (cI, 10, .inl b_B))] H → va_D A [(r0, .inr (1, [.int r_cl, .ref t0, .ref r1])), (r1, .inl (cI, 10, .inl r_no)), (t0, .inr (5, [.int t_len, .int t_st, .int t_nx, .int t_kd, .ref t1])), (t1, .inl (cI, 200, .inl t_by)), (b0, .inr (3, [.int b_n, .ref b1, .ref b2, .ref b3, .ref b4, .ref b5])), (b1, .inl (cI, 10, .inl b_L)), (b2, .inl (cI, 10, .inl b_U)), (b3, .inl (cI, 12, .inl b_H)), (b4, .inl (cI, 10, .inl b_O)), (b5, .inl (cI, 10, .inl b_B))] → va_S A s.heap H locs → ∀ ls : Array Slot, lv_has ls 3 [(0, .ref r0), (1, .ref b0), (2, .int x2)] → W p l e (headSpec wsX1_carryOut { frames := 6, cells := 0, slots := 0, locals := 128 }).room s m ([.ref r0, .ref b0] : List Value).toArray below meth c H locs 0 0 (MQ below (qI D r [(r0, .inr (1, [.int r_cl', .ref t0, .ref r1])), (r1, .inl (cI, 10, .inl r_no')), (t0, .inr (5, [.int t_len, .int t_st', .int t_nx', .int t_kd', .ref t1])), (t1, .inl (cI, 200, .inl t_by)), (b0, .inr (3, [.int b_n', .ref b1, .ref b2, .ref b3, .ref b4, .ref b5])), (b1, .inl (cI, 10, .inl b_L')), (b2, .inl (cI, 10, .inl b_U')), (b3, .inl (cI, 12, .inl b_H')), (b4, .inl (cI, 10, .inl b_O')), (b5, .inl (cI, 10, .inl b_B'))] A) ([.ref r0, .ref b0] : List Value).toArray s 0 0 A) (F0 m 9 ls []) := by
    intro fn
    induction fn with
    | zero => intro x2 r_cl r_no t_st t_nx t_kd b_n b_L b_U b_H b_O b_B hf; rw [m_X1_carryOut_9] at hf; cases hf
    | succ fn ih =>
      intro x2 r_cl r_no t_st t_nx t_kd b_n b_L b_U b_H b_O b_B hf H locs hP hD hS ls hl
      rw [m_X1_carryOut_9] at hf
      refine lv_iload_n hx hb dX1_carryOut_9 rfl (lv_at hl 2 rfl) ?_
      refine lv_bipush (v := (nI 24)) hx hb dX1_carryOut_10 bp_24 ?_
      refine lv_icmp_gt (tgt := 86) hx hb dX1_carryOut_12 (by decide) (fun hc => ?_) (fun hc => ?_)
      · have hf := ifp hc hf
        refine lv_aload_n hx hb dX1_carryOut_86 rfl (lv_at hl 0 rfl) ?_
        refine va_get (D := D) (ci := 1) (v := .ref t0) (C := RX1) (T := TX1) (N := 3) hx hb hts hiX1 hown hK.1 hP 0 rfl rfl 1 (by decide) hfl_19 (fun _ h9 => h9) rfl dX1_carryOut_87 ?_
        refine va_get (D := D) (ci := 5) (v := .int t_st) (C := RX5) (T := TX5) (N := 5) hx hb hts hiX5 hown hK.1 hP 2 rfl rfl 1 (by decide) hfl_35 (fun _ h9 => h9) rfl dX1_carryOut_90 ?_
        cases hf
        exact W.iret hx hb hr (fun t ht _ => ⟨⟨rfl, by rw [ht]; exact hP, hD⟩, hS.F ht⟩) hS.2.2 dX1_carryOut_93
      · have hf := ifn hc hf
        refine lv_aload_n hx hb dX1_carryOut_15 rfl (lv_at hl 0 rfl) ?_
        refine va_get (D := D) (ci := 1) (v := .ref t0) (C := RX1) (T := TX1) (N := 3) hx hb hts hiX1 hown hK.1 hP 0 rfl rfl 1 (by decide) hfl_19 (fun _ h9 => h9) rfl dX1_carryOut_16 ?_
        obtain ⟨q2, hq2, hf⟩ := bd hf
        refine muV0 (wr := [(r0, .inr (1, [.int r_cl, .ref t0, .ref r1])), (r1, .inl (cI, 10, .inl r_no)), (b0, .inr (3, [.int b_n, .ref b1, .ref b2, .ref b3, .ref b4, .ref b5])), (b1, .inl (cI, 10, .inl b_L)), (b2, .inl (cI, 10, .inl b_U)), (b3, .inl (cI, 12, .inl b_H)), (b4, .inl (cI, 10, .inl b_O)), (b5, .inl (cI, 10, .inl b_B))]) (va_runV (As := []) (rest := []) ⟨hx, hb, hml, hown, hts⟩ (c_X5_take l D cI cZ cM t0 t1 H.size t_len t_st t_nx t_kd t_by fu q2.1 q2.2.1 q2.2.2 hq2) (cwV 0 hts gX1_carryOut_X5_take rfl rfl rfl ⟨rfl, hdc_X5_take⟩ ⟨Nat.le_of_ble_eq_true rfl, Nat.le_of_ble_eq_true rfl⟩) (pmV hK hP hD [2, 3] (by decide) rfl rfl (ci := 5) (q0 := 2) rfl rfl) rfl rfl hl.1 rfl (lv_room (Nat.le_of_ble_eq_true rfl)) dX1_carryOut_19 ⟨Nat.zero_le _, Nat.zero_le _⟩) hP hD hS hA [2, 3] [0, 1, 4, 5, 6, 7, 8, 9] rfl rfl (by decide) (by decide) (fun H locs hP hD hS => ?_)
        have hP : va_P D vwCl [(r0, .inr (1, [.int r_cl, .ref t0, .ref r1])), (r1, .inl (cI, 10, .inl r_no)), (b0, .inr (3, [.int b_n, .ref b1, .ref b2, .ref b3, .ref b4, .ref b5])), (b1, .inl (cI, 10, .inl b_L)), (b2, .inl (cI, 10, .inl b_U)), (b3, .inl (cI, 12, .inl b_H)), (b4, .inl (cI, 10, .inl b_O)), (b5, .inl (cI, 10, .inl b_B)), (t0, .inr (5, [.int t_len, .int q2.1, .int q2.2.1, .int q2.2.2, .ref t1])), (t1, .inl (cI, 200, .inl t_by))] H := hP
        have hD : va_D A [(r0, .inr (1, [.int r_cl, .ref t0, .ref r1])), (r1, .inl (cI, 10, .inl r_no)), (b0, .inr (3, [.int b_n, .ref b1, .ref b2, .ref b3, .ref b4, .ref b5])), (b1, .inl (cI, 10, .inl b_L)), (b2, .inl (cI, 10, .inl b_U)), (b3, .inl (cI, 12, .inl b_H)), (b4, .inl (cI, 10, .inl b_O)), (b5, .inl (cI, 10, .inl b_B)), (t0, .inr (5, [.int t_len, .int q2.1, .int q2.2.1, .int q2.2.2, .ref t1])), (t1, .inl (cI, 200, .inl t_by))] := hD
        refine lv_aload_n hx hb dX1_carryOut_22 rfl (lv_at hl 0 rfl) ?_
        refine lv_aload_n hx hb dX1_carryOut_23 rfl (lv_at hl 1 rfl) ?_
        obtain ⟨q3, hq3, hf⟩ := bd hf
        refine muI0 (wr := []) (va_runV (As := [.ref b0]) (rest := []) ⟨hx, hb, hml, hown, hts⟩ (c_X1_readClause l D cI cZ cM r0 r1 t0 t1 b0 b1 b2 b3 b4 b5 H.size eb adK adV r_cl r_no t_len q2.1 q2.2.1 q2.2.2 t_by b_n b_L b_U b_H b_O b_B fu q3.1 q3.2.1 q3.2.2.1 q3.2.2.2.1 q3.2.2.2.2.1 q3.2.2.2.2.2.1 q3.2.2.2.2.2.2.1 q3.2.2.2.2.2.2.2.1 q3.2.2.2.2.2.2.2.2.1 q3.2.2.2.2.2.2.2.2.2.1 q3.2.2.2.2.2.2.2.2.2.2 hq3) (cwV 1 hts gX1_carryOut_X1_readClause rfl rfl rfl ⟨rfl, hdc_X1_readClause⟩ ⟨Nat.le_of_ble_eq_true rfl, Nat.le_of_ble_eq_true rfl⟩) (pmVs hK hP hD hAb hS heb hE [0, 1, 8, 9, 2, 3, 4, 5, 6, 7] (by decide) rfl rfl (ci := 1) (q0 := 0) rfl rfl) rfl rfl hl.1 rfl (lv_room (Nat.le_of_ble_eq_true rfl)) dX1_carryOut_24 ⟨Nat.zero_le _, Nat.zero_le _⟩) hP hD hS hA [0, 1, 8, 9, 2, 3, 4, 5, 6, 7] [] rfl rfl (by decide) (by decide) (fun H locs hP hD hS => ?_)
        have hP : va_P D vwCl [(r0, .inr (1, [.int r_cl, .ref t0, .ref r1])), (r1, .inl (cI, 10, .inl q3.2.1)), (t0, .inr (5, [.int t_len, .int q3.2.2.1, .int q3.2.2.2.1, .int q3.2.2.2.2.1, .ref t1])), (t1, .inl (cI, 200, .inl t_by)), (b0, .inr (3, [.int q3.2.2.2.2.2.1, .ref b1, .ref b2, .ref b3, .ref b4, .ref b5])), (b1, .inl (cI, 10, .inl q3.2.2.2.2.2.2.1)), (b2, .inl (cI, 10, .inl q3.2.2.2.2.2.2.2.1)), (b3, .inl (cI, 12, .inl q3.2.2.2.2.2.2.2.2.1)), (b4, .inl (cI, 10, .inl q3.2.2.2.2.2.2.2.2.2.1)), (b5, .inl (cI, 10, .inl q3.2.2.2.2.2.2.2.2.2.2))] H := hP
        have hD : va_D A [(r0, .inr (1, [.int r_cl, .ref t0, .ref r1])), (r1, .inl (cI, 10, .inl q3.2.1)), (t0, .inr (5, [.int t_len, .int q3.2.2.1, .int q3.2.2.2.1, .int q3.2.2.2.2.1, .ref t1])), (t1, .inl (cI, 200, .inl t_by)), (b0, .inr (3, [.int q3.2.2.2.2.2.1, .ref b1, .ref b2, .ref b3, .ref b4, .ref b5])), (b1, .inl (cI, 10, .inl q3.2.2.2.2.2.2.1)), (b2, .inl (cI, 10, .inl q3.2.2.2.2.2.2.2.1)), (b3, .inl (cI, 12, .inl q3.2.2.2.2.2.2.2.2.1)), (b4, .inl (cI, 10, .inl q3.2.2.2.2.2.2.2.2.2.1)), (b5, .inl (cI, 10, .inl q3.2.2.2.2.2.2.2.2.2.2))] := hD
        refine lv_if_ne (tgt := 38) hx hb dX1_carryOut_27 (by decide) (fun hc => ?_) (fun hc => ?_)
        · have hf := ifn hc hf
          refine lv_aload_n hx hb dX1_carryOut_38 rfl (lv_at hl 0 rfl) ?_
          refine lv_iload_n hx hb dX1_carryOut_39 rfl (lv_at hl 2 rfl) ?_
          refine va_put (D := D) (ci := 1) (v := .int x2) (ty := .int) (C := RX1) (T := TX1) (N := 3) hx hb hts hiX1 tyX1 tyX1_ok nmX1 hown hK.1 hP hD hS 0 rfl rfl 0 (by decide) hfl_9 (fun _ h9 => h9) rfl (tyX1_ok 0 (by decide)) rfl rfl (Nat.le_of_ble_eq_true rfl) dX1_carryOut_40 (fun H locs hP hD hS => ?_)
          have hP : va_P D vwCl [(r0, .inr (1, [.int x2, .ref t0, .ref r1])), (r1, .inl (cI, 10, .inl q3.2.1)), (t0, .inr (5, [.int t_len, .int q3.2.2.1, .int q3.2.2.2.1, .int q3.2.2.2.2.1, .ref t1])), (t1, .inl (cI, 200, .inl t_by)), (b0, .inr (3, [.int q3.2.2.2.2.2.1, .ref b1, .ref b2, .ref b3, .ref b4, .ref b5])), (b1, .inl (cI, 10, .inl q3.2.2.2.2.2.2.1)), (b2, .inl (cI, 10, .inl q3.2.2.2.2.2.2.2.1)), (b3, .inl (cI, 12, .inl q3.2.2.2.2.2.2.2.2.1)), (b4, .inl (cI, 10, .inl q3.2.2.2.2.2.2.2.2.2.1)), (b5, .inl (cI, 10, .inl q3.2.2.2.2.2.2.2.2.2.2))] H := hP
          have hD : va_D A [(r0, .inr (1, [.int x2, .ref t0, .ref r1])), (r1, .inl (cI, 10, .inl q3.2.1)), (t0, .inr (5, [.int t_len, .int q3.2.2.1, .int q3.2.2.2.1, .int q3.2.2.2.2.1, .ref t1])), (t1, .inl (cI, 200, .inl t_by)), (b0, .inr (3, [.int q3.2.2.2.2.2.1, .ref b1, .ref b2, .ref b3, .ref b4, .ref b5])), (b1, .inl (cI, 10, .inl q3.2.2.2.2.2.2.1)), (b2, .inl (cI, 10, .inl q3.2.2.2.2.2.2.2.1)), (b3, .inl (cI, 12, .inl q3.2.2.2.2.2.2.2.2.1)), (b4, .inl (cI, 10, .inl q3.2.2.2.2.2.2.2.2.2.1)), (b5, .inl (cI, 10, .inl q3.2.2.2.2.2.2.2.2.2.2))] := hD
          refine lv_aload_n hx hb dX1_carryOut_43 rfl (lv_at hl 0 rfl) ?_
          refine va_get (D := D) (ci := 1) (v := .ref t0) (C := RX1) (T := TX1) (N := 3) hx hb hts hiX1 hown hK.1 hP 0 rfl rfl 1 (by decide) hfl_19 (fun _ h9 => h9) rfl dX1_carryOut_44 ?_
          obtain ⟨q4, hq4, hf⟩ := bd hf
          refine muV0 (wr := [(r0, .inr (1, [.int x2, .ref t0, .ref r1])), (r1, .inl (cI, 10, .inl q3.2.1)), (b0, .inr (3, [.int q3.2.2.2.2.2.1, .ref b1, .ref b2, .ref b3, .ref b4, .ref b5])), (b1, .inl (cI, 10, .inl q3.2.2.2.2.2.2.1)), (b2, .inl (cI, 10, .inl q3.2.2.2.2.2.2.2.1)), (b3, .inl (cI, 12, .inl q3.2.2.2.2.2.2.2.2.1)), (b4, .inl (cI, 10, .inl q3.2.2.2.2.2.2.2.2.2.1)), (b5, .inl (cI, 10, .inl q3.2.2.2.2.2.2.2.2.2.2))]) (va_runV (As := []) (rest := []) ⟨hx, hb, hml, hown, hts⟩ (c_X5_take l D cI cZ cM t0 t1 H.size t_len q3.2.2.1 q3.2.2.2.1 q3.2.2.2.2.1 t_by fu q4.1 q4.2.1 q4.2.2 hq4) (cwV 0 hts gX1_carryOut_X5_take rfl rfl rfl ⟨rfl, hdc_X5_take⟩ ⟨Nat.le_of_ble_eq_true rfl, Nat.le_of_ble_eq_true rfl⟩) (pmV hK hP hD [2, 3] (by decide) rfl rfl (ci := 5) (q0 := 2) rfl rfl) rfl rfl hl.1 rfl (lv_room (Nat.le_of_ble_eq_true rfl)) dX1_carryOut_47 ⟨Nat.zero_le _, Nat.zero_le _⟩) hP hD hS hA [2, 3] [0, 1, 4, 5, 6, 7, 8, 9] rfl rfl (by decide) (by decide) (fun H locs hP hD hS => ?_)
          have hP : va_P D vwCl [(r0, .inr (1, [.int x2, .ref t0, .ref r1])), (r1, .inl (cI, 10, .inl q3.2.1)), (b0, .inr (3, [.int q3.2.2.2.2.2.1, .ref b1, .ref b2, .ref b3, .ref b4, .ref b5])), (b1, .inl (cI, 10, .inl q3.2.2.2.2.2.2.1)), (b2, .inl (cI, 10, .inl q3.2.2.2.2.2.2.2.1)), (b3, .inl (cI, 12, .inl q3.2.2.2.2.2.2.2.2.1)), (b4, .inl (cI, 10, .inl q3.2.2.2.2.2.2.2.2.2.1)), (b5, .inl (cI, 10, .inl q3.2.2.2.2.2.2.2.2.2.2)), (t0, .inr (5, [.int t_len, .int q4.1, .int q4.2.1, .int q4.2.2, .ref t1])), (t1, .inl (cI, 200, .inl t_by))] H := hP
          have hD : va_D A [(r0, .inr (1, [.int x2, .ref t0, .ref r1])), (r1, .inl (cI, 10, .inl q3.2.1)), (b0, .inr (3, [.int q3.2.2.2.2.2.1, .ref b1, .ref b2, .ref b3, .ref b4, .ref b5])), (b1, .inl (cI, 10, .inl q3.2.2.2.2.2.2.1)), (b2, .inl (cI, 10, .inl q3.2.2.2.2.2.2.2.1)), (b3, .inl (cI, 12, .inl q3.2.2.2.2.2.2.2.2.1)), (b4, .inl (cI, 10, .inl q3.2.2.2.2.2.2.2.2.2.1)), (b5, .inl (cI, 10, .inl q3.2.2.2.2.2.2.2.2.2.2)), (t0, .inr (5, [.int t_len, .int q4.1, .int q4.2.1, .int q4.2.2, .ref t1])), (t1, .inl (cI, 200, .inl t_by))] := hD
          refine lv_aload_n hx hb dX1_carryOut_50 rfl (lv_at hl 0 rfl) ?_
          refine va_get (D := D) (ci := 1) (v := .ref t0) (C := RX1) (T := TX1) (N := 3) hx hb hts hiX1 hown hK.1 hP 0 rfl rfl 1 (by decide) hfl_19 (fun _ h9 => h9) rfl dX1_carryOut_51 ?_
          obtain ⟨q5, hq5, hf⟩ := bd hf
          refine roI (va_runV (As := []) (rest := []) ⟨hx, hb, hml, hown, hts⟩ (c_X5_isEnd l D cI cZ cM t0 t1 t_len q4.1 q4.2.1 q4.2.2 t_by q5 hq5) (cwV 0 hts gX1_carryOut_X5_isEnd rfl rfl rfl ⟨rfl, hdc_X5_isEnd⟩ ⟨Nat.le_of_ble_eq_true rfl, Nat.le_of_ble_eq_true rfl⟩) (prV hK hP [8, 9] rfl (ci := 5) (q0 := 8) rfl rfl) rfl rfl hl.1 rfl (lv_room (Nat.le_of_ble_eq_true rfl)) dX1_carryOut_54 ⟨Nat.zero_le _, Nat.zero_le _⟩) ?_
          refine lv_if_eq (tgt := 62) hx hb dX1_carryOut_57 (by decide) (fun hc => ?_) (fun hc => ?_)
          · have hf := ifp hc hf
            refine lv_aload_n hx hb dX1_carryOut_62 rfl (lv_at hl 0 rfl) ?_
            refine va_get (D := D) (ci := 1) (v := .ref t0) (C := RX1) (T := TX1) (N := 3) hx hb hts hiX1 hown hK.1 hP 0 rfl rfl 1 (by decide) hfl_19 (fun _ h9 => h9) rfl dX1_carryOut_63 ?_
            obtain ⟨q6, hq6, hf⟩ := bd hf
            refine roI (va_runV (As := []) (rest := []) ⟨hx, hb, hml, hown, hts⟩ (c_X5_isSemicolon l D cI cZ cM t0 t1 t_len q4.1 q4.2.1 q4.2.2 t_by q6 hq6) (cwV 0 hts gX1_carryOut_X5_isSemicolon rfl rfl rfl ⟨rfl, hdc_X5_isSemicolon⟩ ⟨Nat.le_of_ble_eq_true rfl, Nat.le_of_ble_eq_true rfl⟩) (prV hK hP [8, 9] rfl (ci := 5) (q0 := 8) rfl rfl) rfl rfl hl.1 rfl (lv_room (Nat.le_of_ble_eq_true rfl)) dX1_carryOut_66 ⟨Nat.zero_le _, Nat.zero_le _⟩) ?_
            refine lv_if_ne (tgt := 80) hx hb dX1_carryOut_69 (by decide) (fun hc => ?_) (fun hc => ?_)
            · have hf := ifn hc hf
              refine lv_iinc (v := (x2 + (nI 1))) (lv' := [(2, .int (x2 + (nI 1))), (0, .ref r0), (1, .ref b0)]) hx hb dX1_carryOut_80 hl (k := 2) rfl (ii_1 _) (by decide) rfl (fun ls hl => ?_)
              refine lv_goto (tgt := 9) hx hb dX1_carryOut_83 (by decide) ?_
              exact ih (x2 + (nI 1)) x2 q3.2.1 q4.1 q4.2.1 q4.2.2 q3.2.2.2.2.2.1 q3.2.2.2.2.2.2.1 q3.2.2.2.2.2.2.2.1 q3.2.2.2.2.2.2.2.2.1 q3.2.2.2.2.2.2.2.2.2.1 q3.2.2.2.2.2.2.2.2.2.2 hf _ _ (hP.sub [0, 1, 8, 9, 2, 3, 4, 5, 6, 7] rfl) (hD.sub [0, 1, 8, 9, 2, 3, 4, 5, 6, 7] (by decide) rfl) hS ls (lv_sub hl [1, 2, 0] rfl)
            · have hf := ifp (Decidable.not_not.mp hc) hf
              refine lv_aload_n hx hb dX1_carryOut_72 rfl (lv_at hl 0 rfl) ?_
              refine va_get (D := D) (ci := 1) (v := .ref t0) (C := RX1) (T := TX1) (N := 3) hx hb hts hiX1 hown hK.1 hP 0 rfl rfl 1 (by decide) hfl_19 (fun _ h9 => h9) rfl dX1_carryOut_73 ?_
              refine va_get (D := D) (ci := 5) (v := .int q4.1) (C := RX5) (T := TX5) (N := 5) hx hb hts hiX5 hown hK.1 hP 8 rfl rfl 1 (by decide) hfl_35 (fun _ h9 => h9) rfl dX1_carryOut_76 ?_
              cases hf
              exact W.iret hx hb hr (fun t ht _ => ⟨⟨rfl, by rw [ht]; exact (hP.sub [0, 1, 8, 9, 2, 3, 4, 5, 6, 7] rfl), (hD.sub [0, 1, 8, 9, 2, 3, 4, 5, 6, 7] (by decide) rfl)⟩, hS.F ht⟩) hS.2.2 dX1_carryOut_79
          · have hf := ifn hc hf
            refine lv_iconst (v := (-1 : Int32)) hx hb dX1_carryOut_60 ic_m1 ?_
            cases hf
            exact W.iret hx hb hr (fun t ht _ => ⟨⟨rfl, by rw [ht]; exact (hP.sub [0, 1, 8, 9, 2, 3, 4, 5, 6, 7] rfl), (hD.sub [0, 1, 8, 9, 2, 3, 4, 5, 6, 7] (by decide) rfl)⟩, hS.F ht⟩) hS.2.2 dX1_carryOut_61
        · have hf := ifp (Decidable.not_not.mp hc) hf
          refine lv_aload_n hx hb dX1_carryOut_30 rfl (lv_at hl 0 rfl) ?_
          refine va_get (D := D) (ci := 1) (v := .ref t0) (C := RX1) (T := TX1) (N := 3) hx hb hts hiX1 hown hK.1 hP 0 rfl rfl 1 (by decide) hfl_19 (fun _ h9 => h9) rfl dX1_carryOut_31 ?_
          refine va_get (D := D) (ci := 5) (v := .int q3.2.2.1) (C := RX5) (T := TX5) (N := 5) hx hb hts hiX5 hown hK.1 hP 2 rfl rfl 1 (by decide) hfl_35 (fun _ h9 => h9) rfl dX1_carryOut_34 ?_
          cases hf
          exact W.iret hx hb hr (fun t ht _ => ⟨⟨rfl, by rw [ht]; exact hP, hD⟩, hS.F ht⟩) hS.2.2 dX1_carryOut_37
  have hl := lv_entry ([.ref r0, .ref b0]) (n := 3) (Nat.le_of_ble_eq_true rfl)
  rw [lg_entry_eq]
  generalize (lg_sl ([.ref r0, .ref b0]) ++ List.replicate (3 - (lg_sl ([.ref r0, .ref b0])).length) Slot.unset).toArray = ls at hl ⊢
  have hl : lv_has ls 3 [(0, .ref r0), (1, .ref b0)] := hl
  have hS : va_S A s.heap s.heap [] := va_S.rf
  unfold m_X1_carryOut at hf
  refine lv_aload_n hx hb dX1_carryOut_0 rfl (lv_at hl 0 rfl) ?_
  refine va_get (D := D) (ci := 1) (v := .ref t0) (C := RX1) (T := TX1) (N := 3) hx hb hts hiX1 hown hK.1 hP 0 rfl rfl 1 (by decide) hfl_19 (fun _ h9 => h9) rfl dX1_carryOut_1 ?_
  obtain ⟨q1, hq1, hf⟩ := bd hf
  refine muV0 (wr := [(r0, .inr (1, [.int r_cl, .ref t0, .ref r1])), (r1, .inl (cI, 10, .inl r_no)), (b0, .inr (3, [.int b_n, .ref b1, .ref b2, .ref b3, .ref b4, .ref b5])), (b1, .inl (cI, 10, .inl b_L)), (b2, .inl (cI, 10, .inl b_U)), (b3, .inl (cI, 12, .inl b_H)), (b4, .inl (cI, 10, .inl b_O)), (b5, .inl (cI, 10, .inl b_B))]) (va_runV (As := []) (rest := []) ⟨hx, hb, hml, hown, hts⟩ (c_X5_rewind l D cI cZ cM t0 t1 H.size t_len t_st t_nx t_kd t_by q1 hq1) (cwV 0 hts gX1_carryOut_X5_rewind rfl rfl rfl ⟨rfl, hdc_X5_rewind⟩ ⟨Nat.le_of_ble_eq_true rfl, Nat.le_of_ble_eq_true rfl⟩) (pmV hK hP hD [2, 3] (by decide) rfl rfl (ci := 5) (q0 := 2) rfl rfl) rfl rfl hl.1 rfl (lv_room (Nat.le_of_ble_eq_true rfl)) dX1_carryOut_4 ⟨Nat.zero_le _, Nat.zero_le _⟩) hP hD hS hA [2, 3] [0, 1, 4, 5, 6, 7, 8, 9] rfl rfl (by decide) (by decide) (fun H locs hP hD hS => ?_)
  have hP : va_P D vwCl [(r0, .inr (1, [.int r_cl, .ref t0, .ref r1])), (r1, .inl (cI, 10, .inl r_no)), (b0, .inr (3, [.int b_n, .ref b1, .ref b2, .ref b3, .ref b4, .ref b5])), (b1, .inl (cI, 10, .inl b_L)), (b2, .inl (cI, 10, .inl b_U)), (b3, .inl (cI, 12, .inl b_H)), (b4, .inl (cI, 10, .inl b_O)), (b5, .inl (cI, 10, .inl b_B)), (t0, .inr (5, [.int t_len, .int t_st, .int q1, .int t_kd, .ref t1])), (t1, .inl (cI, 200, .inl t_by))] H := hP
  have hD : va_D A [(r0, .inr (1, [.int r_cl, .ref t0, .ref r1])), (r1, .inl (cI, 10, .inl r_no)), (b0, .inr (3, [.int b_n, .ref b1, .ref b2, .ref b3, .ref b4, .ref b5])), (b1, .inl (cI, 10, .inl b_L)), (b2, .inl (cI, 10, .inl b_U)), (b3, .inl (cI, 12, .inl b_H)), (b4, .inl (cI, 10, .inl b_O)), (b5, .inl (cI, 10, .inl b_B)), (t0, .inr (5, [.int t_len, .int t_st, .int q1, .int t_kd, .ref t1])), (t1, .inl (cI, 200, .inl t_by))] := hD
  refine lv_iconst (v := (nI 1)) hx hb dX1_carryOut_7 ic_1 ?_
  refine lv_istore_n (lv' := [(2, .int (nI 1)), (0, .ref r0), (1, .ref b0)]) hx hb dX1_carryOut_8 rfl hl (by decide) rfl (fun ls hl => ?_)
  exact hB_9 fu (nI 1) r_cl r_no t_st q1 t_kd b_n b_L b_U b_H b_O b_B hf _ _ (hP.sub [0, 1, 8, 9, 2, 3, 4, 5, 6, 7] rfl) (hD.sub [0, 1, 8, 9, 2, 3, 4, 5, 6, 7] (by decide) rfl) hS ls (lv_sub hl [1, 2, 0] rfl)
theorem hdc_X2_remember : yX2_remember.cls ≠ "java/lang/invoke/MethodHandle" ∧ yX2_remember.cls ≠ "java/lang/invoke/VarHandle" ∧ (parseMethodDescriptor yX2_remember.desc).map (fun d => d.parameters.length) = some 1 := by decide +kernel
set_option maxHeartbeats 4000000 in
set_option maxRecDepth 100000 in
theorem c_X2_remember (l : Launch) (D : va_G) (cI cZ cM : ClassId) (h0 h1 y0 y1 y2 y3 y4 y5 a0 a1 a2 a3 a4 a5 : Nat) (sz : Nat) (h_sz : Int32) (h_nx : Int32) (h_st : Nat → Option Nat) (y_n : Int32) (y_L : Nat → Int32) (y_U : Nat → Int32) (y_H : Nat → Int32) (y_O : Nat → Int32) (y_B : Nat → Int32) (a_n : Int32) (a_L : Nat → Int32) (a_U : Nat → Int32) (a_H : Nat → Int32) (a_O : Nat → Int32) (a_B : Nat → Int32) (hg : h_st h_nx.toNatClampNeg = some y0) (fu : Nat) (h_sz' : Int32) (h_nx' : Int32) (y_n' : Int32) (y_L' : Nat → Int32) (y_U' : Nat → Int32) (y_H' : Nat → Int32) (y_O' : Nat → Int32) (y_B' : Nat → Int32) (hf : m_X2_remember fu h_sz h_nx y_L y_U y_H y_O y_B a_n a_L a_U a_H a_O a_B = some (h_sz', h_nx', y_n', y_L', y_U', y_H', y_O', y_B')) : Met l yX2_remember wsX2_remember ({ frames := 1, cells := 0, slots := 0, locals := 30 }) (pM D cI cZ cM sz [(h0, .inr (2, [.int h_sz, .int h_nx, .ref h1])), (h1, .inl (cM, 8, .inr (.inr (.inr (.inr h_st))))), (y0, .inr (3, [.int y_n, .ref y1, .ref y2, .ref y3, .ref y4, .ref y5])), (y1, .inl (cI, 10, .inl y_L)), (y2, .inl (cI, 10, .inl y_U)), (y3, .inl (cI, 12, .inl y_H)), (y4, .inl (cI, 10, .inl y_O)), (y5, .inl (cI, 10, .inl y_B)), (a0, .inr (3, [.int a_n, .ref a1, .ref a2, .ref a3, .ref a4, .ref a5])), (a1, .inl (cI, 10, .inl a_L)), (a2, .inl (cI, 10, .inl a_U)), (a3, .inl (cI, 12, .inl a_H)), (a4, .inl (cI, 10, .inl a_O)), (a5, .inl (cI, 10, .inl a_B))] [.ref h0, .ref a0]) (qV D [(h0, .inr (2, [.int h_sz', .int h_nx', .ref h1])), (h1, .inl (cM, 8, .inr (.inr (.inr (.inr h_st))))), (y0, .inr (3, [.int y_n', .ref y1, .ref y2, .ref y3, .ref y4, .ref y5])), (y1, .inl (cI, 10, .inl y_L')), (y2, .inl (cI, 10, .inl y_U')), (y3, .inl (cI, 12, .inl y_H')), (y4, .inl (cI, 10, .inl y_O')), (y5, .inl (cI, 10, .inl y_B')), (a0, .inr (3, [.int a_n, .ref a1, .ref a2, .ref a3, .ref a4, .ref a5])), (a1, .inl (cI, 10, .inl a_L)), (a2, .inl (cI, 10, .inl a_U)), (a3, .inl (cI, 12, .inl a_H)), (a4, .inl (cI, 10, .inl a_O)), (a5, .inl (cI, 10, .inl a_B))] (va_A [(h0, .inr (2, [.int h_sz, .int h_nx, .ref h1])), (h1, .inl (cM, 8, .inr (.inr (.inr (.inr h_st))))), (y0, .inr (3, [.int y_n, .ref y1, .ref y2, .ref y3, .ref y4, .ref y5])), (y1, .inl (cI, 10, .inl y_L)), (y2, .inl (cI, 10, .inl y_U)), (y3, .inl (cI, 12, .inl y_H)), (y4, .inl (cI, 10, .inl y_O)), (y5, .inl (cI, 10, .inl y_B)), (a0, .inr (3, [.int a_n, .ref a1, .ref a2, .ref a3, .ref a4, .ref a5])), (a1, .inl (cI, 10, .inl a_L)), (a2, .inl (cI, 10, .inl a_U)), (a3, .inl (cI, 12, .inl a_H)), (a4, .inl (cI, 10, .inl a_O)), (a5, .inl (cI, 10, .inl a_B))] sz)) 0 0 (va_A [(h0, .inr (2, [.int h_sz, .int h_nx, .ref h1])), (h1, .inl (cM, 8, .inr (.inr (.inr (.inr h_st))))), (y0, .inr (3, [.int y_n, .ref y1, .ref y2, .ref y3, .ref y4, .ref y5])), (y1, .inl (cI, 10, .inl y_L)), (y2, .inl (cI, 10, .inl y_U)), (y3, .inl (cI, 12, .inl y_H)), (y4, .inl (cI, 10, .inl y_O)), (y5, .inl (cI, 10, .inl y_B)), (a0, .inr (3, [.int a_n, .ref a1, .ref a2, .ref a3, .ref a4, .ref a5])), (a1, .inl (cI, 10, .inl a_L)), (a2, .inl (cI, 10, .inl a_U)), (a3, .inl (cI, 12, .inl a_H)), (a4, .inl (cI, 10, .inl a_O)), (a5, .inl (cI, 10, .inl a_B))] sz) := by
  refine Met.ofW (cc := cX2_remember) (maxL := 2) (ret := none) (by decide) rfl ?_
  intro p e s m args below meth c s₁ B hml hv
  obtain ⟨rfl, hsz, hP, hK, hD0⟩ := hv
  have hx := B.exec
  have hb := B.bytes
  have hr := B.returns
  have hts := atoms_spec (ws := wsX2_remember) B.pre
  have hown : s.vm.findClass RX2 = some m.cls := findClass_of_methodNamed B.named
  have hlocks := B.notSynchronized
  subst hsz
  have hD := hD0.self (sz := s.heap.size)
  generalize hAe : va_A [(h0, .inr (2, [.int h_sz, .int h_nx, .ref h1])), (h1, .inl (cM, 8, .inr (.inr (.inr (.inr h_st))))), (y0, .inr (3, [.int y_n, .ref y1, .ref y2, .ref y3, .ref y4, .ref y5])), (y1, .inl (cI, 10, .inl y_L)), (y2, .inl (cI, 10, .inl y_U)), (y3, .inl (cI, 12, .inl y_H)), (y4, .inl (cI, 10, .inl y_O)), (y5, .inl (cI, 10, .inl y_B)), (a0, .inr (3, [.int a_n, .ref a1, .ref a2, .ref a3, .ref a4, .ref a5])), (a1, .inl (cI, 10, .inl a_L)), (a2, .inl (cI, 10, .inl a_U)), (a3, .inl (cI, 12, .inl a_H)), (a4, .inl (cI, 10, .inl a_O)), (a5, .inl (cI, 10, .inl a_B))] s.heap.size = A at hD ⊢
  have hA : ∀ q : Nat, s.heap.size ≤ q → A q := fun q h => by rw [← hAe]; exact Or.inr h
  clear hAe hD0
  have hfl_9 := hts (.fieldLink RX2 9 "TermsFirst$History" "size" "I") (by decide +kernel)
  have hfl_15 := hts (.fieldLink RX2 15 "TermsFirst$History" "next" "I") (by decide +kernel)
  have hfl_20 := hts (.fieldLink RX2 20 "TermsFirst$History" "states" "[LTermsFirst$Manual;") (by decide +kernel)
  have hiX2 : ∀ w ∈ u_ws RX2 TX2 3, w ∈ wsX2_remember := by decide +kernel
  have hl := lv_entry ([.ref h0, .ref a0]) (n := 2) (Nat.le_of_ble_eq_true rfl)
  rw [lg_entry_eq]
  generalize (lg_sl ([.ref h0, .ref a0]) ++ List.replicate (2 - (lg_sl ([.ref h0, .ref a0])).length) Slot.unset).toArray = ls at hl ⊢
  have hl : lv_has ls 2 [(0, .ref h0), (1, .ref a0)] := hl
  have hS : va_S A s.heap s.heap [] := va_S.rf
  unfold m_X2_remember at hf
  refine lv_aload_n hx hb dX2_remember_0 rfl (lv_at hl 0 rfl) ?_
  refine va_get (D := D) (ci := 2) (v := .ref h1) (C := RX2) (T := TX2) (N := 3) hx hb hts hiX2 hown hK.1 hP 0 rfl rfl 2 (by decide) hfl_20 (fun _ h9 => h9) rfl dX2_remember_1 ?_
  refine lv_aload_n hx hb dX2_remember_4 rfl (lv_at hl 0 rfl) ?_
  refine va_get (D := D) (ci := 2) (v := .int h_nx) (C := RX2) (T := TX2) (N := 3) hx hb hts hiX2 hown hK.1 hP 0 rfl rfl 1 (by decide) hfl_15 (fun _ h9 => h9) rfl dX2_remember_5 ?_
  obtain ⟨hi, hf⟩ := gd_some hf
  refine aldq hx hb hK.1 hP 1 2 rfl rfl hi hg dX2_remember_8 ?_
  refine lv_aload_n hx hb dX2_remember_9 rfl (lv_at hl 1 rfl) ?_
  obtain ⟨q1, hq1, hf⟩ := bd hf
  refine muV0 (wr := [(h0, .inr (2, [.int h_sz, .int h_nx, .ref h1])), (h1, .inl (cM, 8, .inr (.inr (.inr (.inr h_st)))))]) (va_runV (As := [.ref a0]) (rest := []) ⟨hx, hb, hml, hown, hts⟩ (c_X3_become l D cI cZ cM y0 y1 y2 y3 y4 y5 a0 a1 a2 a3 a4 a5 H.size y_n y_L y_U y_H y_O y_B a_n a_L a_U a_H a_O a_B fu q1.1 q1.2.1 q1.2.2.1 q1.2.2.2.1 q1.2.2.2.2.1 q1.2.2.2.2.2 hq1) (cwV 1 hts gX2_remember_X3_become rfl rfl rfl ⟨rfl, hdc_X3_become⟩ ⟨Nat.le_of_ble_eq_true rfl, Nat.le_of_ble_eq_true rfl⟩) (pmV hK hP hD [2, 3, 4, 5, 6, 7, 8, 9, 10, 11, 12, 13] (by decide) rfl rfl (ci := 3) (q0 := 2) rfl rfl) rfl rfl hl.1 rfl (lv_room (Nat.le_of_ble_eq_true rfl)) dX2_remember_10 ⟨Nat.zero_le _, Nat.zero_le _⟩) hP hD hS hA [2, 3, 4, 5, 6, 7, 8, 9, 10, 11, 12, 13] [0, 1] rfl rfl (by decide) (by decide) (fun H locs hP hD hS => ?_)
  have hP : va_P D vwCl [(h0, .inr (2, [.int h_sz, .int h_nx, .ref h1])), (h1, .inl (cM, 8, .inr (.inr (.inr (.inr h_st))))), (y0, .inr (3, [.int q1.1, .ref y1, .ref y2, .ref y3, .ref y4, .ref y5])), (y1, .inl (cI, 10, .inl q1.2.1)), (y2, .inl (cI, 10, .inl q1.2.2.1)), (y3, .inl (cI, 12, .inl q1.2.2.2.1)), (y4, .inl (cI, 10, .inl q1.2.2.2.2.1)), (y5, .inl (cI, 10, .inl q1.2.2.2.2.2)), (a0, .inr (3, [.int a_n, .ref a1, .ref a2, .ref a3, .ref a4, .ref a5])), (a1, .inl (cI, 10, .inl a_L)), (a2, .inl (cI, 10, .inl a_U)), (a3, .inl (cI, 12, .inl a_H)), (a4, .inl (cI, 10, .inl a_O)), (a5, .inl (cI, 10, .inl a_B))] H := hP
  have hD : va_D A [(h0, .inr (2, [.int h_sz, .int h_nx, .ref h1])), (h1, .inl (cM, 8, .inr (.inr (.inr (.inr h_st))))), (y0, .inr (3, [.int q1.1, .ref y1, .ref y2, .ref y3, .ref y4, .ref y5])), (y1, .inl (cI, 10, .inl q1.2.1)), (y2, .inl (cI, 10, .inl q1.2.2.1)), (y3, .inl (cI, 12, .inl q1.2.2.2.1)), (y4, .inl (cI, 10, .inl q1.2.2.2.2.1)), (y5, .inl (cI, 10, .inl q1.2.2.2.2.2)), (a0, .inr (3, [.int a_n, .ref a1, .ref a2, .ref a3, .ref a4, .ref a5])), (a1, .inl (cI, 10, .inl a_L)), (a2, .inl (cI, 10, .inl a_U)), (a3, .inl (cI, 12, .inl a_H)), (a4, .inl (cI, 10, .inl a_O)), (a5, .inl (cI, 10, .inl a_B))] := hD
  refine lv_aload_n hx hb dX2_remember_13 rfl (lv_at hl 0 rfl) ?_
  refine lv_aload_n hx hb dX2_remember_14 rfl (lv_at hl 0 rfl) ?_
  refine va_get (D := D) (ci := 2) (v := .int h_nx) (C := RX2) (T := TX2) (N := 3) hx hb hts hiX2 hown hK.1 hP 0 rfl rfl 1 (by decide) hfl_15 (fun _ h9 => h9) rfl dX2_remember_15 ?_
  refine lv_iconst (v := (nI 1)) hx hb dX2_remember_18 ic_1 ?_
  refine lv_iadd hx hb dX2_remember_19 ?_
  refine lv_bipush (v := (nI 8)) hx hb dX2_remember_20 bp_8 ?_
  refine lv_irem hx hb dX2_remember_22 (by decide +kernel) ?_
  refine va_put (D := D) (ci := 2) (v := .int ((h_nx + (nI 1)) - (h_nx + (nI 1)) / (nI 8) * (nI 8))) (ty := .int) (C := RX2) (T := TX2) (N := 3) hx hb hts hiX2 tyX2 tyX2_ok nmX2 hown hK.1 hP hD hS 0 rfl rfl 1 (by decide) hfl_15 (fun _ h9 => h9) rfl (tyX2_ok 1 (by decide)) rfl rfl (Nat.le_of_ble_eq_true rfl) dX2_remember_23 (fun H locs hP hD hS => ?_)
  have hP : va_P D vwCl [(h0, .inr (2, [.int h_sz, .int ((h_nx + (nI 1)) - (h_nx + (nI 1)) / (nI 8) * (nI 8)), .ref h1])), (h1, .inl (cM, 8, .inr (.inr (.inr (.inr h_st))))), (y0, .inr (3, [.int q1.1, .ref y1, .ref y2, .ref y3, .ref y4, .ref y5])), (y1, .inl (cI, 10, .inl q1.2.1)), (y2, .inl (cI, 10, .inl q1.2.2.1)), (y3, .inl (cI, 12, .inl q1.2.2.2.1)), (y4, .inl (cI, 10, .inl q1.2.2.2.2.1)), (y5, .inl (cI, 10, .inl q1.2.2.2.2.2)), (a0, .inr (3, [.int a_n, .ref a1, .ref a2, .ref a3, .ref a4, .ref a5])), (a1, .inl (cI, 10, .inl a_L)), (a2, .inl (cI, 10, .inl a_U)), (a3, .inl (cI, 12, .inl a_H)), (a4, .inl (cI, 10, .inl a_O)), (a5, .inl (cI, 10, .inl a_B))] H := hP
  have hD : va_D A [(h0, .inr (2, [.int h_sz, .int ((h_nx + (nI 1)) - (h_nx + (nI 1)) / (nI 8) * (nI 8)), .ref h1])), (h1, .inl (cM, 8, .inr (.inr (.inr (.inr h_st))))), (y0, .inr (3, [.int q1.1, .ref y1, .ref y2, .ref y3, .ref y4, .ref y5])), (y1, .inl (cI, 10, .inl q1.2.1)), (y2, .inl (cI, 10, .inl q1.2.2.1)), (y3, .inl (cI, 12, .inl q1.2.2.2.1)), (y4, .inl (cI, 10, .inl q1.2.2.2.2.1)), (y5, .inl (cI, 10, .inl q1.2.2.2.2.2)), (a0, .inr (3, [.int a_n, .ref a1, .ref a2, .ref a3, .ref a4, .ref a5])), (a1, .inl (cI, 10, .inl a_L)), (a2, .inl (cI, 10, .inl a_U)), (a3, .inl (cI, 12, .inl a_H)), (a4, .inl (cI, 10, .inl a_O)), (a5, .inl (cI, 10, .inl a_B))] := hD
  refine lv_aload_n hx hb dX2_remember_26 rfl (lv_at hl 0 rfl) ?_
  refine lv_aload_n hx hb dX2_remember_27 rfl (lv_at hl 0 rfl) ?_
  refine va_get (D := D) (ci := 2) (v := .int h_sz) (C := RX2) (T := TX2) (N := 3) hx hb hts hiX2 hown hK.1 hP 0 rfl rfl 0 (by decide) hfl_9 (fun _ h9 => h9) rfl dX2_remember_28 ?_
  refine lv_iconst (v := (nI 1)) hx hb dX2_remember_31 ic_1 ?_
  refine lv_iadd hx hb dX2_remember_32 ?_
  refine lv_bipush (v := (nI 8)) hx hb dX2_remember_33 bp_8 ?_
  refine va_mmin hx hb (hml.trans hl.1.symm) hown (hts (.methodLink RX2 29 Lib.Math.min.name) (by decide +kernel)) (hts (.static Lib.Math.min.name) (by decide +kernel)) (hts (.initialized "java/lang/Math") (by decide +kernel)) (hts (.code Lib.Math.min.name Lib.Math.min.code 2 (some .int)) (by decide +kernel)) (Nat.le_of_ble_eq_true rfl) (Nat.le_of_ble_eq_true rfl) (Nat.zero_le _) (Nat.zero_le _) dX2_remember_35 ?_
  refine va_put (D := D) (ci := 2) (v := .int (if (nI 8) < (h_sz + (nI 1)) then (nI 8) else (h_sz + (nI 1)))) (ty := .int) (C := RX2) (T := TX2) (N := 3) hx hb hts hiX2 tyX2 tyX2_ok nmX2 hown hK.1 hP hD hS 0 rfl rfl 0 (by decide) hfl_9 (fun _ h9 => h9) rfl (tyX2_ok 0 (by decide)) rfl rfl (Nat.le_of_ble_eq_true rfl) dX2_remember_38 (fun H locs hP hD hS => ?_)
  have hP : va_P D vwCl [(h0, .inr (2, [.int (if (nI 8) < (h_sz + (nI 1)) then (nI 8) else (h_sz + (nI 1))), .int ((h_nx + (nI 1)) - (h_nx + (nI 1)) / (nI 8) * (nI 8)), .ref h1])), (h1, .inl (cM, 8, .inr (.inr (.inr (.inr h_st))))), (y0, .inr (3, [.int q1.1, .ref y1, .ref y2, .ref y3, .ref y4, .ref y5])), (y1, .inl (cI, 10, .inl q1.2.1)), (y2, .inl (cI, 10, .inl q1.2.2.1)), (y3, .inl (cI, 12, .inl q1.2.2.2.1)), (y4, .inl (cI, 10, .inl q1.2.2.2.2.1)), (y5, .inl (cI, 10, .inl q1.2.2.2.2.2)), (a0, .inr (3, [.int a_n, .ref a1, .ref a2, .ref a3, .ref a4, .ref a5])), (a1, .inl (cI, 10, .inl a_L)), (a2, .inl (cI, 10, .inl a_U)), (a3, .inl (cI, 12, .inl a_H)), (a4, .inl (cI, 10, .inl a_O)), (a5, .inl (cI, 10, .inl a_B))] H := hP
  have hD : va_D A [(h0, .inr (2, [.int (if (nI 8) < (h_sz + (nI 1)) then (nI 8) else (h_sz + (nI 1))), .int ((h_nx + (nI 1)) - (h_nx + (nI 1)) / (nI 8) * (nI 8)), .ref h1])), (h1, .inl (cM, 8, .inr (.inr (.inr (.inr h_st))))), (y0, .inr (3, [.int q1.1, .ref y1, .ref y2, .ref y3, .ref y4, .ref y5])), (y1, .inl (cI, 10, .inl q1.2.1)), (y2, .inl (cI, 10, .inl q1.2.2.1)), (y3, .inl (cI, 12, .inl q1.2.2.2.1)), (y4, .inl (cI, 10, .inl q1.2.2.2.2.1)), (y5, .inl (cI, 10, .inl q1.2.2.2.2.2)), (a0, .inr (3, [.int a_n, .ref a1, .ref a2, .ref a3, .ref a4, .ref a5])), (a1, .inl (cI, 10, .inl a_L)), (a2, .inl (cI, 10, .inl a_U)), (a3, .inl (cI, 12, .inl a_H)), (a4, .inl (cI, 10, .inl a_O)), (a5, .inl (cI, 10, .inl a_B))] := hD
  cases hf
  exact W.vret hx hb hr (fun t ht _ => ⟨⟨rfl, by rw [ht]; exact hP, hD⟩, hS.F ht⟩) hS.2.2 dX2_remember_41
theorem hdc_X2_restore : yX2_restore.cls ≠ "java/lang/invoke/MethodHandle" ∧ yX2_restore.cls ≠ "java/lang/invoke/VarHandle" ∧ (parseMethodDescriptor yX2_restore.desc).map (fun d => d.parameters.length) = some 1 := by decide +kernel
set_option maxHeartbeats 4000000 in
set_option maxRecDepth 100000 in
theorem c_X2_restore (l : Launch) (D : va_G) (cI cZ cM : ClassId) (h0 h1 y0 y1 y2 y3 y4 y5 a0 a1 a2 a3 a4 a5 : Nat) (sz : Nat) (h_sz : Int32) (h_nx : Int32) (h_st : Nat → Option Nat) (y_n : Int32) (y_L : Nat → Int32) (y_U : Nat → Int32) (y_H : Nat → Int32) (y_O : Nat → Int32) (y_B : Nat → Int32) (a_n : Int32) (a_L : Nat → Int32) (a_U : Nat → Int32) (a_H : Nat → Int32) (a_O : Nat → Int32) (a_B : Nat → Int32) (hg : h_st (((h_nx + (nI 8)) - (nI 1)) - ((h_nx + (nI 8)) - (nI 1)) / (nI 8) * (nI 8)).toNatClampNeg = some y0) (fu : Nat) (h_sz' : Int32) (h_nx' : Int32) (a_n' : Int32) (a_L' : Nat → Int32) (a_U' : Nat → Int32) (a_H' : Nat → Int32) (a_O' : Nat → Int32) (a_B' : Nat → Int32) (hf : m_X2_restore fu h_sz h_nx y_n y_L y_U y_H y_O y_B a_n a_L a_U a_H a_O a_B = some (h_sz', h_nx', a_n', a_L', a_U', a_H', a_O', a_B')) : Met l yX2_restore wsX2_restore ({ frames := 1, cells := 0, slots := 0, locals := 22 }) (pM D cI cZ cM sz [(h0, .inr (2, [.int h_sz, .int h_nx, .ref h1])), (h1, .inl (cM, 8, .inr (.inr (.inr (.inr h_st))))), (y0, .inr (3, [.int y_n, .ref y1, .ref y2, .ref y3, .ref y4, .ref y5])), (y1, .inl (cI, 10, .inl y_L)), (y2, .inl (cI, 10, .inl y_U)), (y3, .inl (cI, 12, .inl y_H)), (y4, .inl (cI, 10, .inl y_O)), (y5, .inl (cI, 10, .inl y_B)), (a0, .inr (3, [.int a_n, .ref a1, .ref a2, .ref a3, .ref a4, .ref a5])), (a1, .inl (cI, 10, .inl a_L)), (a2, .inl (cI, 10, .inl a_U)), (a3, .inl (cI, 12, .inl a_H)), (a4, .inl (cI, 10, .inl a_O)), (a5, .inl (cI, 10, .inl a_B))] [.ref h0, .ref a0]) (qV D [(h0, .inr (2, [.int h_sz', .int h_nx', .ref h1])), (h1, .inl (cM, 8, .inr (.inr (.inr (.inr h_st))))), (y0, .inr (3, [.int y_n, .ref y1, .ref y2, .ref y3, .ref y4, .ref y5])), (y1, .inl (cI, 10, .inl y_L)), (y2, .inl (cI, 10, .inl y_U)), (y3, .inl (cI, 12, .inl y_H)), (y4, .inl (cI, 10, .inl y_O)), (y5, .inl (cI, 10, .inl y_B)), (a0, .inr (3, [.int a_n', .ref a1, .ref a2, .ref a3, .ref a4, .ref a5])), (a1, .inl (cI, 10, .inl a_L')), (a2, .inl (cI, 10, .inl a_U')), (a3, .inl (cI, 12, .inl a_H')), (a4, .inl (cI, 10, .inl a_O')), (a5, .inl (cI, 10, .inl a_B'))] (va_A [(h0, .inr (2, [.int h_sz, .int h_nx, .ref h1])), (h1, .inl (cM, 8, .inr (.inr (.inr (.inr h_st))))), (y0, .inr (3, [.int y_n, .ref y1, .ref y2, .ref y3, .ref y4, .ref y5])), (y1, .inl (cI, 10, .inl y_L)), (y2, .inl (cI, 10, .inl y_U)), (y3, .inl (cI, 12, .inl y_H)), (y4, .inl (cI, 10, .inl y_O)), (y5, .inl (cI, 10, .inl y_B)), (a0, .inr (3, [.int a_n, .ref a1, .ref a2, .ref a3, .ref a4, .ref a5])), (a1, .inl (cI, 10, .inl a_L)), (a2, .inl (cI, 10, .inl a_U)), (a3, .inl (cI, 12, .inl a_H)), (a4, .inl (cI, 10, .inl a_O)), (a5, .inl (cI, 10, .inl a_B))] sz)) 0 0 (va_A [(h0, .inr (2, [.int h_sz, .int h_nx, .ref h1])), (h1, .inl (cM, 8, .inr (.inr (.inr (.inr h_st))))), (y0, .inr (3, [.int y_n, .ref y1, .ref y2, .ref y3, .ref y4, .ref y5])), (y1, .inl (cI, 10, .inl y_L)), (y2, .inl (cI, 10, .inl y_U)), (y3, .inl (cI, 12, .inl y_H)), (y4, .inl (cI, 10, .inl y_O)), (y5, .inl (cI, 10, .inl y_B)), (a0, .inr (3, [.int a_n, .ref a1, .ref a2, .ref a3, .ref a4, .ref a5])), (a1, .inl (cI, 10, .inl a_L)), (a2, .inl (cI, 10, .inl a_U)), (a3, .inl (cI, 12, .inl a_H)), (a4, .inl (cI, 10, .inl a_O)), (a5, .inl (cI, 10, .inl a_B))] sz) := by
  refine Met.ofW (cc := cX2_restore) (maxL := 2) (ret := none) (by decide) rfl ?_
  intro p e s m args below meth c s₁ B hml hv
  obtain ⟨rfl, hsz, hP, hK, hD0⟩ := hv
  have hx := B.exec
  have hb := B.bytes
  have hr := B.returns
  have hts := atoms_spec (ws := wsX2_restore) B.pre
  have hown : s.vm.findClass RX2 = some m.cls := findClass_of_methodNamed B.named
  have hlocks := B.notSynchronized
  subst hsz
  have hD := hD0.self (sz := s.heap.size)
  generalize hAe : va_A [(h0, .inr (2, [.int h_sz, .int h_nx, .ref h1])), (h1, .inl (cM, 8, .inr (.inr (.inr (.inr h_st))))), (y0, .inr (3, [.int y_n, .ref y1, .ref y2, .ref y3, .ref y4, .ref y5])), (y1, .inl (cI, 10, .inl y_L)), (y2, .inl (cI, 10, .inl y_U)), (y3, .inl (cI, 12, .inl y_H)), (y4, .inl (cI, 10, .inl y_O)), (y5, .inl (cI, 10, .inl y_B)), (a0, .inr (3, [.int a_n, .ref a1, .ref a2, .ref a3, .ref a4, .ref a5])), (a1, .inl (cI, 10, .inl a_L)), (a2, .inl (cI, 10, .inl a_U)), (a3, .inl (cI, 12, .inl a_H)), (a4, .inl (cI, 10, .inl a_O)), (a5, .inl (cI, 10, .inl a_B))] s.heap.size = A at hD ⊢
  have hA : ∀ q : Nat, s.heap.size ≤ q → A q := fun q h => by rw [← hAe]; exact Or.inr h
  clear hAe hD0
  have hfl_9 := hts (.fieldLink RX2 9 "TermsFirst$History" "size" "I") (by decide +kernel)
  have hfl_15 := hts (.fieldLink RX2 15 "TermsFirst$History" "next" "I") (by decide +kernel)
  have hfl_20 := hts (.fieldLink RX2 20 "TermsFirst$History" "states" "[LTermsFirst$Manual;") (by decide +kernel)
  have hiX2 : ∀ w ∈ u_ws RX2 TX2 3, w ∈ wsX2_restore := by decide +kernel
  have hl := lv_entry ([.ref h0, .ref a0]) (n := 2) (Nat.le_of_ble_eq_true rfl)
  rw [lg_entry_eq]
  generalize (lg_sl ([.ref h0, .ref a0]) ++ List.replicate (2 - (lg_sl ([.ref h0, .ref a0])).length) Slot.unset).toArray = ls at hl ⊢
  have hl : lv_has ls 2 [(0, .ref h0), (1, .ref a0)] := hl
  have hS : va_S A s.heap s.heap [] := va_S.rf
  unfold m_X2_restore at hf
  refine lv_aload_n hx hb dX2_restore_0 rfl (lv_at hl 0 rfl) ?_
  refine va_get (D := D) (ci := 2) (v := .int h_sz) (C := RX2) (T := TX2) (N := 3) hx hb hts hiX2 hown hK.1 hP 0 rfl rfl 0 (by decide) hfl_9 (fun _ h9 => h9) rfl dX2_restore_1 ?_
  refine lv_if_ne (tgt := 8) hx hb dX2_restore_4 (by decide) (fun hc => ?_) (fun hc => ?_)
  · have hf := ifn hc hf
    refine lv_aload_n hx hb dX2_restore_8 rfl (lv_at hl 0 rfl) ?_
    refine lv_aload_n hx hb dX2_restore_9 rfl (lv_at hl 0 rfl) ?_
    refine va_get (D := D) (ci := 2) (v := .int h_nx) (C := RX2) (T := TX2) (N := 3) hx hb hts hiX2 hown hK.1 hP 0 rfl rfl 1 (by decide) hfl_15 (fun _ h9 => h9) rfl dX2_restore_10 ?_
    refine lv_bipush (v := (nI 8)) hx hb dX2_restore_13 bp_8 ?_
    refine lv_iadd hx hb dX2_restore_15 ?_
    refine lv_iconst (v := (nI 1)) hx hb dX2_restore_16 ic_1 ?_
    refine lv_isub hx hb dX2_restore_17 ?_
    refine lv_bipush (v := (nI 8)) hx hb dX2_restore_18 bp_8 ?_
    refine lv_irem hx hb dX2_restore_20 (by decide +kernel) ?_
    refine va_put (D := D) (ci := 2) (v := .int (((h_nx + (nI 8)) - (nI 1)) - ((h_nx + (nI 8)) - (nI 1)) / (nI 8) * (nI 8))) (ty := .int) (C := RX2) (T := TX2) (N := 3) hx hb hts hiX2 tyX2 tyX2_ok nmX2 hown hK.1 hP hD hS 0 rfl rfl 1 (by decide) hfl_15 (fun _ h9 => h9) rfl (tyX2_ok 1 (by decide)) rfl rfl (Nat.le_of_ble_eq_true rfl) dX2_restore_21 (fun H locs hP hD hS => ?_)
    have hP : va_P D vwCl [(h0, .inr (2, [.int h_sz, .int (((h_nx + (nI 8)) - (nI 1)) - ((h_nx + (nI 8)) - (nI 1)) / (nI 8) * (nI 8)), .ref h1])), (h1, .inl (cM, 8, .inr (.inr (.inr (.inr h_st))))), (y0, .inr (3, [.int y_n, .ref y1, .ref y2, .ref y3, .ref y4, .ref y5])), (y1, .inl (cI, 10, .inl y_L)), (y2, .inl (cI, 10, .inl y_U)), (y3, .inl (cI, 12, .inl y_H)), (y4, .inl (cI, 10, .inl y_O)), (y5, .inl (cI, 10, .inl y_B)), (a0, .inr (3, [.int a_n, .ref a1, .ref a2, .ref a3, .ref a4, .ref a5])), (a1, .inl (cI, 10, .inl a_L)), (a2, .inl (cI, 10, .inl a_U)), (a3, .inl (cI, 12, .inl a_H)), (a4, .inl (cI, 10, .inl a_O)), (a5, .inl (cI, 10, .inl a_B))] H := hP
    have hD : va_D A [(h0, .inr (2, [.int h_sz, .int (((h_nx + (nI 8)) - (nI 1)) - ((h_nx + (nI 8)) - (nI 1)) / (nI 8) * (nI 8)), .ref h1])), (h1, .inl (cM, 8, .inr (.inr (.inr (.inr h_st))))), (y0, .inr (3, [.int y_n, .ref y1, .ref y2, .ref y3, .ref y4, .ref y5])), (y1, .inl (cI, 10, .inl y_L)), (y2, .inl (cI, 10, .inl y_U)), (y3, .inl (cI, 12, .inl y_H)), (y4, .inl (cI, 10, .inl y_O)), (y5, .inl (cI, 10, .inl y_B)), (a0, .inr (3, [.int a_n, .ref a1, .ref a2, .ref a3, .ref a4, .ref a5])), (a1, .inl (cI, 10, .inl a_L)), (a2, .inl (cI, 10, .inl a_U)), (a3, .inl (cI, 12, .inl a_H)), (a4, .inl (cI, 10, .inl a_O)), (a5, .inl (cI, 10, .inl a_B))] := hD
    refine lv_aload_n hx hb dX2_restore_24 rfl (lv_at hl 0 rfl) ?_
    refine lv_dup hx hb dX2_restore_25 rfl ?_
    refine va_get (D := D) (ci := 2) (v := .int h_sz) (C := RX2) (T := TX2) (N := 3) hx hb hts hiX2 hown hK.1 hP 0 rfl rfl 0 (by decide) hfl_9 (fun _ h9 => h9) rfl dX2_restore_26 ?_
    refine lv_iconst (v := (nI 1)) hx hb dX2_restore_29 ic_1 ?_
    refine lv_isub hx hb dX2_restore_30 ?_
    refine va_put (D := D) (ci := 2) (v := .int (h_sz - (nI 1))) (ty := .int) (C := RX2) (T := TX2) (N := 3) hx hb hts hiX2 tyX2 tyX2_ok nmX2 hown hK.1 hP hD hS 0 rfl rfl 0 (by decide) hfl_9 (fun _ h9 => h9) rfl (tyX2_ok 0 (by decide)) rfl rfl (Nat.le_of_ble_eq_true rfl) dX2_restore_31 (fun H locs hP hD hS => ?_)
    have hP : va_P D vwCl [(h0, .inr (2, [.int (h_sz - (nI 1)), .int (((h_nx + (nI 8)) - (nI 1)) - ((h_nx + (nI 8)) - (nI 1)) / (nI 8) * (nI 8)), .ref h1])), (h1, .inl (cM, 8, .inr (.inr (.inr (.inr h_st))))), (y0, .inr (3, [.int y_n, .ref y1, .ref y2, .ref y3, .ref y4, .ref y5])), (y1, .inl (cI, 10, .inl y_L)), (y2, .inl (cI, 10, .inl y_U)), (y3, .inl (cI, 12, .inl y_H)), (y4, .inl (cI, 10, .inl y_O)), (y5, .inl (cI, 10, .inl y_B)), (a0, .inr (3, [.int a_n, .ref a1, .ref a2, .ref a3, .ref a4, .ref a5])), (a1, .inl (cI, 10, .inl a_L)), (a2, .inl (cI, 10, .inl a_U)), (a3, .inl (cI, 12, .inl a_H)), (a4, .inl (cI, 10, .inl a_O)), (a5, .inl (cI, 10, .inl a_B))] H := hP
    have hD : va_D A [(h0, .inr (2, [.int (h_sz - (nI 1)), .int (((h_nx + (nI 8)) - (nI 1)) - ((h_nx + (nI 8)) - (nI 1)) / (nI 8) * (nI 8)), .ref h1])), (h1, .inl (cM, 8, .inr (.inr (.inr (.inr h_st))))), (y0, .inr (3, [.int y_n, .ref y1, .ref y2, .ref y3, .ref y4, .ref y5])), (y1, .inl (cI, 10, .inl y_L)), (y2, .inl (cI, 10, .inl y_U)), (y3, .inl (cI, 12, .inl y_H)), (y4, .inl (cI, 10, .inl y_O)), (y5, .inl (cI, 10, .inl y_B)), (a0, .inr (3, [.int a_n, .ref a1, .ref a2, .ref a3, .ref a4, .ref a5])), (a1, .inl (cI, 10, .inl a_L)), (a2, .inl (cI, 10, .inl a_U)), (a3, .inl (cI, 12, .inl a_H)), (a4, .inl (cI, 10, .inl a_O)), (a5, .inl (cI, 10, .inl a_B))] := hD
    refine lv_aload_n hx hb dX2_restore_34 rfl (lv_at hl 1 rfl) ?_
    refine lv_aload_n hx hb dX2_restore_35 rfl (lv_at hl 0 rfl) ?_
    refine va_get (D := D) (ci := 2) (v := .ref h1) (C := RX2) (T := TX2) (N := 3) hx hb hts hiX2 hown hK.1 hP 0 rfl rfl 2 (by decide) hfl_20 (fun _ h9 => h9) rfl dX2_restore_36 ?_
    refine lv_aload_n hx hb dX2_restore_39 rfl (lv_at hl 0 rfl) ?_
    refine va_get (D := D) (ci := 2) (v := .int (((h_nx + (nI 8)) - (nI 1)) - ((h_nx + (nI 8)) - (nI 1)) / (nI 8) * (nI 8))) (C := RX2) (T := TX2) (N := 3) hx hb hts hiX2 hown hK.1 hP 0 rfl rfl 1 (by decide) hfl_15 (fun _ h9 => h9) rfl dX2_restore_40 ?_
    obtain ⟨hi, hf⟩ := gd_some hf
    refine aldq hx hb hK.1 hP 1 2 rfl rfl hi hg dX2_restore_43 ?_
    obtain ⟨q1, hq1, hf⟩ := bd hf
    refine muV0 (wr := [(h0, .inr (2, [.int (h_sz - (nI 1)), .int (((h_nx + (nI 8)) - (nI 1)) - ((h_nx + (nI 8)) - (nI 1)) / (nI 8) * (nI 8)), .ref h1])), (h1, .inl (cM, 8, .inr (.inr (.inr (.inr h_st)))))]) (va_runV (As := [.ref y0]) (rest := []) ⟨hx, hb, hml, hown, hts⟩ (c_X3_become l D cI cZ cM a0 a1 a2 a3 a4 a5 y0 y1 y2 y3 y4 y5 H.size a_n a_L a_U a_H a_O a_B y_n y_L y_U y_H y_O y_B fu q1.1 q1.2.1 q1.2.2.1 q1.2.2.2.1 q1.2.2.2.2.1 q1.2.2.2.2.2 hq1) (cwV 1 hts gX2_restore_X3_become rfl rfl rfl ⟨rfl, hdc_X3_become⟩ ⟨Nat.le_of_ble_eq_true rfl, Nat.le_of_ble_eq_true rfl⟩) (pmV hK hP hD [8, 9, 10, 11, 12, 13, 2, 3, 4, 5, 6, 7] (by decide) rfl rfl (ci := 3) (q0 := 8) rfl rfl) rfl rfl hl.1 rfl (lv_room (Nat.le_of_ble_eq_true rfl)) dX2_restore_44 ⟨Nat.zero_le _, Nat.zero_le _⟩) hP hD hS hA [8, 9, 10, 11, 12, 13, 2, 3, 4, 5, 6, 7] [0, 1] rfl rfl (by decide) (by decide) (fun H locs hP hD hS => ?_)
    have hP : va_P D vwCl [(h0, .inr (2, [.int (h_sz - (nI 1)), .int (((h_nx + (nI 8)) - (nI 1)) - ((h_nx + (nI 8)) - (nI 1)) / (nI 8) * (nI 8)), .ref h1])), (h1, .inl (cM, 8, .inr (.inr (.inr (.inr h_st))))), (a0, .inr (3, [.int q1.1, .ref a1, .ref a2, .ref a3, .ref a4, .ref a5])), (a1, .inl (cI, 10, .inl q1.2.1)), (a2, .inl (cI, 10, .inl q1.2.2.1)), (a3, .inl (cI, 12, .inl q1.2.2.2.1)), (a4, .inl (cI, 10, .inl q1.2.2.2.2.1)), (a5, .inl (cI, 10, .inl q1.2.2.2.2.2)), (y0, .inr (3, [.int y_n, .ref y1, .ref y2, .ref y3, .ref y4, .ref y5])), (y1, .inl (cI, 10, .inl y_L)), (y2, .inl (cI, 10, .inl y_U)), (y3, .inl (cI, 12, .inl y_H)), (y4, .inl (cI, 10, .inl y_O)), (y5, .inl (cI, 10, .inl y_B))] H := hP
    have hD : va_D A [(h0, .inr (2, [.int (h_sz - (nI 1)), .int (((h_nx + (nI 8)) - (nI 1)) - ((h_nx + (nI 8)) - (nI 1)) / (nI 8) * (nI 8)), .ref h1])), (h1, .inl (cM, 8, .inr (.inr (.inr (.inr h_st))))), (a0, .inr (3, [.int q1.1, .ref a1, .ref a2, .ref a3, .ref a4, .ref a5])), (a1, .inl (cI, 10, .inl q1.2.1)), (a2, .inl (cI, 10, .inl q1.2.2.1)), (a3, .inl (cI, 12, .inl q1.2.2.2.1)), (a4, .inl (cI, 10, .inl q1.2.2.2.2.1)), (a5, .inl (cI, 10, .inl q1.2.2.2.2.2)), (y0, .inr (3, [.int y_n, .ref y1, .ref y2, .ref y3, .ref y4, .ref y5])), (y1, .inl (cI, 10, .inl y_L)), (y2, .inl (cI, 10, .inl y_U)), (y3, .inl (cI, 12, .inl y_H)), (y4, .inl (cI, 10, .inl y_O)), (y5, .inl (cI, 10, .inl y_B))] := hD
    cases hf
    exact W.vret hx hb hr (fun t ht _ => ⟨⟨rfl, by rw [ht]; exact (hP.sub [0, 1, 8, 9, 10, 11, 12, 13, 2, 3, 4, 5, 6, 7] rfl), (hD.sub [0, 1, 8, 9, 10, 11, 12, 13, 2, 3, 4, 5, 6, 7] (by decide) rfl)⟩, hS.F ht⟩) hS.2.2 dX2_restore_47
  · have hf := ifp (Decidable.not_not.mp hc) hf
    cases hf
    exact W.vret hx hb hr (fun t ht _ => ⟨⟨rfl, by rw [ht]; exact hP, hD⟩, hS.F ht⟩) hS.2.2 dX2_restore_7
theorem hdc_X2_forget : yX2_forget.cls ≠ "java/lang/invoke/MethodHandle" ∧ yX2_forget.cls ≠ "java/lang/invoke/VarHandle" ∧ (parseMethodDescriptor yX2_forget.desc).map (fun d => d.parameters.length) = some 0 := by decide +kernel
set_option maxHeartbeats 4000000 in
set_option maxRecDepth 100000 in
theorem c_X2_forget (l : Launch) (D : va_G) (cI cZ cM : ClassId) (h0 h1 : Nat) (sz : Nat) (h_sz : Int32) (h_nx : Int32) (h_st : Nat → Option Nat) (h_sz' : Int32) (hf : m_X2_forget = some h_sz') : Met l yX2_forget wsX2_forget ({ frames := 0, cells := 0, slots := 0, locals := 0 }) (pM D cI cZ cM sz [(h0, .inr (2, [.int h_sz, .int h_nx, .ref h1])), (h1, .inl (cM, 8, .inr (.inr (.inr (.inr h_st)))))] [.ref h0]) (qV D [(h0, .inr (2, [.int h_sz', .int h_nx, .ref h1])), (h1, .inl (cM, 8, .inr (.inr (.inr (.inr h_st)))))] (va_A [(h0, .inr (2, [.int h_sz, .int h_nx, .ref h1])), (h1, .inl (cM, 8, .inr (.inr (.inr (.inr h_st)))))] sz)) 0 0 (va_A [(h0, .inr (2, [.int h_sz, .int h_nx, .ref h1])), (h1, .inl (cM, 8, .inr (.inr (.inr (.inr h_st)))))] sz) := by
  refine Met.ofW (cc := cX2_forget) (maxL := 1) (ret := none) (by decide) rfl ?_
  intro p e s m args below meth c s₁ B hml hv
  obtain ⟨rfl, hsz, hP, hK, hD0⟩ := hv
  have hx := B.exec
  have hb := B.bytes
  have hr := B.returns
  have hts := atoms_spec (ws := wsX2_forget) B.pre
  have hown : s.vm.findClass RX2 = some m.cls := findClass_of_methodNamed B.named
  have hlocks := B.notSynchronized
  subst hsz
  have hD := hD0.self (sz := s.heap.size)
  generalize hAe : va_A [(h0, .inr (2, [.int h_sz, .int h_nx, .ref h1])), (h1, .inl (cM, 8, .inr (.inr (.inr (.inr h_st)))))] s.heap.size = A at hD ⊢
  have hA : ∀ q : Nat, s.heap.size ≤ q → A q := fun q h => by rw [← hAe]; exact Or.inr h
  clear hAe hD0
  have hfl_9 := hts (.fieldLink RX2 9 "TermsFirst$History" "size" "I") (by decide +kernel)
  have hiX2 : ∀ w ∈ u_ws RX2 TX2 3, w ∈ wsX2_forget := by decide +kernel
  have hl := lv_entry ([.ref h0]) (n := 1) (Nat.le_of_ble_eq_true rfl)
  rw [lg_entry_eq]
  generalize (lg_sl ([.ref h0]) ++ List.replicate (1 - (lg_sl ([.ref h0])).length) Slot.unset).toArray = ls at hl ⊢
  have hl : lv_has ls 1 [(0, .ref h0)] := hl
  have hS : va_S A s.heap s.heap [] := va_S.rf
  unfold m_X2_forget at hf
  refine lv_aload_n hx hb dX2_forget_0 rfl (lv_at hl 0 rfl) ?_
  refine lv_iconst (v := (nI 0)) hx hb dX2_forget_1 ic_0 ?_
  refine va_put (D := D) (ci := 2) (v := .int (nI 0)) (ty := .int) (C := RX2) (T := TX2) (N := 3) hx hb hts hiX2 tyX2 tyX2_ok nmX2 hown hK.1 hP hD hS 0 rfl rfl 0 (by decide) hfl_9 (fun _ h9 => h9) rfl (tyX2_ok 0 (by decide)) rfl rfl (Nat.le_of_ble_eq_true rfl) dX2_forget_2 (fun H locs hP hD hS => ?_)
  have hP : va_P D vwCl [(h0, .inr (2, [.int (nI 0), .int h_nx, .ref h1])), (h1, .inl (cM, 8, .inr (.inr (.inr (.inr h_st)))))] H := hP
  have hD : va_D A [(h0, .inr (2, [.int (nI 0), .int h_nx, .ref h1])), (h1, .inl (cM, 8, .inr (.inr (.inr (.inr h_st)))))] := hD
  cases hf
  exact W.vret hx hb hr (fun t ht _ => ⟨⟨rfl, by rw [ht]; exact hP, hD⟩, hS.F ht⟩) hS.2.2 dX2_forget_5
theorem hdc_X3_hasSection : yX3_hasSection.cls ≠ "java/lang/invoke/MethodHandle" ∧ yX3_hasSection.cls ≠ "java/lang/invoke/VarHandle" ∧ (parseMethodDescriptor yX3_hasSection.desc).map (fun d => d.parameters.length) = some 1 := by decide +kernel
set_option maxHeartbeats 4000000 in
set_option maxRecDepth 100000 in
theorem c_X3_hasSection (l : Launch) (D : va_G) (cI cZ cM : ClassId) (a0 a1 a2 a3 a4 a5 : Nat) (a_n : Int32) (a_L : Nat → Int32) (a_U : Nat → Int32) (a_H : Nat → Int32) (a_O : Nat → Int32) (a_B : Nat → Int32) (x1 : Int32) (r : Int32) (hf : m_X3_hasSection a_n x1 = some r) : Met l yX3_hasSection wsX3_hasSection ({ frames := 0, cells := 0, slots := 0, locals := 0 }) (pR D cI cZ cM [(a0, .inr (3, [.int a_n, .ref a1, .ref a2, .ref a3, .ref a4, .ref a5])), (a1, .inl (cI, 10, .inl a_L)), (a2, .inl (cI, 10, .inl a_U)), (a3, .inl (cI, 12, .inl a_H)), (a4, .inl (cI, 10, .inl a_O)), (a5, .inl (cI, 10, .inl a_B))] [.ref a0, .int x1]) (qR r) 0 0 (fun _ => False) := by
  refine Met.ofW (cc := cX3_hasSection) (maxL := 2) (ret := (some .boolean)) (by decide) rfl ?_
  intro p e s m args below meth c s₁ B hml hv
  obtain ⟨rfl, hP, hK⟩ := hv
  have hx := B.exec
  have hb := B.bytes
  have hr := B.returns
  have hts := atoms_spec (ws := wsX3_hasSection) B.pre
  have hown : s.vm.findClass RX3 = some m.cls := findClass_of_methodNamed B.named
  have hlocks := B.notSynchronized
  have hfl_31 := hts (.fieldLink RX3 31 "TermsFirst$Manual" "n" "I") (by decide +kernel)
  have hiX3 : ∀ w ∈ u_ws RX3 TX3 6, w ∈ wsX3_hasSection := by decide +kernel
  have hl := lv_entry ([.ref a0, .int x1]) (n := 2) (Nat.le_of_ble_eq_true rfl)
  rw [lg_entry_eq]
  generalize (lg_sl ([.ref a0, .int x1]) ++ List.replicate (2 - (lg_sl ([.ref a0, .int x1])).length) Slot.unset).toArray = ls at hl ⊢
  have hl : lv_has ls 2 [(0, .ref a0), (1, .int x1)] := hl
  unfold m_X3_hasSection at hf
  refine lv_iload_n hx hb dX3_hasSection_0 rfl (lv_at hl 1 rfl) ?_
  refine lv_if_lt (tgt := 16) hx hb dX3_hasSection_1 (by decide) (fun hc => ?_) (fun hc => ?_)
  · have hf := ifp hc hf
    refine lv_iconst (v := (nI 0)) hx hb dX3_hasSection_16 ic_0 ?_
    cases hf
    exact W.zret hx hb hr zbl_0.1 (fun t ht _ => ⟨rfl, ht⟩) (fun _ h => nomatch h) dX3_hasSection_17
  · have hf := ifn hc hf
    refine lv_iload_n hx hb dX3_hasSection_4 rfl (lv_at hl 1 rfl) ?_
    refine lv_aload_n hx hb dX3_hasSection_5 rfl (lv_at hl 0 rfl) ?_
    refine va_get (D := D) (ci := 3) (v := .int a_n) (C := RX3) (T := TX3) (N := 6) hx hb hts hiX3 hown hK.1 hP 0 rfl rfl 0 (by decide) hfl_31 (fun _ h9 => h9) rfl dX3_hasSection_6 ?_
    refine lv_icmp_ge (tgt := 16) hx hb dX3_hasSection_9 (by decide) (fun hc => ?_) (fun hc => ?_)
    · have hf := ifp hc hf
      refine lv_iconst (v := (nI 0)) hx hb dX3_hasSection_16 ic_0 ?_
      cases hf
      exact W.zret hx hb hr zbl_0.1 (fun t ht _ => ⟨rfl, ht⟩) (fun _ h => nomatch h) dX3_hasSection_17
    · have hf := ifn hc hf
      refine lv_iconst (v := (nI 1)) hx hb dX3_hasSection_12 ic_1 ?_
      refine lv_goto (tgt := 17) hx hb dX3_hasSection_13 (by decide) ?_
      cases hf
      exact W.zret hx hb hr zbl_1.1 (fun t ht _ => ⟨rfl, ht⟩) (fun _ h => nomatch h) dX3_hasSection_17
theorem hdc_X3_hasPlace : yX3_hasPlace.cls ≠ "java/lang/invoke/MethodHandle" ∧ yX3_hasPlace.cls ≠ "java/lang/invoke/VarHandle" ∧ (parseMethodDescriptor yX3_hasPlace.desc).map (fun d => d.parameters.length) = some 1 := by decide +kernel
set_option maxHeartbeats 4000000 in
set_option maxRecDepth 100000 in
theorem c_X3_hasPlace (l : Launch) (D : va_G) (cI cZ cM : ClassId) (a0 a1 a2 a3 a4 a5 : Nat) (a_n : Int32) (a_L : Nat → Int32) (a_U : Nat → Int32) (a_H : Nat → Int32) (a_O : Nat → Int32) (a_B : Nat → Int32) (x1 : Int32) (r : Int32) (hf : m_X3_hasPlace a_n x1 = some r) : Met l yX3_hasPlace wsX3_hasPlace ({ frames := 0, cells := 0, slots := 0, locals := 0 }) (pR D cI cZ cM [(a0, .inr (3, [.int a_n, .ref a1, .ref a2, .ref a3, .ref a4, .ref a5])), (a1, .inl (cI, 10, .inl a_L)), (a2, .inl (cI, 10, .inl a_U)), (a3, .inl (cI, 12, .inl a_H)), (a4, .inl (cI, 10, .inl a_O)), (a5, .inl (cI, 10, .inl a_B))] [.ref a0, .int x1]) (qR r) 0 0 (fun _ => False) := by
  refine Met.ofW (cc := cX3_hasPlace) (maxL := 2) (ret := (some .boolean)) (by decide) rfl ?_
  intro p e s m args below meth c s₁ B hml hv
  obtain ⟨rfl, hP, hK⟩ := hv
  have hx := B.exec
  have hb := B.bytes
  have hr := B.returns
  have hts := atoms_spec (ws := wsX3_hasPlace) B.pre
  have hown : s.vm.findClass RX3 = some m.cls := findClass_of_methodNamed B.named
  have hlocks := B.notSynchronized
  have hfl_31 := hts (.fieldLink RX3 31 "TermsFirst$Manual" "n" "I") (by decide +kernel)
  have hiX3 : ∀ w ∈ u_ws RX3 TX3 6, w ∈ wsX3_hasPlace := by decide +kernel
  have hl := lv_entry ([.ref a0, .int x1]) (n := 2) (Nat.le_of_ble_eq_true rfl)
  rw [lg_entry_eq]
  generalize (lg_sl ([.ref a0, .int x1]) ++ List.replicate (2 - (lg_sl ([.ref a0, .int x1])).length) Slot.unset).toArray = ls at hl ⊢
  have hl : lv_has ls 2 [(0, .ref a0), (1, .int x1)] := hl
  unfold m_X3_hasPlace at hf
  refine lv_iload_n hx hb dX3_hasPlace_0 rfl (lv_at hl 1 rfl) ?_
  refine lv_if_lt (tgt := 16) hx hb dX3_hasPlace_1 (by decide) (fun hc => ?_) (fun hc => ?_)
  · have hf := ifp hc hf
    refine lv_iconst (v := (nI 0)) hx hb dX3_hasPlace_16 ic_0 ?_
    cases hf
    exact W.zret hx hb hr zbl_0.1 (fun t ht _ => ⟨rfl, ht⟩) (fun _ h => nomatch h) dX3_hasPlace_17
  · have hf := ifn hc hf
    refine lv_iload_n hx hb dX3_hasPlace_4 rfl (lv_at hl 1 rfl) ?_
    refine lv_aload_n hx hb dX3_hasPlace_5 rfl (lv_at hl 0 rfl) ?_
    refine va_get (D := D) (ci := 3) (v := .int a_n) (C := RX3) (T := TX3) (N := 6) hx hb hts hiX3 hown hK.1 hP 0 rfl rfl 0 (by decide) hfl_31 (fun _ h9 => h9) rfl dX3_hasPlace_6 ?_
    refine lv_icmp_ge (tgt := 16) hx hb dX3_hasPlace_9 (by decide) (fun hc => ?_) (fun hc => ?_)
    · have hf := ifp hc hf
      refine lv_iconst (v := (nI 0)) hx hb dX3_hasPlace_16 ic_0 ?_
      cases hf
      exact W.zret hx hb hr zbl_0.1 (fun t ht _ => ⟨rfl, ht⟩) (fun _ h => nomatch h) dX3_hasPlace_17
    · have hf := ifn hc hf
      refine lv_iconst (v := (nI 1)) hx hb dX3_hasPlace_12 ic_1 ?_
      refine lv_goto (tgt := 17) hx hb dX3_hasPlace_13 (by decide) ?_
      cases hf
      exact W.zret hx hb hr zbl_1.1 (fun t ht _ => ⟨rfl, ht⟩) (fun _ h => nomatch h) dX3_hasPlace_17
theorem hdc_X3_orderAfterMove : yX3_orderAfterMove.cls ≠ "java/lang/invoke/MethodHandle" ∧ yX3_orderAfterMove.cls ≠ "java/lang/invoke/VarHandle" ∧ (parseMethodDescriptor yX3_orderAfterMove.desc).map (fun d => d.parameters.length) = some 3 := by decide +kernel
set_option maxHeartbeats 4000000 in
set_option maxRecDepth 100000 in
theorem c_X3_orderAfterMove (l : Launch) (D : va_G) (cI cZ cM : ClassId) (a0 a1 a2 a3 a4 a5 w0 : Nat) (sz : Nat) (a_n : Int32) (a_L : Nat → Int32) (a_U : Nat → Int32) (a_H : Nat → Int32) (a_O : Nat → Int32) (a_B : Nat → Int32) (w_a : Nat → Int32) (x1 : Int32) (x2 : Int32) (fu : Nat) (w_a' : Nat → Int32) (hf : m_X3_orderAfterMove fu a_n a_O w_a x1 x2 = some w_a') : Met l yX3_orderAfterMove wsX3_orderAfterMove ({ frames := 1, cells := 0, slots := 0, locals := 23 }) (pM D cI cZ cM sz [(a0, .inr (3, [.int a_n, .ref a1, .ref a2, .ref a3, .ref a4, .ref a5])), (a1, .inl (cI, 10, .inl a_L)), (a2, .inl (cI, 10, .inl a_U)), (a3, .inl (cI, 12, .inl a_H)), (a4, .inl (cI, 10, .inl a_O)), (a5, .inl (cI, 10, .inl a_B)), (w0, .inl (cI, 10, .inl w_a))] [.ref a0, .int x1, .int x2, .ref w0]) (qV D [(a0, .inr (3, [.int a_n, .ref a1, .ref a2, .ref a3, .ref a4, .ref a5])), (a1, .inl (cI, 10, .inl a_L)), (a2, .inl (cI, 10, .inl a_U)), (a3, .inl (cI, 12, .inl a_H)), (a4, .inl (cI, 10, .inl a_O)), (a5, .inl (cI, 10, .inl a_B)), (w0, .inl (cI, 10, .inl w_a'))] (va_A [(a0, .inr (3, [.int a_n, .ref a1, .ref a2, .ref a3, .ref a4, .ref a5])), (a1, .inl (cI, 10, .inl a_L)), (a2, .inl (cI, 10, .inl a_U)), (a3, .inl (cI, 12, .inl a_H)), (a4, .inl (cI, 10, .inl a_O)), (a5, .inl (cI, 10, .inl a_B)), (w0, .inl (cI, 10, .inl w_a))] sz)) 0 0 (va_A [(a0, .inr (3, [.int a_n, .ref a1, .ref a2, .ref a3, .ref a4, .ref a5])), (a1, .inl (cI, 10, .inl a_L)), (a2, .inl (cI, 10, .inl a_U)), (a3, .inl (cI, 12, .inl a_H)), (a4, .inl (cI, 10, .inl a_O)), (a5, .inl (cI, 10, .inl a_B)), (w0, .inl (cI, 10, .inl w_a))] sz) := by
  refine Met.ofW (cc := cX3_orderAfterMove) (maxL := 6) (ret := none) (by decide) rfl ?_
  intro p e s m args below meth c s₁ B hml hv
  obtain ⟨rfl, hsz, hP, hK, hD0⟩ := hv
  have hx := B.exec
  have hb := B.bytes
  have hr := B.returns
  have hts := atoms_spec (ws := wsX3_orderAfterMove) B.pre
  have hown : s.vm.findClass RX3 = some m.cls := findClass_of_methodNamed B.named
  have hlocks := B.notSynchronized
  subst hsz
  have hD := hD0.self (sz := s.heap.size)
  generalize hAe : va_A [(a0, .inr (3, [.int a_n, .ref a1, .ref a2, .ref a3, .ref a4, .ref a5])), (a1, .inl (cI, 10, .inl a_L)), (a2, .inl (cI, 10, .inl a_U)), (a3, .inl (cI, 12, .inl a_H)), (a4, .inl (cI, 10, .inl a_O)), (a5, .inl (cI, 10, .inl a_B)), (w0, .inl (cI, 10, .inl w_a))] s.heap.size = A at hD ⊢
  have hA : ∀ q : Nat, s.heap.size ≤ q → A q := fun q h => by rw [← hAe]; exact Or.inr h
  clear hAe hD0
  have hfl_21 := hts (.fieldLink RX3 21 "TermsFirst$Manual" "order" "[I") (by decide +kernel)
  have hfl_31 := hts (.fieldLink RX3 31 "TermsFirst$Manual" "n" "I") (by decide +kernel)
  have hiX3 : ∀ w ∈ u_ws RX3 TX3 6, w ∈ wsX3_orderAfterMove := by decide +kernel
  have hB_69 : ∀ (fn : Nat) (x5 : Int32) (w_a : Nat → Int32), m_X3_orderAfterMove_69 a_O x1 x2 fn w_a x5 = some w_a' → ∀ (H : Heap) (locs : List Loc), va_P D vwCl [(a0, .inr (3, [.int a_n, .ref a1, .ref a2, .ref a3, .ref a4, .ref a5])), (a1, .inl (cI, 10, .inl a_L)), (a2, .inl (cI, 10, .inl a_U)), (a3, .inl (cI, 12, .inl a_H)), (a4, .inl (cI, 10, .inl a_O)), (a5, .inl (cI, 10, .inl a_B)), (w0, .inl (cI, 10, .inl w_a))] H → va_D A [(a0, .inr (3, [.int a_n, .ref a1, .ref a2, .ref a3, .ref a4, .ref a5])), (a1, .inl (cI, 10, .inl a_L)), (a2, .inl (cI, 10, .inl a_U)), (a3, .inl (cI, 12, .inl a_H)), (a4, .inl (cI, 10, .inl a_O)), (a5, .inl (cI, 10, .inl a_B)), (w0, .inl (cI, 10, .inl w_a))] → va_S A s.heap H locs → ∀ ls : Array Slot, lv_has ls 6 [(0, .ref a0), (1, .int x1), (2, .int x2), (3, .ref w0), (5, .int x5)] → W p l e (headSpec wsX3_orderAfterMove { frames := 1, cells := 0, slots := 0, locals := 23 }).room s m ([.ref a0, .int x1, .int x2, .ref w0] : List Value).toArray below meth c H locs 0 0 (MQ below (qV D [(a0, .inr (3, [.int a_n, .ref a1, .ref a2, .ref a3, .ref a4, .ref a5])), (a1, .inl (cI, 10, .inl a_L)), (a2, .inl (cI, 10, .inl a_U)), (a3, .inl (cI, 12, .inl a_H)), (a4, .inl (cI, 10, .inl a_O)), (a5, .inl (cI, 10, .inl a_B)), (w0, .inl (cI, 10, .inl w_a'))] A) ([.ref a0, .int x1, .int x2, .ref w0] : List Value).toArray s 0 0 A) (F0 m 69 ls []) := by
    intro fn
    induction fn with
    | zero => intro x5 w_a hf; rw [m_X3_orderAfterMove_69] at hf; cases hf
    | succ fn ih =>
      intro x5 w_a hf H locs hP hD hS ls hl
      rw [m_X3_orderAfterMove_69] at hf
      refine lv_iload hx hb dX3_orderAfterMove_69 (lv_at hl 4 rfl) ?_
      refine lv_iload_n hx hb dX3_orderAfterMove_71 rfl (lv_at hl 2 rfl) ?_
      refine lv_icmp_le (tgt := 94) hx hb dX3_orderAfterMove_72 (by decide) (fun hc => ?_) (fun hc => ?_)
      · have hf := ifp hc hf
        refine lv_aload_n hx hb dX3_orderAfterMove_94 rfl (lv_at hl 3 rfl) ?_
        refine lv_iload_n hx hb dX3_orderAfterMove_95 rfl (lv_at hl 2 rfl) ?_
        refine lv_iload_n hx hb dX3_orderAfterMove_96 rfl (lv_at hl 1 rfl) ?_
        obtain ⟨hi, hf⟩ := gd_some hf
        refine va_iast hx hb hK.1 hP hD hS 6 0 rfl rfl hi dX3_orderAfterMove_97 (fun H locs hP hD hS => ?_)
        have hP : va_P D vwCl [(a0, .inr (3, [.int a_n, .ref a1, .ref a2, .ref a3, .ref a4, .ref a5])), (a1, .inl (cI, 10, .inl a_L)), (a2, .inl (cI, 10, .inl a_U)), (a3, .inl (cI, 12, .inl a_H)), (a4, .inl (cI, 10, .inl a_O)), (a5, .inl (cI, 10, .inl a_B)), (w0, .inl (cI, 10, .inl (upd w_a x2.toNatClampNeg x1)))] H := hP
        have hD : va_D A [(a0, .inr (3, [.int a_n, .ref a1, .ref a2, .ref a3, .ref a4, .ref a5])), (a1, .inl (cI, 10, .inl a_L)), (a2, .inl (cI, 10, .inl a_U)), (a3, .inl (cI, 12, .inl a_H)), (a4, .inl (cI, 10, .inl a_O)), (a5, .inl (cI, 10, .inl a_B)), (w0, .inl (cI, 10, .inl (upd w_a x2.toNatClampNeg x1)))] := hD
        cases hf
        exact W.vret hx hb hr (fun t ht _ => ⟨⟨rfl, by rw [ht]; exact hP, hD⟩, hS.F ht⟩) hS.2.2 dX3_orderAfterMove_98
      · have hf := ifn hc hf
        refine lv_aload_n hx hb dX3_orderAfterMove_75 rfl (lv_at hl 3 rfl) ?_
        refine lv_iload hx hb dX3_orderAfterMove_76 (lv_at hl 4 rfl) ?_
        refine lv_aload_n hx hb dX3_orderAfterMove_78 rfl (lv_at hl 0 rfl) ?_
        refine va_get (D := D) (ci := 3) (v := .ref a4) (C := RX3) (T := TX3) (N := 6) hx hb hts hiX3 hown hK.1 hP 0 rfl rfl 4 (by decide) hfl_21 (fun _ h9 => h9) rfl dX3_orderAfterMove_79 ?_
        refine lv_iload hx hb dX3_orderAfterMove_82 (lv_at hl 4 rfl) ?_
        refine lv_iconst (v := (nI 1)) hx hb dX3_orderAfterMove_84 ic_1 ?_
        refine lv_isub hx hb dX3_orderAfterMove_85 ?_
        obtain ⟨hi, hf⟩ := gd_some hf
        refine va_iald hx hb hK.1 hP 4 0 rfl rfl hi dX3_orderAfterMove_86 ?_
        obtain ⟨hi, hf⟩ := gd_some hf
        refine va_iast hx hb hK.1 hP hD hS 6 0 rfl rfl hi dX3_orderAfterMove_87 (fun H locs hP hD hS => ?_)
        have hP : va_P D vwCl [(a0, .inr (3, [.int a_n, .ref a1, .ref a2, .ref a3, .ref a4, .ref a5])), (a1, .inl (cI, 10, .inl a_L)), (a2, .inl (cI, 10, .inl a_U)), (a3, .inl (cI, 12, .inl a_H)), (a4, .inl (cI, 10, .inl a_O)), (a5, .inl (cI, 10, .inl a_B)), (w0, .inl (cI, 10, .inl (upd w_a x5.toNatClampNeg (a_O (x5 - (nI 1)).toNatClampNeg))))] H := hP
        have hD : va_D A [(a0, .inr (3, [.int a_n, .ref a1, .ref a2, .ref a3, .ref a4, .ref a5])), (a1, .inl (cI, 10, .inl a_L)), (a2, .inl (cI, 10, .inl a_U)), (a3, .inl (cI, 12, .inl a_H)), (a4, .inl (cI, 10, .inl a_O)), (a5, .inl (cI, 10, .inl a_B)), (w0, .inl (cI, 10, .inl (upd w_a x5.toNatClampNeg (a_O (x5 - (nI 1)).toNatClampNeg))))] := hD
        refine lv_iinc (v := (x5 + (-1 : Int32))) (lv' := [(5, .int (x5 + (-1 : Int32))), (0, .ref a0), (1, .int x1), (2, .int x2), (3, .ref w0)]) hx hb dX3_orderAfterMove_88 hl (k := 4) rfl (ii_m1 _) (by decide) rfl (fun ls hl => ?_)
        refine lv_goto (tgt := 69) hx hb dX3_orderAfterMove_91 (by decide) ?_
        exact ih (x5 + (-1 : Int32)) (upd w_a x5.toNatClampNeg (a_O (x5 - (nI 1)).toNatClampNeg)) hf _ _ hP hD hS ls (lv_sub hl [1, 2, 3, 4, 0] rfl)
  have hB_40 : ∀ (x4 : Int32) (fn : Nat) (x5 : Int32) (w_a : Nat → Int32), m_X3_orderAfterMove_40 fu a_O x1 x2 x4 fn w_a x5 = some w_a' → ∀ (H : Heap) (locs : List Loc), va_P D vwCl [(a0, .inr (3, [.int a_n, .ref a1, .ref a2, .ref a3, .ref a4, .ref a5])), (a1, .inl (cI, 10, .inl a_L)), (a2, .inl (cI, 10, .inl a_U)), (a3, .inl (cI, 12, .inl a_H)), (a4, .inl (cI, 10, .inl a_O)), (a5, .inl (cI, 10, .inl a_B)), (w0, .inl (cI, 10, .inl w_a))] H → va_D A [(a0, .inr (3, [.int a_n, .ref a1, .ref a2, .ref a3, .ref a4, .ref a5])), (a1, .inl (cI, 10, .inl a_L)), (a2, .inl (cI, 10, .inl a_U)), (a3, .inl (cI, 12, .inl a_H)), (a4, .inl (cI, 10, .inl a_O)), (a5, .inl (cI, 10, .inl a_B)), (w0, .inl (cI, 10, .inl w_a))] → va_S A s.heap H locs → ∀ ls : Array Slot, lv_has ls 6 [(0, .ref a0), (1, .int x1), (2, .int x2), (3, .ref w0), (4, .int x4), (5, .int x5)] → W p l e (headSpec wsX3_orderAfterMove { frames := 1, cells := 0, slots := 0, locals := 23 }).room s m ([.ref a0, .int x1, .int x2, .ref w0] : List Value).toArray below meth c H locs 0 0 (MQ below (qV D [(a0, .inr (3, [.int a_n, .ref a1, .ref a2, .ref a3, .ref a4, .ref a5])), (a1, .inl (cI, 10, .inl a_L)), (a2, .inl (cI, 10, .inl a_U)), (a3, .inl (cI, 12, .inl a_H)), (a4, .inl (cI, 10, .inl a_O)), (a5, .inl (cI, 10, .inl a_B)), (w0, .inl (cI, 10, .inl w_a'))] A) ([.ref a0, .int x1, .int x2, .ref w0] : List Value).toArray s 0 0 A) (F0 m 40 ls []) := by
    intro x4 fn
    induction fn with
    | zero => intro x5 w_a hf; rw [m_X3_orderAfterMove_40] at hf; cases hf
    | succ fn ih =>
      intro x5 w_a hf H locs hP hD hS ls hl
      rw [m_X3_orderAfterMove_40] at hf
      refine lv_iload hx hb dX3_orderAfterMove_40 (lv_at hl 5 rfl) ?_
      refine lv_iload_n hx hb dX3_orderAfterMove_42 rfl (lv_at hl 2 rfl) ?_
      refine lv_icmp_ge (tgt := 65) hx hb dX3_orderAfterMove_43 (by decide) (fun hc => ?_) (fun hc => ?_)
      · have hf := ifp hc hf
        refine lv_iload hx hb dX3_orderAfterMove_65 (lv_at hl 4 rfl) ?_
        refine lv_istore (lv' := [(5, .int x4), (0, .ref a0), (1, .int x1), (2, .int x2), (3, .ref w0), (4, .int x4)]) hx hb dX3_orderAfterMove_67 hl (by decide) rfl (fun ls hl => ?_)
        exact hB_69 fu x4 w_a hf _ _ hP hD hS ls (lv_sub hl [1, 2, 3, 4, 0] rfl)
      · have hf := ifn hc hf
        refine lv_aload_n hx hb dX3_orderAfterMove_46 rfl (lv_at hl 3 rfl) ?_
        refine lv_iload hx hb dX3_orderAfterMove_47 (lv_at hl 5 rfl) ?_
        refine lv_aload_n hx hb dX3_orderAfterMove_49 rfl (lv_at hl 0 rfl) ?_
        refine va_get (D := D) (ci := 3) (v := .ref a4) (C := RX3) (T := TX3) (N := 6) hx hb hts hiX3 hown hK.1 hP 0 rfl rfl 4 (by decide) hfl_21 (fun _ h9 => h9) rfl dX3_orderAfterMove_50 ?_
        refine lv_iload hx hb dX3_orderAfterMove_53 (lv_at hl 5 rfl) ?_
        refine lv_iconst (v := (nI 1)) hx hb dX3_orderAfterMove_55 ic_1 ?_
        refine lv_iadd hx hb dX3_orderAfterMove_56 ?_
        obtain ⟨hi, hf⟩ := gd_some hf
        refine va_iald hx hb hK.1 hP 4 0 rfl rfl hi dX3_orderAfterMove_57 ?_
        obtain ⟨hi, hf⟩ := gd_some hf
        refine va_iast hx hb hK.1 hP hD hS 6 0 rfl rfl hi dX3_orderAfterMove_58 (fun H locs hP hD hS => ?_)
        have hP : va_P D vwCl [(a0, .inr (3, [.int a_n, .ref a1, .ref a2, .ref a3, .ref a4, .ref a5])), (a1, .inl (cI, 10, .inl a_L)), (a2, .inl (cI, 10, .inl a_U)), (a3, .inl (cI, 12, .inl a_H)), (a4, .inl (cI, 10, .inl a_O)), (a5, .inl (cI, 10, .inl a_B)), (w0, .inl (cI, 10, .inl (upd w_a x5.toNatClampNeg (a_O (x5 + (nI 1)).toNatClampNeg))))] H := hP
        have hD : va_D A [(a0, .inr (3, [.int a_n, .ref a1, .ref a2, .ref a3, .ref a4, .ref a5])), (a1, .inl (cI, 10, .inl a_L)), (a2, .inl (cI, 10, .inl a_U)), (a3, .inl (cI, 12, .inl a_H)), (a4, .inl (cI, 10, .inl a_O)), (a5, .inl (cI, 10, .inl a_B)), (w0, .inl (cI, 10, .inl (upd w_a x5.toNatClampNeg (a_O (x5 + (nI 1)).toNatClampNeg))))] := hD
        refine lv_iinc (v := (x5 + (nI 1))) (lv' := [(5, .int (x5 + (nI 1))), (0, .ref a0), (1, .int x1), (2, .int x2), (3, .ref w0), (4, .int x4)]) hx hb dX3_orderAfterMove_59 hl (k := 5) rfl (ii_1 _) (by decide) rfl (fun ls hl => ?_)
        refine lv_goto (tgt := 40) hx hb dX3_orderAfterMove_62 (by decide) ?_
        exact ih (x5 + (nI 1)) (upd w_a x5.toNatClampNeg (a_O (x5 + (nI 1)).toNatClampNeg)) hf _ _ hP hD hS ls (lv_sub hl [1, 2, 3, 4, 5, 0] rfl)
  have hB_10 : ∀ (x4 : Int32) (fn : Nat) (x5 : Int32) (w_a : Nat → Int32), m_X3_orderAfterMove_10 fu a_n a_O x1 x2 x4 fn w_a x5 = some w_a' → ∀ (H : Heap) (locs : List Loc), va_P D vwCl [(a0, .inr (3, [.int a_n, .ref a1, .ref a2, .ref a3, .ref a4, .ref a5])), (a1, .inl (cI, 10, .inl a_L)), (a2, .inl (cI, 10, .inl a_U)), (a3, .inl (cI, 12, .inl a_H)), (a4, .inl (cI, 10, .inl a_O)), (a5, .inl (cI, 10, .inl a_B)), (w0, .inl (cI, 10, .inl w_a))] H → va_D A [(a0, .inr (3, [.int a_n, .ref a1, .ref a2, .ref a3, .ref a4, .ref a5])), (a1, .inl (cI, 10, .inl a_L)), (a2, .inl (cI, 10, .inl a_U)), (a3, .inl (cI, 12, .inl a_H)), (a4, .inl (cI, 10, .inl a_O)), (a5, .inl (cI, 10, .inl a_B)), (w0, .inl (cI, 10, .inl w_a))] → va_S A s.heap H locs → ∀ ls : Array Slot, lv_has ls 6 [(0, .ref a0), (1, .int x1), (2, .int x2), (3, .ref w0), (4, .int x4), (5, .int x5)] → W p l e (headSpec wsX3_orderAfterMove { frames := 1, cells := 0, slots := 0, locals := 23 }).room s m ([.ref a0, .int x1, .int x2, .ref w0] : List Value).toArray below meth c H locs 0 0 (MQ below (qV D [(a0, .inr (3, [.int a_n, .ref a1, .ref a2, .ref a3, .ref a4, .ref a5])), (a1, .inl (cI, 10, .inl a_L)), (a2, .inl (cI, 10, .inl a_U)), (a3, .inl (cI, 12, .inl a_H)), (a4, .inl (cI, 10, .inl a_O)), (a5, .inl (cI, 10, .inl a_B)), (w0, .inl (cI, 10, .inl w_a'))] A) ([.ref a0, .int x1, .int x2, .ref w0] : List Value).toArray s 0 0 A) (F0 m 10 ls []) := by
    intro x4 fn
    induction fn with
    | zero => intro x5 w_a hf; rw [m_X3_orderAfterMove_10] at hf; cases hf
    | succ fn ih =>
      intro x5 w_a hf H locs hP hD hS ls hl
      rw [m_X3_orderAfterMove_10] at hf
      refine lv_iload hx hb dX3_orderAfterMove_10 (lv_at hl 5 rfl) ?_
      refine lv_aload_n hx hb dX3_orderAfterMove_12 rfl (lv_at hl 0 rfl) ?_
      refine va_get (D := D) (ci := 3) (v := .int a_n) (C := RX3) (T := TX3) (N := 6) hx hb hts hiX3 hown hK.1 hP 0 rfl rfl 0 (by decide) hfl_31 (fun _ h9 => h9) rfl dX3_orderAfterMove_13 ?_
      refine lv_icmp_ge (tgt := 36) hx hb dX3_orderAfterMove_16 (by decide) (fun hc => ?_) (fun hc => ?_)
      · have hf := ifp hc hf
        refine lv_iload hx hb dX3_orderAfterMove_36 (lv_at hl 4 rfl) ?_
        refine lv_istore (lv' := [(5, .int x4), (0, .ref a0), (1, .int x1), (2, .int x2), (3, .ref w0), (4, .int x4)]) hx hb dX3_orderAfterMove_38 hl (by decide) rfl (fun ls hl => ?_)
        exact hB_40 x4 fu x4 w_a hf _ _ hP hD hS ls (lv_sub hl [1, 2, 3, 4, 5, 0] rfl)
      · have hf := ifn hc hf
        refine lv_aload_n hx hb dX3_orderAfterMove_19 rfl (lv_at hl 3 rfl) ?_
        refine lv_iload hx hb dX3_orderAfterMove_20 (lv_at hl 5 rfl) ?_
        refine lv_aload_n hx hb dX3_orderAfterMove_22 rfl (lv_at hl 0 rfl) ?_
        refine va_get (D := D) (ci := 3) (v := .ref a4) (C := RX3) (T := TX3) (N := 6) hx hb hts hiX3 hown hK.1 hP 0 rfl rfl 4 (by decide) hfl_21 (fun _ h9 => h9) rfl dX3_orderAfterMove_23 ?_
        refine lv_iload hx hb dX3_orderAfterMove_26 (lv_at hl 5 rfl) ?_
        obtain ⟨hi, hf⟩ := gd_some hf
        refine va_iald hx hb hK.1 hP 4 0 rfl rfl hi dX3_orderAfterMove_28 ?_
        obtain ⟨hi, hf⟩ := gd_some hf
        refine va_iast hx hb hK.1 hP hD hS 6 0 rfl rfl hi dX3_orderAfterMove_29 (fun H locs hP hD hS => ?_)
        have hP : va_P D vwCl [(a0, .inr (3, [.int a_n, .ref a1, .ref a2, .ref a3, .ref a4, .ref a5])), (a1, .inl (cI, 10, .inl a_L)), (a2, .inl (cI, 10, .inl a_U)), (a3, .inl (cI, 12, .inl a_H)), (a4, .inl (cI, 10, .inl a_O)), (a5, .inl (cI, 10, .inl a_B)), (w0, .inl (cI, 10, .inl (upd w_a x5.toNatClampNeg (a_O x5.toNatClampNeg))))] H := hP
        have hD : va_D A [(a0, .inr (3, [.int a_n, .ref a1, .ref a2, .ref a3, .ref a4, .ref a5])), (a1, .inl (cI, 10, .inl a_L)), (a2, .inl (cI, 10, .inl a_U)), (a3, .inl (cI, 12, .inl a_H)), (a4, .inl (cI, 10, .inl a_O)), (a5, .inl (cI, 10, .inl a_B)), (w0, .inl (cI, 10, .inl (upd w_a x5.toNatClampNeg (a_O x5.toNatClampNeg))))] := hD
        refine lv_iinc (v := (x5 + (nI 1))) (lv' := [(5, .int (x5 + (nI 1))), (0, .ref a0), (1, .int x1), (2, .int x2), (3, .ref w0), (4, .int x4)]) hx hb dX3_orderAfterMove_30 hl (k := 5) rfl (ii_1 _) (by decide) rfl (fun ls hl => ?_)
        refine lv_goto (tgt := 10) hx hb dX3_orderAfterMove_33 (by decide) ?_
        exact ih (x5 + (nI 1)) (upd w_a x5.toNatClampNeg (a_O x5.toNatClampNeg)) hf _ _ hP hD hS ls (lv_sub hl [1, 2, 3, 4, 5, 0] rfl)
  have hl := lv_entry ([.ref a0, .int x1, .int x2, .ref w0]) (n := 6) (Nat.le_of_ble_eq_true rfl)
  rw [lg_entry_eq]
  generalize (lg_sl ([.ref a0, .int x1, .int x2, .ref w0]) ++ List.replicate (6 - (lg_sl ([.ref a0, .int x1, .int x2, .ref w0])).length) Slot.unset).toArray = ls at hl ⊢
  have hl : lv_has ls 6 [(0, .ref a0), (1, .int x1), (2, .int x2), (3, .ref w0)] := hl
  have hS : va_S A s.heap s.heap [] := va_S.rf
  unfold m_X3_orderAfterMove at hf
  refine lv_aload_n hx hb dX3_orderAfterMove_0 rfl (lv_at hl 0 rfl) ?_
  refine lv_iload_n hx hb dX3_orderAfterMove_1 rfl (lv_at hl 1 rfl) ?_
  obtain ⟨q1, hq1, hf⟩ := bd hf
  refine roI (va_runV (As := [.int x1]) (rest := []) ⟨hx, hb, hml, hown, hts⟩ (c_X3_placeOf l D cI cZ cM a0 a1 a2 a3 a4 a5 a_n a_L a_U a_H a_O a_B x1 fu q1 hq1) (cwV 1 hts gX3_orderAfterMove_X3_placeOf rfl rfl rfl ⟨rfl, hdc_X3_placeOf⟩ ⟨Nat.le_of_ble_eq_true rfl, Nat.le_of_ble_eq_true rfl⟩) (prV hK hP [0, 1, 2, 3, 4, 5] rfl (ci := 3) (q0 := 0) rfl rfl) rfl rfl hl.1 rfl (lv_room (Nat.le_of_ble_eq_true rfl)) dX3_orderAfterMove_2 ⟨Nat.zero_le _, Nat.zero_le _⟩) ?_
  refine lv_istore (lv' := [(4, .int q1), (0, .ref a0), (1, .int x1), (2, .int x2), (3, .ref w0)]) hx hb dX3_orderAfterMove_5 hl (by decide) rfl (fun ls hl => ?_)
  refine lv_iconst (v := (nI 0)) hx hb dX3_orderAfterMove_7 ic_0 ?_
  refine lv_istore (lv' := [(5, .int (nI 0)), (4, .int q1), (0, .ref a0), (1, .int x1), (2, .int x2), (3, .ref w0)]) hx hb dX3_orderAfterMove_8 hl (by decide) rfl (fun ls hl => ?_)
  exact hB_10 q1 fu (nI 0) w_a hf _ _ hP hD hS ls (lv_sub hl [2, 3, 4, 5, 1, 0] rfl)
theorem hdc_X3_countPrecedences : yX3_countPrecedences.cls ≠ "java/lang/invoke/MethodHandle" ∧ yX3_countPrecedences.cls ≠ "java/lang/invoke/VarHandle" ∧ (parseMethodDescriptor yX3_countPrecedences.desc).map (fun d => d.parameters.length) = some 0 := by decide +kernel
set_option maxHeartbeats 4000000 in
set_option maxRecDepth 100000 in
theorem c_X3_countPrecedences (l : Launch) (D : va_G) (cI cZ cM : ClassId) (a0 a1 a2 a3 a4 a5 : Nat) (a_n : Int32) (a_L : Nat → Int32) (a_U : Nat → Int32) (a_H : Nat → Int32) (a_O : Nat → Int32) (a_B : Nat → Int32) (fu : Nat) (r : Int32) (hf : m_X3_countPrecedences fu a_n a_B = some r) : Met l yX3_countPrecedences wsX3_countPrecedences ({ frames := 1, cells := 0, slots := 0, locals := 20 }) (pR D cI cZ cM [(a0, .inr (3, [.int a_n, .ref a1, .ref a2, .ref a3, .ref a4, .ref a5])), (a1, .inl (cI, 10, .inl a_L)), (a2, .inl (cI, 10, .inl a_U)), (a3, .inl (cI, 12, .inl a_H)), (a4, .inl (cI, 10, .inl a_O)), (a5, .inl (cI, 10, .inl a_B))] [.ref a0]) (qR r) 0 0 (fun _ => False) := by
  refine Met.ofW (cc := cX3_countPrecedences) (maxL := 3) (ret := (some .int)) (by decide) rfl ?_
  intro p e s m args below meth c s₁ B hml hv
  obtain ⟨rfl, hP, hK⟩ := hv
  have hx := B.exec
  have hb := B.bytes
  have hr := B.returns
  have hts := atoms_spec (ws := wsX3_countPrecedences) B.pre
  have hown : s.vm.findClass RX3 = some m.cls := findClass_of_methodNamed B.named
  have hlocks := B.notSynchronized
  have hfl_24 := hts (.fieldLink RX3 24 "TermsFirst$Manual" "before" "[I") (by decide +kernel)
  have hfl_31 := hts (.fieldLink RX3 31 "TermsFirst$Manual" "n" "I") (by decide +kernel)
  have hiX3 : ∀ w ∈ u_ws RX3 TX3 6, w ∈ wsX3_countPrecedences := by decide +kernel
  have hB_4 : ∀ (fn : Nat) (x1 : Int32) (x2 : Int32), m_X3_countPrecedences_4 a_n a_B fn x1 x2 = some r → ∀ ls : Array Slot, lv_has ls 3 [(0, .ref a0), (1, .int x1), (2, .int x2)] → W p l e (headSpec wsX3_countPrecedences { frames := 1, cells := 0, slots := 0, locals := 20 }).room s m ([.ref a0] : List Value).toArray below meth c s.heap [] 0 0 (MQ below (qR r) ([.ref a0] : List Value).toArray s 0 0 (fun _ => False)) (F0 m 4 ls []) := by
    intro fn
    induction fn with
    | zero => intro x1 x2 hf; rw [m_X3_countPrecedences_4] at hf; cases hf
    | succ fn ih =>
      intro x1 x2 hf ls hl
      rw [m_X3_countPrecedences_4] at hf
      refine lv_iload_n hx hb dX3_countPrecedences_4 rfl (lv_at hl 2 rfl) ?_
      refine lv_aload_n hx hb dX3_countPrecedences_5 rfl (lv_at hl 0 rfl) ?_
      refine va_get (D := D) (ci := 3) (v := .int a_n) (C := RX3) (T := TX3) (N := 6) hx hb hts hiX3 hown hK.1 hP 0 rfl rfl 0 (by decide) hfl_31 (fun _ h9 => h9) rfl dX3_countPrecedences_6 ?_
      refine lv_icmp_ge (tgt := 30) hx hb dX3_countPrecedences_9 (by decide) (fun hc => ?_) (fun hc => ?_)
      · have hf := ifp hc hf
        refine lv_iload_n hx hb dX3_countPrecedences_30 rfl (lv_at hl 1 rfl) ?_
        cases hf
        exact W.iret hx hb hr (fun t ht _ => ⟨rfl, ht⟩) (fun _ h => nomatch h) dX3_countPrecedences_31
      · have hf := ifn hc hf
        refine lv_iload_n hx hb dX3_countPrecedences_12 rfl (lv_at hl 1 rfl) ?_
        refine lv_aload_n hx hb dX3_countPrecedences_13 rfl (lv_at hl 0 rfl) ?_
        refine va_get (D := D) (ci := 3) (v := .ref a5) (C := RX3) (T := TX3) (N := 6) hx hb hts hiX3 hown hK.1 hP 0 rfl rfl 5 (by decide) hfl_24 (fun _ h9 => h9) rfl dX3_countPrecedences_14 ?_
        refine lv_iload_n hx hb dX3_countPrecedences_17 rfl (lv_at hl 2 rfl) ?_
        obtain ⟨hi, hf⟩ := gd_some hf
        refine va_iald hx hb hK.1 hP 5 0 rfl rfl hi dX3_countPrecedences_18 ?_
        obtain ⟨q1, hq1, hf⟩ := bd hf
        refine roI (va_runS (As := [.int (a_B x2.toNatClampNeg)]) (rest := [.int x1]) ⟨hx, hb, hml, hown, hts⟩ (c_J6_bitCount_0f7a4 l D cI cZ cM (a_B x2.toNatClampNeg) q1 hq1) (va_cwS 1 hts gX3_countPrecedences_J6_bitCount_0f7a4 rfl rfl rfl hdc_J6_bitCount_0f7a4 ⟨Nat.le_of_ble_eq_true rfl, Nat.le_of_ble_eq_true rfl⟩) (prS hK hP [] rfl) rfl rfl hl.1 rfl (lv_room (Nat.le_of_ble_eq_true rfl)) dX3_countPrecedences_19 ⟨Nat.zero_le _, Nat.zero_le _⟩) ?_
        refine lv_iadd hx hb dX3_countPrecedences_22 ?_
        refine lv_istore_n (lv' := [(1, .int (x1 + q1)), (0, .ref a0), (2, .int x2)]) hx hb dX3_countPrecedences_23 rfl hl (by decide) rfl (fun ls hl => ?_)
        refine lv_iinc (v := (x2 + (nI 1))) (lv' := [(2, .int (x2 + (nI 1))), (1, .int (x1 + q1)), (0, .ref a0)]) hx hb dX3_countPrecedences_24 hl (k := 2) rfl (ii_1 _) (by decide) rfl (fun ls hl => ?_)
        refine lv_goto (tgt := 4) hx hb dX3_countPrecedences_27 (by decide) ?_
        exact ih (x1 + q1) (x2 + (nI 1)) hf  ls (lv_sub hl [2, 1, 0] rfl)
  have hl := lv_entry ([.ref a0]) (n := 3) (Nat.le_of_ble_eq_true rfl)
  rw [lg_entry_eq]
  generalize (lg_sl ([.ref a0]) ++ List.replicate (3 - (lg_sl ([.ref a0])).length) Slot.unset).toArray = ls at hl ⊢
  have hl : lv_has ls 3 [(0, .ref a0)] := hl
  unfold m_X3_countPrecedences at hf
  refine lv_iconst (v := (nI 0)) hx hb dX3_countPrecedences_0 ic_0 ?_
  refine lv_istore_n (lv' := [(1, .int (nI 0)), (0, .ref a0)]) hx hb dX3_countPrecedences_1 rfl hl (by decide) rfl (fun ls hl => ?_)
  refine lv_iconst (v := (nI 0)) hx hb dX3_countPrecedences_2 ic_0 ?_
  refine lv_istore_n (lv' := [(2, .int (nI 0)), (1, .int (nI 0)), (0, .ref a0)]) hx hb dX3_countPrecedences_3 rfl hl (by decide) rfl (fun ls hl => ?_)
  exact hB_4 fu (nI 0) (nI 0) hf  ls (lv_sub hl [2, 1, 0] rfl)
theorem hdc_X3_usersOf : yX3_usersOf.cls ≠ "java/lang/invoke/MethodHandle" ∧ yX3_usersOf.cls ≠ "java/lang/invoke/VarHandle" ∧ (parseMethodDescriptor yX3_usersOf.desc).map (fun d => d.parameters.length) = some 1 := by decide +kernel
set_option maxHeartbeats 4000000 in
set_option maxRecDepth 100000 in
theorem c_X3_usersOf (l : Launch) (D : va_G) (cI cZ cM : ClassId) (a0 a1 a2 a3 a4 a5 : Nat) (a_n : Int32) (a_L : Nat → Int32) (a_U : Nat → Int32) (a_H : Nat → Int32) (a_O : Nat → Int32) (a_B : Nat → Int32) (x1 : Int32) (fu : Nat) (r : Int32) (hf : m_X3_usersOf fu a_n a_U x1 = some r) : Met l yX3_usersOf wsX3_usersOf ({ frames := 1, cells := 0, slots := 0, locals := 21 }) (pR D cI cZ cM [(a0, .inr (3, [.int a_n, .ref a1, .ref a2, .ref a3, .ref a4, .ref a5])), (a1, .inl (cI, 10, .inl a_L)), (a2, .inl (cI, 10, .inl a_U)), (a3, .inl (cI, 12, .inl a_H)), (a4, .inl (cI, 10, .inl a_O)), (a5, .inl (cI, 10, .inl a_B))] [.ref a0, .int x1]) (qR r) 0 0 (fun _ => False) := by
  refine Met.ofW (cc := cX3_usersOf) (maxL := 4) (ret := (some .int)) (by decide) rfl ?_
  intro p e s m args below meth c s₁ B hml hv
  obtain ⟨rfl, hP, hK⟩ := hv
  have hx := B.exec
  have hb := B.bytes
  have hr := B.returns
  have hts := atoms_spec (ws := wsX3_usersOf) B.pre
  have hown : s.vm.findClass RX3 = some m.cls := findClass_of_methodNamed B.named
  have hlocks := B.notSynchronized
  have hfl_15 := hts (.fieldLink RX3 15 "TermsFirst$Manual" "used" "[I") (by decide +kernel)
  have hfl_31 := hts (.fieldLink RX3 31 "TermsFirst$Manual" "n" "I") (by decide +kernel)
  have hiX3 : ∀ w ∈ u_ws RX3 TX3 6, w ∈ wsX3_usersOf := by decide +kernel
  have hB_4 : ∀ (fn : Nat) (x2 : Int32) (x3 : Int32), m_X3_usersOf_4 a_n a_U x1 fn x2 x3 = some r → ∀ ls : Array Slot, lv_has ls 4 [(0, .ref a0), (1, .int x1), (2, .int x2), (3, .int x3)] → W p l e (headSpec wsX3_usersOf { frames := 1, cells := 0, slots := 0, locals := 21 }).room s m ([.ref a0, .int x1] : List Value).toArray below meth c s.heap [] 0 0 (MQ below (qR r) ([.ref a0, .int x1] : List Value).toArray s 0 0 (fun _ => False)) (F0 m 4 ls []) := by
    intro fn
    induction fn with
    | zero => intro x2 x3 hf; rw [m_X3_usersOf_4] at hf; cases hf
    | succ fn ih =>
      intro x2 x3 hf ls hl
      rw [m_X3_usersOf_4] at hf
      refine lv_iload_n hx hb dX3_usersOf_4 rfl (lv_at hl 3 rfl) ?_
      refine lv_aload_n hx hb dX3_usersOf_5 rfl (lv_at hl 0 rfl) ?_
      refine va_get (D := D) (ci := 3) (v := .int a_n) (C := RX3) (T := TX3) (N := 6) hx hb hts hiX3 hown hK.1 hP 0 rfl rfl 0 (by decide) hfl_31 (fun _ h9 => h9) rfl dX3_usersOf_6 ?_
      refine lv_icmp_ge (tgt := 37) hx hb dX3_usersOf_9 (by decide) (fun hc => ?_) (fun hc => ?_)
      · have hf := ifp hc hf
        refine lv_iload_n hx hb dX3_usersOf_37 rfl (lv_at hl 2 rfl) ?_
        cases hf
        exact W.iret hx hb hr (fun t ht _ => ⟨rfl, ht⟩) (fun _ h => nomatch h) dX3_usersOf_38
      · have hf := ifn hc hf
        refine lv_aload_n hx hb dX3_usersOf_12 rfl (lv_at hl 0 rfl) ?_
        refine va_get (D := D) (ci := 3) (v := .ref a2) (C := RX3) (T := TX3) (N := 6) hx hb hts hiX3 hown hK.1 hP 0 rfl rfl 2 (by decide) hfl_15 (fun _ h9 => h9) rfl dX3_usersOf_13 ?_
        refine lv_iload_n hx hb dX3_usersOf_16 rfl (lv_at hl 3 rfl) ?_
        obtain ⟨hi, hf⟩ := gd_some hf
        refine va_iald hx hb hK.1 hP 2 0 rfl rfl hi dX3_usersOf_17 ?_
        refine lv_iload_n hx hb dX3_usersOf_18 rfl (lv_at hl 1 rfl) ?_
        obtain ⟨q1, hq1, hf⟩ := bd hf
        refine roI (va_runSN (As := [.int (a_U x3.toNatClampNeg), .int x1]) (rest := []) ⟨hx, hb, hml, hown, hts⟩ (c_X6_has l D cI cZ cM (a_U x3.toNatClampNeg) x1 q1 hq1) ⟨va_cnB 2 hts gX3_usersOf_X6_has_n39 rfl rfl rfl (hK.2.1 _ ns_7) (hts (.initialized RX6) (by decide +kernel)) hdc_X6_has ⟨Nat.le_of_ble_eq_true rfl, Nat.le_of_ble_eq_true rfl⟩, hts (.static yX6_has) (by decide +kernel), trivial⟩ (prS hK hP [] rfl) rfl rfl hl.1 rfl (lv_room (Nat.le_of_ble_eq_true rfl)) dX3_usersOf_19 ⟨Nat.zero_le _, Nat.zero_le _⟩) ?_
        refine lv_if_eq (tgt := 31) hx hb dX3_usersOf_22 (by decide) (fun hc => ?_) (fun hc => ?_)
        · have hf := ifp hc hf
          refine lv_iinc (v := (x3 + (nI 1))) (lv' := [(3, .int (x3 + (nI 1))), (0, .ref a0), (1, .int x1), (2, .int x2)]) hx hb dX3_usersOf_31 hl (k := 3) rfl (ii_1 _) (by decide) rfl (fun ls hl => ?_)
          refine lv_goto (tgt := 4) hx hb dX3_usersOf_34 (by decide) ?_
          exact ih x2 (x3 + (nI 1)) hf  ls (lv_sub hl [1, 2, 3, 0] rfl)
        · have hf := ifn hc hf
          refine lv_iload_n hx hb dX3_usersOf_25 rfl (lv_at hl 2 rfl) ?_
          refine lv_iload_n hx hb dX3_usersOf_26 rfl (lv_at hl 3 rfl) ?_
          obtain ⟨q2, hq2, hf⟩ := bd hf
          refine roI (va_runSN (As := [.int x2, .int x3]) (rest := []) ⟨hx, hb, hml, hown, hts⟩ (c_X6_with l D cI cZ cM x2 x3 q2 hq2) ⟨va_cnB 2 hts gX3_usersOf_X6_with_n43 rfl rfl rfl (hK.2.1 _ ns_8) (hts (.initialized RX6) (by decide +kernel)) hdc_X6_with ⟨Nat.le_of_ble_eq_true rfl, Nat.le_of_ble_eq_true rfl⟩, hts (.static yX6_with) (by decide +kernel), trivial⟩ (prS hK hP [] rfl) rfl rfl hl.1 rfl (lv_room (Nat.le_of_ble_eq_true rfl)) dX3_usersOf_27 ⟨Nat.zero_le _, Nat.zero_le _⟩) ?_
          refine lv_istore_n (lv' := [(2, .int q2), (0, .ref a0), (1, .int x1), (3, .int x3)]) hx hb dX3_usersOf_30 rfl hl (by decide) rfl (fun ls hl => ?_)
          refine lv_iinc (v := (x3 + (nI 1))) (lv' := [(3, .int (x3 + (nI 1))), (2, .int q2), (0, .ref a0), (1, .int x1)]) hx hb dX3_usersOf_31 hl (k := 3) rfl (ii_1 _) (by decide) rfl (fun ls hl => ?_)
          refine lv_goto (tgt := 4) hx hb dX3_usersOf_34 (by decide) ?_
          exact ih q2 (x3 + (nI 1)) hf  ls (lv_sub hl [2, 3, 1, 0] rfl)
  have hl := lv_entry ([.ref a0, .int x1]) (n := 4) (Nat.le_of_ble_eq_true rfl)
  rw [lg_entry_eq]
  generalize (lg_sl ([.ref a0, .int x1]) ++ List.replicate (4 - (lg_sl ([.ref a0, .int x1])).length) Slot.unset).toArray = ls at hl ⊢
  have hl : lv_has ls 4 [(0, .ref a0), (1, .int x1)] := hl
  unfold m_X3_usersOf at hf
  refine lv_iconst (v := (nI 0)) hx hb dX3_usersOf_0 ic_0 ?_
  refine lv_istore_n (lv' := [(2, .int (nI 0)), (0, .ref a0), (1, .int x1)]) hx hb dX3_usersOf_1 rfl hl (by decide) rfl (fun ls hl => ?_)
  refine lv_iconst (v := (nI 0)) hx hb dX3_usersOf_2 ic_0 ?_
  refine lv_istore_n (lv' := [(3, .int (nI 0)), (2, .int (nI 0)), (0, .ref a0), (1, .int x1)]) hx hb dX3_usersOf_3 rfl hl (by decide) rfl (fun ls hl => ?_)
  exact hB_4 fu (nI 0) (nI 0) hf  ls (lv_sub hl [2, 3, 1, 0] rfl)
