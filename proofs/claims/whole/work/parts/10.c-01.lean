theorem hdc_X0_find : yX0_find.cls ≠ "java/lang/invoke/MethodHandle" ∧ yX0_find.cls ≠ "java/lang/invoke/VarHandle" ∧ (parseMethodDescriptor yX0_find.desc).map (fun d => d.parameters.length) = some 1 := by decide +kernel
set_option maxHeartbeats 4000000 in
set_option maxRecDepth 100000 in
theorem c_X0_find (l : Launch) (D : va_G) (cI cZ cM : ClassId) (q0 q1 q2 q3 q4 q5 v0 v1 v2 v3 v4 v5 a0 a1 a2 a3 a4 a5 : Nat) (sz : Nat) (q_nt : Int32) (q_iv : Int32) (q_fd : Int32) (q_or : Nat → Int32) (q_df : Nat → Int32) (q_se : Nat → Int32) (q_co : Nat → Int32) (q_ch : Nat → Int32) (v_n : Int32) (v_L : Nat → Int32) (v_U : Nat → Int32) (v_H : Nat → Int32) (v_O : Nat → Int32) (v_B : Nat → Int32) (a_n : Int32) (a_L : Nat → Int32) (a_U : Nat → Int32) (a_H : Nat → Int32) (a_O : Nat → Int32) (a_B : Nat → Int32) (fu : Nat) (q_nt' : Int32) (q_iv' : Int32) (q_fd' : Int32) (q_or' : Nat → Int32) (q_df' : Nat → Int32) (q_se' : Nat → Int32) (q_co' : Nat → Int32) (q_ch' : Nat → Int32) (v_n' : Int32) (v_L' : Nat → Int32) (v_U' : Nat → Int32) (v_H' : Nat → Int32) (v_O' : Nat → Int32) (v_B' : Nat → Int32) (hf : m_X0_find fu q_nt q_iv q_fd q_or q_df q_se q_co q_ch v_n v_L v_U v_H v_O v_B a_n a_L a_U a_H a_O a_B = some (q_nt', q_iv', q_fd', q_or', q_df', q_se', q_co', q_ch', v_n', v_L', v_U', v_H', v_O', v_B')) : Met l yX0_find wsX0_find ({ frames := 3, cells := 0, slots := 0, locals := 70 }) (pM D cI cZ cM sz [(q0, .inr (0, [.int q_nt, .int q_iv, .ref q1, .ref v0, .int q_fd, .ref q2, .ref q3, .ref q4, .ref q5])), (q1, .inl (cI, 10, .inl q_or)), (q2, .inl (cI, 10, .inl q_df)), (q3, .inl (cI, 1024, .inl q_se)), (q4, .inl (cI, 1024, .inl q_co)), (q5, .inl (cI, 1024, .inl q_ch)), (v0, .inr (3, [.int v_n, .ref v1, .ref v2, .ref v3, .ref v4, .ref v5])), (v1, .inl (cI, 10, .inl v_L)), (v2, .inl (cI, 10, .inl v_U)), (v3, .inl (cI, 12, .inl v_H)), (v4, .inl (cI, 10, .inl v_O)), (v5, .inl (cI, 10, .inl v_B)), (a0, .inr (3, [.int a_n, .ref a1, .ref a2, .ref a3, .ref a4, .ref a5])), (a1, .inl (cI, 10, .inl a_L)), (a2, .inl (cI, 10, .inl a_U)), (a3, .inl (cI, 12, .inl a_H)), (a4, .inl (cI, 10, .inl a_O)), (a5, .inl (cI, 10, .inl a_B))] [.ref q0, .ref a0]) (qV D [(q0, .inr (0, [.int q_nt', .int q_iv', .ref q1, .ref v0, .int q_fd', .ref q2, .ref q3, .ref q4, .ref q5])), (q1, .inl (cI, 10, .inl q_or')), (q2, .inl (cI, 10, .inl q_df')), (q3, .inl (cI, 1024, .inl q_se')), (q4, .inl (cI, 1024, .inl q_co')), (q5, .inl (cI, 1024, .inl q_ch')), (v0, .inr (3, [.int v_n', .ref v1, .ref v2, .ref v3, .ref v4, .ref v5])), (v1, .inl (cI, 10, .inl v_L')), (v2, .inl (cI, 10, .inl v_U')), (v3, .inl (cI, 12, .inl v_H')), (v4, .inl (cI, 10, .inl v_O')), (v5, .inl (cI, 10, .inl v_B')), (a0, .inr (3, [.int a_n, .ref a1, .ref a2, .ref a3, .ref a4, .ref a5])), (a1, .inl (cI, 10, .inl a_L)), (a2, .inl (cI, 10, .inl a_U)), (a3, .inl (cI, 12, .inl a_H)), (a4, .inl (cI, 10, .inl a_O)), (a5, .inl (cI, 10, .inl a_B))] (va_A [(q0, .inr (0, [.int q_nt, .int q_iv, .ref q1, .ref v0, .int q_fd, .ref q2, .ref q3, .ref q4, .ref q5])), (q1, .inl (cI, 10, .inl q_or)), (q2, .inl (cI, 10, .inl q_df)), (q3, .inl (cI, 1024, .inl q_se)), (q4, .inl (cI, 1024, .inl q_co)), (q5, .inl (cI, 1024, .inl q_ch)), (v0, .inr (3, [.int v_n, .ref v1, .ref v2, .ref v3, .ref v4, .ref v5])), (v1, .inl (cI, 10, .inl v_L)), (v2, .inl (cI, 10, .inl v_U)), (v3, .inl (cI, 12, .inl v_H)), (v4, .inl (cI, 10, .inl v_O)), (v5, .inl (cI, 10, .inl v_B)), (a0, .inr (3, [.int a_n, .ref a1, .ref a2, .ref a3, .ref a4, .ref a5])), (a1, .inl (cI, 10, .inl a_L)), (a2, .inl (cI, 10, .inl a_U)), (a3, .inl (cI, 12, .inl a_H)), (a4, .inl (cI, 10, .inl a_O)), (a5, .inl (cI, 10, .inl a_B))] sz)) 0 0 (va_A [(q0, .inr (0, [.int q_nt, .int q_iv, .ref q1, .ref v0, .int q_fd, .ref q2, .ref q3, .ref q4, .ref q5])), (q1, .inl (cI, 10, .inl q_or)), (q2, .inl (cI, 10, .inl q_df)), (q3, .inl (cI, 1024, .inl q_se)), (q4, .inl (cI, 1024, .inl q_co)), (q5, .inl (cI, 1024, .inl q_ch)), (v0, .inr (3, [.int v_n, .ref v1, .ref v2, .ref v3, .ref v4, .ref v5])), (v1, .inl (cI, 10, .inl v_L)), (v2, .inl (cI, 10, .inl v_U)), (v3, .inl (cI, 12, .inl v_H)), (v4, .inl (cI, 10, .inl v_O)), (v5, .inl (cI, 10, .inl v_B)), (a0, .inr (3, [.int a_n, .ref a1, .ref a2, .ref a3, .ref a4, .ref a5])), (a1, .inl (cI, 10, .inl a_L)), (a2, .inl (cI, 10, .inl a_U)), (a3, .inl (cI, 12, .inl a_H)), (a4, .inl (cI, 10, .inl a_O)), (a5, .inl (cI, 10, .inl a_B))] sz) := by
  refine Met.ofW (cc := cX0_find) (maxL := 4) (ret := none) (by decide) rfl ?_
  intro p e s m args below meth c s₁ B hml hv
  obtain ⟨rfl, hsz, hP, hK, hD0⟩ := hv
  have hx := B.exec
  have hb := B.bytes
  have hr := B.returns
  have hts := atoms_spec (ws := wsX0_find) B.pre
  have hown : s.vm.findClass RX0 = some m.cls := findClass_of_methodNamed B.named
  have hlocks := B.notSynchronized
  subst hsz
  have hD := hD0.self (sz := s.heap.size)
  generalize hAe : va_A [(q0, .inr (0, [.int q_nt, .int q_iv, .ref q1, .ref v0, .int q_fd, .ref q2, .ref q3, .ref q4, .ref q5])), (q1, .inl (cI, 10, .inl q_or)), (q2, .inl (cI, 10, .inl q_df)), (q3, .inl (cI, 1024, .inl q_se)), (q4, .inl (cI, 1024, .inl q_co)), (q5, .inl (cI, 1024, .inl q_ch)), (v0, .inr (3, [.int v_n, .ref v1, .ref v2, .ref v3, .ref v4, .ref v5])), (v1, .inl (cI, 10, .inl v_L)), (v2, .inl (cI, 10, .inl v_U)), (v3, .inl (cI, 12, .inl v_H)), (v4, .inl (cI, 10, .inl v_O)), (v5, .inl (cI, 10, .inl v_B)), (a0, .inr (3, [.int a_n, .ref a1, .ref a2, .ref a3, .ref a4, .ref a5])), (a1, .inl (cI, 10, .inl a_L)), (a2, .inl (cI, 10, .inl a_U)), (a3, .inl (cI, 12, .inl a_H)), (a4, .inl (cI, 10, .inl a_O)), (a5, .inl (cI, 10, .inl a_B))] s.heap.size = A at hD ⊢
  have hA : ∀ q : Nat, s.heap.size ≤ q → A q := fun q h => by rw [← hAe]; exact Or.inr h
  clear hAe hD0
  have hfl_9 := hts (.fieldLink RX0 9 "TermsFirst$BestOrder" "notes" "I") (List.mem_cons_of_mem _ (List.mem_append_left _ (List.mem_append_left _ (List.mem_append_left _ (List.mem_of_getElem? (i := 4) rfl)))))
  have hfl_15 := hts (.fieldLink RX0 15 "TermsFirst$BestOrder" "inversions" "I") (List.mem_cons_of_mem _ (List.mem_append_left _ (List.mem_append_left _ (List.mem_append_left _ (List.mem_of_getElem? (i := 5) rfl)))))
  have hfl_25 := hts (.fieldLink RX0 25 "TermsFirst$BestOrder" "manual" "LTermsFirst$Manual;") (List.mem_cons_of_mem _ (List.mem_append_left _ (List.mem_append_left _ (List.mem_append_left _ (List.mem_of_getElem? (i := 1) rfl)))))
  have hfl_29 := hts (.fieldLink RX0 29 "TermsFirst$BestOrder" "isFound" "Z") (List.mem_cons_of_mem _ (List.mem_append_left _ (List.mem_append_left _ (List.mem_append_left _ (List.mem_of_getElem? (i := 0) rfl)))))
  have hfl_39 := hts (.fieldLink RX0 39 "TermsFirst$BestOrder" "costs" "[I") (List.mem_cons_of_mem _ (List.mem_append_left _ (List.mem_append_left _ (List.mem_append_left _ (List.mem_of_getElem? (i := 3) rfl)))))
  have hfl_56 := hts (.fieldLink RX0 56 "TermsFirst$Manual" "n" "I") (List.mem_cons_of_mem _ (List.mem_append_left _ (List.mem_append_left _ (List.mem_append_left _ (List.mem_of_getElem? (i := 2) rfl)))))
  have hiX0 : ∀ w ∈ u_ws RX0 TX0 9, w ∈ wsX0_find := fun _ h => (List.mem_cons_of_mem _ (List.mem_append_left _ (List.mem_append_right _ h)))
  have hiX3 : ∀ w ∈ u_ws RX3 TX3 6, w ∈ wsX0_find := fun _ h => (List.mem_cons_of_mem _ (List.mem_append_right _ h))
  have hB_59 : ∀ (q_fd : Int32) (q_df : Nat → Int32) (q_se : Nat → Int32) (v_n : Int32) (v_L : Nat → Int32) (v_U : Nat → Int32) (v_H : Nat → Int32) (v_O : Nat → Int32) (v_B : Nat → Int32) (fn : Nat) (x3 : Int32) (q_co : Nat → Int32) (q_ch : Nat → Int32), m_X0_find_59 fu q_fd q_or q_df q_se v_n v_L v_U v_H v_O v_B fn q_co q_ch x3 = some (q_nt', q_iv', q_fd', q_or', q_df', q_se', q_co', q_ch', v_n', v_L', v_U', v_H', v_O', v_B') → ∀ (H : Heap) (locs : List Loc), va_P D vwCl [(q0, .inr (0, [.int q_nt, .int q_iv, .ref q1, .ref v0, .int q_fd, .ref q2, .ref q3, .ref q4, .ref q5])), (q1, .inl (cI, 10, .inl q_or)), (q2, .inl (cI, 10, .inl q_df)), (q3, .inl (cI, 1024, .inl q_se)), (q4, .inl (cI, 1024, .inl q_co)), (q5, .inl (cI, 1024, .inl q_ch)), (v0, .inr (3, [.int v_n, .ref v1, .ref v2, .ref v3, .ref v4, .ref v5])), (v1, .inl (cI, 10, .inl v_L)), (v2, .inl (cI, 10, .inl v_U)), (v3, .inl (cI, 12, .inl v_H)), (v4, .inl (cI, 10, .inl v_O)), (v5, .inl (cI, 10, .inl v_B)), (a0, .inr (3, [.int a_n, .ref a1, .ref a2, .ref a3, .ref a4, .ref a5])), (a1, .inl (cI, 10, .inl a_L)), (a2, .inl (cI, 10, .inl a_U)), (a3, .inl (cI, 12, .inl a_H)), (a4, .inl (cI, 10, .inl a_O)), (a5, .inl (cI, 10, .inl a_B))] H → va_D A [(q0, .inr (0, [.int q_nt, .int q_iv, .ref q1, .ref v0, .int q_fd, .ref q2, .ref q3, .ref q4, .ref q5])), (q1, .inl (cI, 10, .inl q_or)), (q2, .inl (cI, 10, .inl q_df)), (q3, .inl (cI, 1024, .inl q_se)), (q4, .inl (cI, 1024, .inl q_co)), (q5, .inl (cI, 1024, .inl q_ch)), (v0, .inr (3, [.int v_n, .ref v1, .ref v2, .ref v3, .ref v4, .ref v5])), (v1, .inl (cI, 10, .inl v_L)), (v2, .inl (cI, 10, .inl v_U)), (v3, .inl (cI, 12, .inl v_H)), (v4, .inl (cI, 10, .inl v_O)), (v5, .inl (cI, 10, .inl v_B)), (a0, .inr (3, [.int a_n, .ref a1, .ref a2, .ref a3, .ref a4, .ref a5])), (a1, .inl (cI, 10, .inl a_L)), (a2, .inl (cI, 10, .inl a_U)), (a3, .inl (cI, 12, .inl a_H)), (a4, .inl (cI, 10, .inl a_O)), (a5, .inl (cI, 10, .inl a_B))] → va_S A s.heap H locs → ∀ ls : Array Slot, lv_has ls 4 [(0, .ref q0), (3, .int x3)] → W p l e (headSpec wsX0_find { frames := 3, cells := 0, slots := 0, locals := 70 }).room s m ([.ref q0, .ref a0] : List Value).toArray below meth c H locs 0 0 (MQ below (qV D [(q0, .inr (0, [.int q_nt', .int q_iv', .ref q1, .ref v0, .int q_fd', .ref q2, .ref q3, .ref q4, .ref q5])), (q1, .inl (cI, 10, .inl q_or')), (q2, .inl (cI, 10, .inl q_df')), (q3, .inl (cI, 1024, .inl q_se')), (q4, .inl (cI, 1024, .inl q_co')), (q5, .inl (cI, 1024, .inl q_ch')), (v0, .inr (3, [.int v_n', .ref v1, .ref v2, .ref v3, .ref v4, .ref v5])), (v1, .inl (cI, 10, .inl v_L')), (v2, .inl (cI, 10, .inl v_U')), (v3, .inl (cI, 12, .inl v_H')), (v4, .inl (cI, 10, .inl v_O')), (v5, .inl (cI, 10, .inl v_B')), (a0, .inr (3, [.int a_n, .ref a1, .ref a2, .ref a3, .ref a4, .ref a5])), (a1, .inl (cI, 10, .inl a_L)), (a2, .inl (cI, 10, .inl a_U)), (a3, .inl (cI, 12, .inl a_H)), (a4, .inl (cI, 10, .inl a_O)), (a5, .inl (cI, 10, .inl a_B))] A) ([.ref q0, .ref a0] : List Value).toArray s 0 0 A) (F0 m 59 ls []) := by
    intro q_fd q_df q_se v_n v_L v_U v_H v_O v_B fn
    induction fn with
    | zero => intro x3 q_co q_ch hf; rw [m_X0_find_59] at hf; cases hf
    | succ fn ih =>
      intro x3 q_co q_ch hf H locs hP hD hS ls hl
      rw [m_X0_find_59] at hf
      refine lv_iload_n hx hb dX0_find_59 rfl (lv_at hl 1 rfl) ?_
      refine lv_if_lt (tgt := 74) hx hb dX0_find_60 (by decide) (fun hc => ?_) (fun hc => ?_)
      · have hf := ifp hc hf
        refine lv_aload_n hx hb dX0_find_74 rfl (lv_at hl 0 rfl) ?_
        refine lv_aload_n hx hb dX0_find_75 rfl (lv_at hl 0 rfl) ?_
        refine va_get (D := D) (ci := 0) (v := .ref q4) (C := RX0) (T := TX0) (N := 9) hx hb hts hiX0 hown hK.1 hP 0 rfl rfl 7 (by decide) hfl_39 (fun _ h9 => h9) rfl dX0_find_76 ?_
        refine lv_iconst (v := (nI 0)) hx hb dX0_find_79 ic_0 ?_
        obtain ⟨hi, hf⟩ := gd_some hf
        refine va_iald hx hb hK.1 hP 4 0 rfl rfl hi dX0_find_80 ?_
        refine lv_bipush (v := (nI 64)) hx hb dX0_find_81 bp_64 ?_
        refine lv_idiv hx hb dX0_find_83 (by decide +kernel) ?_
        refine va_put (D := D) (ci := 0) (v := .int ((q_co (nI 0).toNatClampNeg) / (nI 64))) (ty := .int) (C := RX0) (T := TX0) (N := 9) hx hb hts hiX0 tyX0 tyX0_ok nmX0 hown hK.1 hP hD hS 0 rfl rfl 0 (by decide) hfl_9 (fun _ h9 => h9) rfl (tyX0_ok 0 (by decide)) rfl rfl (Nat.le_of_ble_eq_true rfl) dX0_find_84 (fun H locs hP hD hS => ?_)
        have hP : va_P D vwCl [(q0, .inr (0, [.int ((q_co (nI 0).toNatClampNeg) / (nI 64)), .int q_iv, .ref q1, .ref v0, .int q_fd, .ref q2, .ref q3, .ref q4, .ref q5])), (q1, .inl (cI, 10, .inl q_or)), (q2, .inl (cI, 10, .inl q_df)), (q3, .inl (cI, 1024, .inl q_se)), (q4, .inl (cI, 1024, .inl q_co)), (q5, .inl (cI, 1024, .inl q_ch)), (v0, .inr (3, [.int v_n, .ref v1, .ref v2, .ref v3, .ref v4, .ref v5])), (v1, .inl (cI, 10, .inl v_L)), (v2, .inl (cI, 10, .inl v_U)), (v3, .inl (cI, 12, .inl v_H)), (v4, .inl (cI, 10, .inl v_O)), (v5, .inl (cI, 10, .inl v_B)), (a0, .inr (3, [.int a_n, .ref a1, .ref a2, .ref a3, .ref a4, .ref a5])), (a1, .inl (cI, 10, .inl a_L)), (a2, .inl (cI, 10, .inl a_U)), (a3, .inl (cI, 12, .inl a_H)), (a4, .inl (cI, 10, .inl a_O)), (a5, .inl (cI, 10, .inl a_B))] H := hP
        have hD : va_D A [(q0, .inr (0, [.int ((q_co (nI 0).toNatClampNeg) / (nI 64)), .int q_iv, .ref q1, .ref v0, .int q_fd, .ref q2, .ref q3, .ref q4, .ref q5])), (q1, .inl (cI, 10, .inl q_or)), (q2, .inl (cI, 10, .inl q_df)), (q3, .inl (cI, 1024, .inl q_se)), (q4, .inl (cI, 1024, .inl q_co)), (q5, .inl (cI, 1024, .inl q_ch)), (v0, .inr (3, [.int v_n, .ref v1, .ref v2, .ref v3, .ref v4, .ref v5])), (v1, .inl (cI, 10, .inl v_L)), (v2, .inl (cI, 10, .inl v_U)), (v3, .inl (cI, 12, .inl v_H)), (v4, .inl (cI, 10, .inl v_O)), (v5, .inl (cI, 10, .inl v_B)), (a0, .inr (3, [.int a_n, .ref a1, .ref a2, .ref a3, .ref a4, .ref a5])), (a1, .inl (cI, 10, .inl a_L)), (a2, .inl (cI, 10, .inl a_U)), (a3, .inl (cI, 12, .inl a_H)), (a4, .inl (cI, 10, .inl a_O)), (a5, .inl (cI, 10, .inl a_B))] := hD
        refine lv_aload_n hx hb dX0_find_87 rfl (lv_at hl 0 rfl) ?_
        refine lv_aload_n hx hb dX0_find_88 rfl (lv_at hl 0 rfl) ?_
        refine va_get (D := D) (ci := 0) (v := .ref q4) (C := RX0) (T := TX0) (N := 9) hx hb hts hiX0 hown hK.1 hP 0 rfl rfl 7 (by decide) hfl_39 (fun _ h9 => h9) rfl dX0_find_89 ?_
        refine lv_iconst (v := (nI 0)) hx hb dX0_find_92 ic_0 ?_
        obtain ⟨hi, hf⟩ := gd_some hf
        refine va_iald hx hb hK.1 hP 4 0 rfl rfl hi dX0_find_93 ?_
        refine lv_bipush (v := (nI 64)) hx hb dX0_find_94 bp_64 ?_
        refine lv_irem hx hb dX0_find_96 (by decide +kernel) ?_
        refine va_put (D := D) (ci := 0) (v := .int ((q_co (nI 0).toNatClampNeg) - (q_co (nI 0).toNatClampNeg) / (nI 64) * (nI 64))) (ty := .int) (C := RX0) (T := TX0) (N := 9) hx hb hts hiX0 tyX0 tyX0_ok nmX0 hown hK.1 hP hD hS 0 rfl rfl 1 (by decide) hfl_15 (fun _ h9 => h9) rfl (tyX0_ok 1 (by decide)) rfl rfl (Nat.le_of_ble_eq_true rfl) dX0_find_97 (fun H locs hP hD hS => ?_)
        have hP : va_P D vwCl [(q0, .inr (0, [.int ((q_co (nI 0).toNatClampNeg) / (nI 64)), .int ((q_co (nI 0).toNatClampNeg) - (q_co (nI 0).toNatClampNeg) / (nI 64) * (nI 64)), .ref q1, .ref v0, .int q_fd, .ref q2, .ref q3, .ref q4, .ref q5])), (q1, .inl (cI, 10, .inl q_or)), (q2, .inl (cI, 10, .inl q_df)), (q3, .inl (cI, 1024, .inl q_se)), (q4, .inl (cI, 1024, .inl q_co)), (q5, .inl (cI, 1024, .inl q_ch)), (v0, .inr (3, [.int v_n, .ref v1, .ref v2, .ref v3, .ref v4, .ref v5])), (v1, .inl (cI, 10, .inl v_L)), (v2, .inl (cI, 10, .inl v_U)), (v3, .inl (cI, 12, .inl v_H)), (v4, .inl (cI, 10, .inl v_O)), (v5, .inl (cI, 10, .inl v_B)), (a0, .inr (3, [.int a_n, .ref a1, .ref a2, .ref a3, .ref a4, .ref a5])), (a1, .inl (cI, 10, .inl a_L)), (a2, .inl (cI, 10, .inl a_U)), (a3, .inl (cI, 12, .inl a_H)), (a4, .inl (cI, 10, .inl a_O)), (a5, .inl (cI, 10, .inl a_B))] H := hP
        have hD : va_D A [(q0, .inr (0, [.int ((q_co (nI 0).toNatClampNeg) / (nI 64)), .int ((q_co (nI 0).toNatClampNeg) - (q_co (nI 0).toNatClampNeg) / (nI 64) * (nI 64)), .ref q1, .ref v0, .int q_fd, .ref q2, .ref q3, .ref q4, .ref q5])), (q1, .inl (cI, 10, .inl q_or)), (q2, .inl (cI, 10, .inl q_df)), (q3, .inl (cI, 1024, .inl q_se)), (q4, .inl (cI, 1024, .inl q_co)), (q5, .inl (cI, 1024, .inl q_ch)), (v0, .inr (3, [.int v_n, .ref v1, .ref v2, .ref v3, .ref v4, .ref v5])), (v1, .inl (cI, 10, .inl v_L)), (v2, .inl (cI, 10, .inl v_U)), (v3, .inl (cI, 12, .inl v_H)), (v4, .inl (cI, 10, .inl v_O)), (v5, .inl (cI, 10, .inl v_B)), (a0, .inr (3, [.int a_n, .ref a1, .ref a2, .ref a3, .ref a4, .ref a5])), (a1, .inl (cI, 10, .inl a_L)), (a2, .inl (cI, 10, .inl a_U)), (a3, .inl (cI, 12, .inl a_H)), (a4, .inl (cI, 10, .inl a_O)), (a5, .inl (cI, 10, .inl a_B))] := hD
        refine lv_aload_n hx hb dX0_find_100 rfl (lv_at hl 0 rfl) ?_
        obtain ⟨rv4, hrv4, hf⟩ := bd hf
        refine muV0 (wr := [(a0, .inr (3, [.int a_n, .ref a1, .ref a2, .ref a3, .ref a4, .ref a5])), (a1, .inl (cI, 10, .inl a_L)), (a2, .inl (cI, 10, .inl a_U)), (a3, .inl (cI, 12, .inl a_H)), (a4, .inl (cI, 10, .inl a_O)), (a5, .inl (cI, 10, .inl a_B))]) (va_runV (As := []) (rest := []) ⟨hx, hb, hml, hown, hts⟩ (c_X0_writeOrder l D cI cZ cM q0 q1 q2 q3 q4 q5 v0 v1 v2 v3 v4 v5 _ ((q_co (nI 0).toNatClampNeg) / (nI 64)) ((q_co (nI 0).toNatClampNeg) - (q_co (nI 0).toNatClampNeg) / (nI 64) * (nI 64)) q_fd q_or q_df q_se q_co q_ch v_n v_L v_U v_H v_O v_B fu rv4 hrv4) (cwV 0 hts gX0_find_X0_writeOrder rfl rfl rfl ⟨rfl, hdc_X0_writeOrder⟩ ⟨Nat.le_of_ble_eq_true rfl, Nat.le_of_ble_eq_true rfl⟩) (pmV hK hP hD [0, 1, 2, 3, 4, 5, 6, 7, 8, 9, 10, 11] (by decide) rfl rfl (ci := 0) (q0 := 0) rfl rfl) rfl rfl hl.1 rfl (lv_room (Nat.le_of_ble_eq_true rfl)) dX0_find_101 ⟨Nat.zero_le _, Nat.zero_le _⟩) hP hD hS hA [0, 1, 2, 3, 4, 5, 6, 7, 8, 9, 10, 11] [12, 13, 14, 15, 16, 17] rfl rfl (by decide) (by decide) (fun H locs hP hD hS => ?_)
        have hP : va_P D vwCl [(a0, .inr (3, [.int a_n, .ref a1, .ref a2, .ref a3, .ref a4, .ref a5])), (a1, .inl (cI, 10, .inl a_L)), (a2, .inl (cI, 10, .inl a_U)), (a3, .inl (cI, 12, .inl a_H)), (a4, .inl (cI, 10, .inl a_O)), (a5, .inl (cI, 10, .inl a_B)), (q0, .inr (0, [.int ((q_co (nI 0).toNatClampNeg) / (nI 64)), .int ((q_co (nI 0).toNatClampNeg) - (q_co (nI 0).toNatClampNeg) / (nI 64) * (nI 64)), .ref q1, .ref v0, .int q_fd, .ref q2, .ref q3, .ref q4, .ref q5])), (q1, .inl (cI, 10, .inl rv4)), (q2, .inl (cI, 10, .inl q_df)), (q3, .inl (cI, 1024, .inl q_se)), (q4, .inl (cI, 1024, .inl q_co)), (q5, .inl (cI, 1024, .inl q_ch)), (v0, .inr (3, [.int v_n, .ref v1, .ref v2, .ref v3, .ref v4, .ref v5])), (v1, .inl (cI, 10, .inl v_L)), (v2, .inl (cI, 10, .inl v_U)), (v3, .inl (cI, 12, .inl v_H)), (v4, .inl (cI, 10, .inl v_O)), (v5, .inl (cI, 10, .inl v_B))] H := hP
        have hD : va_D A [(a0, .inr (3, [.int a_n, .ref a1, .ref a2, .ref a3, .ref a4, .ref a5])), (a1, .inl (cI, 10, .inl a_L)), (a2, .inl (cI, 10, .inl a_U)), (a3, .inl (cI, 12, .inl a_H)), (a4, .inl (cI, 10, .inl a_O)), (a5, .inl (cI, 10, .inl a_B)), (q0, .inr (0, [.int ((q_co (nI 0).toNatClampNeg) / (nI 64)), .int ((q_co (nI 0).toNatClampNeg) - (q_co (nI 0).toNatClampNeg) / (nI 64) * (nI 64)), .ref q1, .ref v0, .int q_fd, .ref q2, .ref q3, .ref q4, .ref q5])), (q1, .inl (cI, 10, .inl rv4)), (q2, .inl (cI, 10, .inl q_df)), (q3, .inl (cI, 1024, .inl q_se)), (q4, .inl (cI, 1024, .inl q_co)), (q5, .inl (cI, 1024, .inl q_ch)), (v0, .inr (3, [.int v_n, .ref v1, .ref v2, .ref v3, .ref v4, .ref v5])), (v1, .inl (cI, 10, .inl v_L)), (v2, .inl (cI, 10, .inl v_U)), (v3, .inl (cI, 12, .inl v_H)), (v4, .inl (cI, 10, .inl v_O)), (v5, .inl (cI, 10, .inl v_B))] := hD
        cases hf
        exact W.vret hx hb hr (fun t ht _ => ⟨⟨rfl, by rw [ht]; exact (hP.sub [6, 7, 8, 9, 10, 11, 12, 13, 14, 15, 16, 17, 0, 1, 2, 3, 4, 5] rfl), (hD.sub [6, 7, 8, 9, 10, 11, 12, 13, 14, 15, 16, 17, 0, 1, 2, 3, 4, 5] (by decide) rfl)⟩, hS.F ht⟩) hS.2.2 dX0_find_104
      · have hf := ifn hc hf
        refine lv_aload_n hx hb dX0_find_63 rfl (lv_at hl 0 rfl) ?_
        refine lv_iload_n hx hb dX0_find_64 rfl (lv_at hl 1 rfl) ?_
        obtain ⟨rv5, hrv5, hf⟩ := bd hf
        refine muV0 (wr := [(a0, .inr (3, [.int a_n, .ref a1, .ref a2, .ref a3, .ref a4, .ref a5])), (a1, .inl (cI, 10, .inl a_L)), (a2, .inl (cI, 10, .inl a_U)), (a3, .inl (cI, 12, .inl a_H)), (a4, .inl (cI, 10, .inl a_O)), (a5, .inl (cI, 10, .inl a_B))]) (va_runV (As := [.int x3]) (rest := []) ⟨hx, hb, hml, hown, hts⟩ (c_X0_choose l D cI cZ cM q0 q1 q2 q3 q4 q5 v0 v1 v2 v3 v4 v5 _ q_nt q_iv q_fd q_or q_df q_se q_co q_ch v_n v_L v_U v_H v_O v_B x3 fu rv5.1 rv5.2 hrv5) (cwV 1 hts gX0_find_X0_choose rfl rfl rfl ⟨rfl, hdc_X0_choose⟩ ⟨Nat.le_of_ble_eq_true rfl, Nat.le_of_ble_eq_true rfl⟩) (pmV hK hP hD [0, 1, 2, 3, 4, 5, 6, 7, 8, 9, 10, 11] (by decide) rfl rfl (ci := 0) (q0 := 0) rfl rfl) rfl rfl hl.1 rfl (lv_room (Nat.le_of_ble_eq_true rfl)) dX0_find_65 ⟨Nat.zero_le _, Nat.zero_le _⟩) hP hD hS hA [0, 1, 2, 3, 4, 5, 6, 7, 8, 9, 10, 11] [12, 13, 14, 15, 16, 17] rfl rfl (by decide) (by decide) (fun H locs hP hD hS => ?_)
        have hP : va_P D vwCl [(a0, .inr (3, [.int a_n, .ref a1, .ref a2, .ref a3, .ref a4, .ref a5])), (a1, .inl (cI, 10, .inl a_L)), (a2, .inl (cI, 10, .inl a_U)), (a3, .inl (cI, 12, .inl a_H)), (a4, .inl (cI, 10, .inl a_O)), (a5, .inl (cI, 10, .inl a_B)), (q0, .inr (0, [.int q_nt, .int q_iv, .ref q1, .ref v0, .int q_fd, .ref q2, .ref q3, .ref q4, .ref q5])), (q1, .inl (cI, 10, .inl q_or)), (q2, .inl (cI, 10, .inl q_df)), (q3, .inl (cI, 1024, .inl q_se)), (q4, .inl (cI, 1024, .inl rv5.1)), (q5, .inl (cI, 1024, .inl rv5.2)), (v0, .inr (3, [.int v_n, .ref v1, .ref v2, .ref v3, .ref v4, .ref v5])), (v1, .inl (cI, 10, .inl v_L)), (v2, .inl (cI, 10, .inl v_U)), (v3, .inl (cI, 12, .inl v_H)), (v4, .inl (cI, 10, .inl v_O)), (v5, .inl (cI, 10, .inl v_B))] H := hP
        have hD : va_D A [(a0, .inr (3, [.int a_n, .ref a1, .ref a2, .ref a3, .ref a4, .ref a5])), (a1, .inl (cI, 10, .inl a_L)), (a2, .inl (cI, 10, .inl a_U)), (a3, .inl (cI, 12, .inl a_H)), (a4, .inl (cI, 10, .inl a_O)), (a5, .inl (cI, 10, .inl a_B)), (q0, .inr (0, [.int q_nt, .int q_iv, .ref q1, .ref v0, .int q_fd, .ref q2, .ref q3, .ref q4, .ref q5])), (q1, .inl (cI, 10, .inl q_or)), (q2, .inl (cI, 10, .inl q_df)), (q3, .inl (cI, 1024, .inl q_se)), (q4, .inl (cI, 1024, .inl rv5.1)), (q5, .inl (cI, 1024, .inl rv5.2)), (v0, .inr (3, [.int v_n, .ref v1, .ref v2, .ref v3, .ref v4, .ref v5])), (v1, .inl (cI, 10, .inl v_L)), (v2, .inl (cI, 10, .inl v_U)), (v3, .inl (cI, 12, .inl v_H)), (v4, .inl (cI, 10, .inl v_O)), (v5, .inl (cI, 10, .inl v_B))] := hD
        refine lv_iinc (v := (x3 + (-1 : Int32))) (lv' := [(3, .int (x3 + (-1 : Int32))), (0, .ref q0)]) hx hb dX0_find_68 hl (k := 1) rfl (ii_m1 _) (by decide) rfl (fun ls hl => ?_)
        refine lv_goto (tgt := 59) hx hb dX0_find_71 (by decide) ?_
        exact ih (x3 + (-1 : Int32)) rv5.1 rv5.2 hf _ _ (hP.sub [6, 7, 8, 9, 10, 11, 12, 13, 14, 15, 16, 17, 0, 1, 2, 3, 4, 5] rfl) (hD.sub [6, 7, 8, 9, 10, 11, 12, 13, 14, 15, 16, 17, 0, 1, 2, 3, 4, 5] (by decide) rfl) hS ls (lv_sub hl [1, 0] rfl)
  have hB_19 : m_X0_find_19 fu q_or q_df q_se q_co q_ch v_L v_U v_H v_O v_B a_n a_L a_U a_H a_O a_B = some (q_nt', q_iv', q_fd', q_or', q_df', q_se', q_co', q_ch', v_n', v_L', v_U', v_H', v_O', v_B') → ∀ (H : Heap) (locs : List Loc), va_P D vwCl [(q0, .inr (0, [.int q_nt, .int q_iv, .ref q1, .ref v0, .int q_fd, .ref q2, .ref q3, .ref q4, .ref q5])), (q1, .inl (cI, 10, .inl q_or)), (q2, .inl (cI, 10, .inl q_df)), (q3, .inl (cI, 1024, .inl q_se)), (q4, .inl (cI, 1024, .inl q_co)), (q5, .inl (cI, 1024, .inl q_ch)), (v0, .inr (3, [.int v_n, .ref v1, .ref v2, .ref v3, .ref v4, .ref v5])), (v1, .inl (cI, 10, .inl v_L)), (v2, .inl (cI, 10, .inl v_U)), (v3, .inl (cI, 12, .inl v_H)), (v4, .inl (cI, 10, .inl v_O)), (v5, .inl (cI, 10, .inl v_B)), (a0, .inr (3, [.int a_n, .ref a1, .ref a2, .ref a3, .ref a4, .ref a5])), (a1, .inl (cI, 10, .inl a_L)), (a2, .inl (cI, 10, .inl a_U)), (a3, .inl (cI, 12, .inl a_H)), (a4, .inl (cI, 10, .inl a_O)), (a5, .inl (cI, 10, .inl a_B))] H → va_D A [(q0, .inr (0, [.int q_nt, .int q_iv, .ref q1, .ref v0, .int q_fd, .ref q2, .ref q3, .ref q4, .ref q5])), (q1, .inl (cI, 10, .inl q_or)), (q2, .inl (cI, 10, .inl q_df)), (q3, .inl (cI, 1024, .inl q_se)), (q4, .inl (cI, 1024, .inl q_co)), (q5, .inl (cI, 1024, .inl q_ch)), (v0, .inr (3, [.int v_n, .ref v1, .ref v2, .ref v3, .ref v4, .ref v5])), (v1, .inl (cI, 10, .inl v_L)), (v2, .inl (cI, 10, .inl v_U)), (v3, .inl (cI, 12, .inl v_H)), (v4, .inl (cI, 10, .inl v_O)), (v5, .inl (cI, 10, .inl v_B)), (a0, .inr (3, [.int a_n, .ref a1, .ref a2, .ref a3, .ref a4, .ref a5])), (a1, .inl (cI, 10, .inl a_L)), (a2, .inl (cI, 10, .inl a_U)), (a3, .inl (cI, 12, .inl a_H)), (a4, .inl (cI, 10, .inl a_O)), (a5, .inl (cI, 10, .inl a_B))] → va_S A s.heap H locs → ∀ ls : Array Slot, lv_has ls 4 [(0, .ref q0), (1, .ref a0)] → W p l e (headSpec wsX0_find { frames := 3, cells := 0, slots := 0, locals := 70 }).room s m ([.ref q0, .ref a0] : List Value).toArray below meth c H locs 0 0 (MQ below (qV D [(q0, .inr (0, [.int q_nt', .int q_iv', .ref q1, .ref v0, .int q_fd', .ref q2, .ref q3, .ref q4, .ref q5])), (q1, .inl (cI, 10, .inl q_or')), (q2, .inl (cI, 10, .inl q_df')), (q3, .inl (cI, 1024, .inl q_se')), (q4, .inl (cI, 1024, .inl q_co')), (q5, .inl (cI, 1024, .inl q_ch')), (v0, .inr (3, [.int v_n', .ref v1, .ref v2, .ref v3, .ref v4, .ref v5])), (v1, .inl (cI, 10, .inl v_L')), (v2, .inl (cI, 10, .inl v_U')), (v3, .inl (cI, 12, .inl v_H')), (v4, .inl (cI, 10, .inl v_O')), (v5, .inl (cI, 10, .inl v_B')), (a0, .inr (3, [.int a_n, .ref a1, .ref a2, .ref a3, .ref a4, .ref a5])), (a1, .inl (cI, 10, .inl a_L)), (a2, .inl (cI, 10, .inl a_U)), (a3, .inl (cI, 12, .inl a_H)), (a4, .inl (cI, 10, .inl a_O)), (a5, .inl (cI, 10, .inl a_B))] A) ([.ref q0, .ref a0] : List Value).toArray s 0 0 A) (F0 m 19 ls []) := by
    intro hf H locs hP hD hS ls hl
    unfold m_X0_find_19 at hf
    refine lv_aload_n hx hb dX0_find_19 rfl (lv_at hl 0 rfl) ?_
    refine va_get (D := D) (ci := 0) (v := .ref v0) (C := RX0) (T := TX0) (N := 9) hx hb hts hiX0 hown hK.1 hP 0 rfl rfl 3 (by decide) hfl_25 (fun _ h9 => h9) rfl dX0_find_20 ?_
    refine lv_aload_n hx hb dX0_find_23 rfl (lv_at hl 1 rfl) ?_
    obtain ⟨rv2, hrv2, hf⟩ := bd hf
    refine muV0 (wr := [(q0, .inr (0, [.int q_nt, .int q_iv, .ref q1, .ref v0, .int q_fd, .ref q2, .ref q3, .ref q4, .ref q5])), (q1, .inl (cI, 10, .inl q_or)), (q2, .inl (cI, 10, .inl q_df)), (q3, .inl (cI, 1024, .inl q_se)), (q4, .inl (cI, 1024, .inl q_co)), (q5, .inl (cI, 1024, .inl q_ch))]) (va_runV (As := [.ref a0]) (rest := []) ⟨hx, hb, hml, hown, hts⟩ (c_X3_become l D cI cZ cM v0 v1 v2 v3 v4 v5 a0 a1 a2 a3 a4 a5 _ v_n v_L v_U v_H v_O v_B a_n a_L a_U a_H a_O a_B fu rv2.1 rv2.2.1 rv2.2.2.1 rv2.2.2.2.1 rv2.2.2.2.2.1 rv2.2.2.2.2.2 hrv2) (cwV 1 hts gX0_find_X3_become rfl rfl rfl ⟨rfl, hdc_X3_become⟩ ⟨Nat.le_of_ble_eq_true rfl, Nat.le_of_ble_eq_true rfl⟩) (pmV hK hP hD [6, 7, 8, 9, 10, 11, 12, 13, 14, 15, 16, 17] (by decide) rfl rfl (ci := 3) (q0 := 6) rfl rfl) rfl rfl hl.1 rfl (lv_room (Nat.le_of_ble_eq_true rfl)) dX0_find_24 ⟨Nat.zero_le _, Nat.zero_le _⟩) hP hD hS hA [6, 7, 8, 9, 10, 11, 12, 13, 14, 15, 16, 17] [0, 1, 2, 3, 4, 5] rfl rfl (by decide) (by decide) (fun H locs hP hD hS => ?_)
    have hP : va_P D vwCl [(q0, .inr (0, [.int q_nt, .int q_iv, .ref q1, .ref v0, .int q_fd, .ref q2, .ref q3, .ref q4, .ref q5])), (q1, .inl (cI, 10, .inl q_or)), (q2, .inl (cI, 10, .inl q_df)), (q3, .inl (cI, 1024, .inl q_se)), (q4, .inl (cI, 1024, .inl q_co)), (q5, .inl (cI, 1024, .inl q_ch)), (v0, .inr (3, [.int rv2.1, .ref v1, .ref v2, .ref v3, .ref v4, .ref v5])), (v1, .inl (cI, 10, .inl rv2.2.1)), (v2, .inl (cI, 10, .inl rv2.2.2.1)), (v3, .inl (cI, 12, .inl rv2.2.2.2.1)), (v4, .inl (cI, 10, .inl rv2.2.2.2.2.1)), (v5, .inl (cI, 10, .inl rv2.2.2.2.2.2)), (a0, .inr (3, [.int a_n, .ref a1, .ref a2, .ref a3, .ref a4, .ref a5])), (a1, .inl (cI, 10, .inl a_L)), (a2, .inl (cI, 10, .inl a_U)), (a3, .inl (cI, 12, .inl a_H)), (a4, .inl (cI, 10, .inl a_O)), (a5, .inl (cI, 10, .inl a_B))] H := hP
    have hD : va_D A [(q0, .inr (0, [.int q_nt, .int q_iv, .ref q1, .ref v0, .int q_fd, .ref q2, .ref q3, .ref q4, .ref q5])), (q1, .inl (cI, 10, .inl q_or)), (q2, .inl (cI, 10, .inl q_df)), (q3, .inl (cI, 1024, .inl q_se)), (q4, .inl (cI, 1024, .inl q_co)), (q5, .inl (cI, 1024, .inl q_ch)), (v0, .inr (3, [.int rv2.1, .ref v1, .ref v2, .ref v3, .ref v4, .ref v5])), (v1, .inl (cI, 10, .inl rv2.2.1)), (v2, .inl (cI, 10, .inl rv2.2.2.1)), (v3, .inl (cI, 12, .inl rv2.2.2.2.1)), (v4, .inl (cI, 10, .inl rv2.2.2.2.2.1)), (v5, .inl (cI, 10, .inl rv2.2.2.2.2.2)), (a0, .inr (3, [.int a_n, .ref a1, .ref a2, .ref a3, .ref a4, .ref a5])), (a1, .inl (cI, 10, .inl a_L)), (a2, .inl (cI, 10, .inl a_U)), (a3, .inl (cI, 12, .inl a_H)), (a4, .inl (cI, 10, .inl a_O)), (a5, .inl (cI, 10, .inl a_B))] := hD
    refine lv_aload_n hx hb dX0_find_27 rfl (lv_at hl 0 rfl) ?_
    refine lv_iconst (v := (nI 1)) hx hb dX0_find_28 ic_1 ?_
    refine va_put (D := D) (ci := 0) (v := .int (nI 1)) (ty := .boolean) (C := RX0) (T := TX0) (N := 9) hx hb hts hiX0 tyX0 tyX0_ok nmX0 hown hK.1 hP hD hS 0 rfl rfl 4 (by decide) hfl_29 (fun _ h9 => h9) rfl (tyX0_ok 4 (by decide)) zbl_1.1 zbl_1.2.1 (Nat.le_of_ble_eq_true rfl) dX0_find_29 (fun H locs hP hD hS => ?_)
    have hP : va_P D vwCl [(q0, .inr (0, [.int q_nt, .int q_iv, .ref q1, .ref v0, .int (nI 1), .ref q2, .ref q3, .ref q4, .ref q5])), (q1, .inl (cI, 10, .inl q_or)), (q2, .inl (cI, 10, .inl q_df)), (q3, .inl (cI, 1024, .inl q_se)), (q4, .inl (cI, 1024, .inl q_co)), (q5, .inl (cI, 1024, .inl q_ch)), (v0, .inr (3, [.int rv2.1, .ref v1, .ref v2, .ref v3, .ref v4, .ref v5])), (v1, .inl (cI, 10, .inl rv2.2.1)), (v2, .inl (cI, 10, .inl rv2.2.2.1)), (v3, .inl (cI, 12, .inl rv2.2.2.2.1)), (v4, .inl (cI, 10, .inl rv2.2.2.2.2.1)), (v5, .inl (cI, 10, .inl rv2.2.2.2.2.2)), (a0, .inr (3, [.int a_n, .ref a1, .ref a2, .ref a3, .ref a4, .ref a5])), (a1, .inl (cI, 10, .inl a_L)), (a2, .inl (cI, 10, .inl a_U)), (a3, .inl (cI, 12, .inl a_H)), (a4, .inl (cI, 10, .inl a_O)), (a5, .inl (cI, 10, .inl a_B))] H := hP
    have hD : va_D A [(q0, .inr (0, [.int q_nt, .int q_iv, .ref q1, .ref v0, .int (nI 1), .ref q2, .ref q3, .ref q4, .ref q5])), (q1, .inl (cI, 10, .inl q_or)), (q2, .inl (cI, 10, .inl q_df)), (q3, .inl (cI, 1024, .inl q_se)), (q4, .inl (cI, 1024, .inl q_co)), (q5, .inl (cI, 1024, .inl q_ch)), (v0, .inr (3, [.int rv2.1, .ref v1, .ref v2, .ref v3, .ref v4, .ref v5])), (v1, .inl (cI, 10, .inl rv2.2.1)), (v2, .inl (cI, 10, .inl rv2.2.2.1)), (v3, .inl (cI, 12, .inl rv2.2.2.2.1)), (v4, .inl (cI, 10, .inl rv2.2.2.2.2.1)), (v5, .inl (cI, 10, .inl rv2.2.2.2.2.2)), (a0, .inr (3, [.int a_n, .ref a1, .ref a2, .ref a3, .ref a4, .ref a5])), (a1, .inl (cI, 10, .inl a_L)), (a2, .inl (cI, 10, .inl a_U)), (a3, .inl (cI, 12, .inl a_H)), (a4, .inl (cI, 10, .inl a_O)), (a5, .inl (cI, 10, .inl a_B))] := hD
    refine lv_aload_n hx hb dX0_find_32 rfl (lv_at hl 0 rfl) ?_
    obtain ⟨rv3, hrv3, hf⟩ := bd hf
    refine muV0 (wr := [(a0, .inr (3, [.int a_n, .ref a1, .ref a2, .ref a3, .ref a4, .ref a5])), (a1, .inl (cI, 10, .inl a_L)), (a2, .inl (cI, 10, .inl a_U)), (a3, .inl (cI, 12, .inl a_H)), (a4, .inl (cI, 10, .inl a_O)), (a5, .inl (cI, 10, .inl a_B))]) (va_runV (As := []) (rest := []) ⟨hx, hb, hml, hown, hts⟩ (c_X0_gatherTerms l D cI cZ cM q0 q1 q2 q3 q4 q5 v0 v1 v2 v3 v4 v5 _ q_nt q_iv (nI 1) q_or q_df q_se q_co q_ch rv2.1 rv2.2.1 rv2.2.2.1 rv2.2.2.2.1 rv2.2.2.2.2.1 rv2.2.2.2.2.2 fu rv3.1 rv3.2 hrv3) (cwV 0 hts gX0_find_X0_gatherTerms rfl rfl rfl ⟨rfl, hdc_X0_gatherTerms⟩ ⟨Nat.le_of_ble_eq_true rfl, Nat.le_of_ble_eq_true rfl⟩) (pmV hK hP hD [0, 1, 2, 3, 4, 5, 6, 7, 8, 9, 10, 11] (by decide) rfl rfl (ci := 0) (q0 := 0) rfl rfl) rfl rfl hl.1 rfl (lv_room (Nat.le_of_ble_eq_true rfl)) dX0_find_33 ⟨Nat.zero_le _, Nat.zero_le _⟩) hP hD hS hA [0, 1, 2, 3, 4, 5, 6, 7, 8, 9, 10, 11] [12, 13, 14, 15, 16, 17] rfl rfl (by decide) (by decide) (fun H locs hP hD hS => ?_)
    have hP : va_P D vwCl [(a0, .inr (3, [.int a_n, .ref a1, .ref a2, .ref a3, .ref a4, .ref a5])), (a1, .inl (cI, 10, .inl a_L)), (a2, .inl (cI, 10, .inl a_U)), (a3, .inl (cI, 12, .inl a_H)), (a4, .inl (cI, 10, .inl a_O)), (a5, .inl (cI, 10, .inl a_B)), (q0, .inr (0, [.int q_nt, .int q_iv, .ref q1, .ref v0, .int (nI 1), .ref q2, .ref q3, .ref q4, .ref q5])), (q1, .inl (cI, 10, .inl q_or)), (q2, .inl (cI, 10, .inl rv3.1)), (q3, .inl (cI, 1024, .inl rv3.2)), (q4, .inl (cI, 1024, .inl q_co)), (q5, .inl (cI, 1024, .inl q_ch)), (v0, .inr (3, [.int rv2.1, .ref v1, .ref v2, .ref v3, .ref v4, .ref v5])), (v1, .inl (cI, 10, .inl rv2.2.1)), (v2, .inl (cI, 10, .inl rv2.2.2.1)), (v3, .inl (cI, 12, .inl rv2.2.2.2.1)), (v4, .inl (cI, 10, .inl rv2.2.2.2.2.1)), (v5, .inl (cI, 10, .inl rv2.2.2.2.2.2))] H := hP
    have hD : va_D A [(a0, .inr (3, [.int a_n, .ref a1, .ref a2, .ref a3, .ref a4, .ref a5])), (a1, .inl (cI, 10, .inl a_L)), (a2, .inl (cI, 10, .inl a_U)), (a3, .inl (cI, 12, .inl a_H)), (a4, .inl (cI, 10, .inl a_O)), (a5, .inl (cI, 10, .inl a_B)), (q0, .inr (0, [.int q_nt, .int q_iv, .ref q1, .ref v0, .int (nI 1), .ref q2, .ref q3, .ref q4, .ref q5])), (q1, .inl (cI, 10, .inl q_or)), (q2, .inl (cI, 10, .inl rv3.1)), (q3, .inl (cI, 1024, .inl rv3.2)), (q4, .inl (cI, 1024, .inl q_co)), (q5, .inl (cI, 1024, .inl q_ch)), (v0, .inr (3, [.int rv2.1, .ref v1, .ref v2, .ref v3, .ref v4, .ref v5])), (v1, .inl (cI, 10, .inl rv2.2.1)), (v2, .inl (cI, 10, .inl rv2.2.2.1)), (v3, .inl (cI, 12, .inl rv2.2.2.2.1)), (v4, .inl (cI, 10, .inl rv2.2.2.2.2.1)), (v5, .inl (cI, 10, .inl rv2.2.2.2.2.2))] := hD
    refine lv_iconst (v := (nI 1)) hx hb dX0_find_36 ic_1 ?_
    refine lv_aload_n hx hb dX0_find_37 rfl (lv_at hl 0 rfl) ?_
    refine va_get (D := D) (ci := 0) (v := .ref v0) (C := RX0) (T := TX0) (N := 9) hx hb hts hiX0 hown hK.1 hP 6 rfl rfl 3 (by decide) hfl_25 (fun _ h9 => h9) rfl dX0_find_38 ?_
    refine va_get (D := D) (ci := 3) (v := .int rv2.1) (C := RX3) (T := TX3) (N := 6) hx hb hts hiX3 hown hK.1 hP 12 rfl rfl 0 (by decide) hfl_56 (fun _ h9 => h9) rfl dX0_find_41 ?_
    refine lv_ishl hx hb dX0_find_44 ?_
    refine lv_iconst (v := (nI 1)) hx hb dX0_find_45 ic_1 ?_
    refine lv_isub hx hb dX0_find_46 ?_
    refine lv_istore_n (lv' := [(2, .int (((nI 1) <<< (rv2.1 &&& 31)) - (nI 1))), (0, .ref q0), (1, .ref a0)]) hx hb dX0_find_47 rfl hl (by decide) rfl (fun ls hl => ?_)
    refine lv_aload_n hx hb dX0_find_48 rfl (lv_at hl 1 rfl) ?_
    refine va_get (D := D) (ci := 0) (v := .ref q4) (C := RX0) (T := TX0) (N := 9) hx hb hts hiX0 hown hK.1 hP 6 rfl rfl 7 (by decide) hfl_39 (fun _ h9 => h9) rfl dX0_find_49 ?_
    refine lv_iload_n hx hb dX0_find_52 rfl (lv_at hl 0 rfl) ?_
    refine lv_iconst (v := (nI 0)) hx hb dX0_find_53 ic_0 ?_
    obtain ⟨hi, hf⟩ := gd_some hf
    refine va_iast hx hb hK.1 hP hD hS 10 0 rfl rfl hi dX0_find_54 (fun H locs hP hD hS => ?_)
    have hP : va_P D vwCl [(a0, .inr (3, [.int a_n, .ref a1, .ref a2, .ref a3, .ref a4, .ref a5])), (a1, .inl (cI, 10, .inl a_L)), (a2, .inl (cI, 10, .inl a_U)), (a3, .inl (cI, 12, .inl a_H)), (a4, .inl (cI, 10, .inl a_O)), (a5, .inl (cI, 10, .inl a_B)), (q0, .inr (0, [.int q_nt, .int q_iv, .ref q1, .ref v0, .int (nI 1), .ref q2, .ref q3, .ref q4, .ref q5])), (q1, .inl (cI, 10, .inl q_or)), (q2, .inl (cI, 10, .inl rv3.1)), (q3, .inl (cI, 1024, .inl rv3.2)), (q4, .inl (cI, 1024, .inl (upd q_co (((nI 1) <<< (rv2.1 &&& 31)) - (nI 1)).toNatClampNeg (nI 0)))), (q5, .inl (cI, 1024, .inl q_ch)), (v0, .inr (3, [.int rv2.1, .ref v1, .ref v2, .ref v3, .ref v4, .ref v5])), (v1, .inl (cI, 10, .inl rv2.2.1)), (v2, .inl (cI, 10, .inl rv2.2.2.1)), (v3, .inl (cI, 12, .inl rv2.2.2.2.1)), (v4, .inl (cI, 10, .inl rv2.2.2.2.2.1)), (v5, .inl (cI, 10, .inl rv2.2.2.2.2.2))] H := hP
    have hD : va_D A [(a0, .inr (3, [.int a_n, .ref a1, .ref a2, .ref a3, .ref a4, .ref a5])), (a1, .inl (cI, 10, .inl a_L)), (a2, .inl (cI, 10, .inl a_U)), (a3, .inl (cI, 12, .inl a_H)), (a4, .inl (cI, 10, .inl a_O)), (a5, .inl (cI, 10, .inl a_B)), (q0, .inr (0, [.int q_nt, .int q_iv, .ref q1, .ref v0, .int (nI 1), .ref q2, .ref q3, .ref q4, .ref q5])), (q1, .inl (cI, 10, .inl q_or)), (q2, .inl (cI, 10, .inl rv3.1)), (q3, .inl (cI, 1024, .inl rv3.2)), (q4, .inl (cI, 1024, .inl (upd q_co (((nI 1) <<< (rv2.1 &&& 31)) - (nI 1)).toNatClampNeg (nI 0)))), (q5, .inl (cI, 1024, .inl q_ch)), (v0, .inr (3, [.int rv2.1, .ref v1, .ref v2, .ref v3, .ref v4, .ref v5])), (v1, .inl (cI, 10, .inl rv2.2.1)), (v2, .inl (cI, 10, .inl rv2.2.2.1)), (v3, .inl (cI, 12, .inl rv2.2.2.2.1)), (v4, .inl (cI, 10, .inl rv2.2.2.2.2.1)), (v5, .inl (cI, 10, .inl rv2.2.2.2.2.2))] := hD
    refine lv_iload_n hx hb dX0_find_55 rfl (lv_at hl 0 rfl) ?_
    refine lv_iconst (v := (nI 1)) hx hb dX0_find_56 ic_1 ?_
    refine lv_isub hx hb dX0_find_57 ?_
    refine lv_istore_n (lv' := [(3, .int ((((nI 1) <<< (rv2.1 &&& 31)) - (nI 1)) - (nI 1))), (2, .int (((nI 1) <<< (rv2.1 &&& 31)) - (nI 1))), (0, .ref q0), (1, .ref a0)]) hx hb dX0_find_58 rfl hl (by decide) rfl (fun ls hl => ?_)
    exact hB_59 (nI 1) rv3.1 rv3.2 rv2.1 rv2.2.1 rv2.2.2.1 rv2.2.2.2.1 rv2.2.2.2.2.1 rv2.2.2.2.2.2 fu ((((nI 1) <<< (rv2.1 &&& 31)) - (nI 1)) - (nI 1)) (upd q_co (((nI 1) <<< (rv2.1 &&& 31)) - (nI 1)).toNatClampNeg (nI 0)) q_ch hf _ _ (hP.sub [6, 7, 8, 9, 10, 11, 12, 13, 14, 15, 16, 17, 0, 1, 2, 3, 4, 5] rfl) (hD.sub [6, 7, 8, 9, 10, 11, 12, 13, 14, 15, 16, 17, 0, 1, 2, 3, 4, 5] (by decide) rfl) hS ls (lv_sub hl [2, 0] rfl)
  have hl := lv_entry ([.ref q0, .ref a0]) (n := 4) (Nat.le_of_ble_eq_true rfl)
  rw [lg_entry_eq]
  generalize (lg_sl ([.ref q0, .ref a0]) ++ List.replicate (4 - (lg_sl ([.ref q0, .ref a0])).length) Slot.unset).toArray = ls at hl ⊢
  have hl : lv_has ls 4 [(0, .ref q0), (1, .ref a0)] := hl
  have hS : va_S A s.heap s.heap [] := va_S.rf
  unfold m_X0_find at hf
  refine lv_aload_n hx hb dX0_find_0 rfl (lv_at hl 0 rfl) ?_
  refine va_get (D := D) (ci := 0) (v := .int q_fd) (C := RX0) (T := TX0) (N := 9) hx hb hts hiX0 hown hK.1 hP 0 rfl rfl 4 (by decide) hfl_29 (fun _ h9 => h9) rfl dX0_find_1 ?_
  refine lv_if_eq (tgt := 19) hx hb dX0_find_4 (by decide) (fun hc => ?_) (fun hc => ?_)
  · have hf := ifp hc hf
    exact hB_19 hf _ _ hP hD hS ls hl
  · have hf := ifn hc hf
    refine lv_aload_n hx hb dX0_find_7 rfl (lv_at hl 0 rfl) ?_
    refine va_get (D := D) (ci := 0) (v := .ref v0) (C := RX0) (T := TX0) (N := 9) hx hb hts hiX0 hown hK.1 hP 0 rfl rfl 3 (by decide) hfl_25 (fun _ h9 => h9) rfl dX0_find_8 ?_
    refine lv_aload_n hx hb dX0_find_11 rfl (lv_at hl 1 rfl) ?_
    obtain ⟨rv1, hrv1, hf⟩ := bd hf
    refine roI (va_runV (As := [.ref a0]) (rest := []) ⟨hx, hb, hml, hown, hts⟩ (c_X3_isSame l D cI cZ cM v0 v1 v2 v3 v4 v5 a0 a1 a2 a3 a4 a5 v_n v_L v_U v_H v_O v_B a_n a_L a_U a_H a_O a_B fu rv1 hrv1) (cwV 1 hts gX0_find_X3_isSame rfl rfl rfl ⟨rfl, hdc_X3_isSame⟩ ⟨Nat.le_of_ble_eq_true rfl, Nat.le_of_ble_eq_true rfl⟩) (prV hK hP [6, 7, 8, 9, 10, 11, 12, 13, 14, 15, 16, 17] rfl (ci := 3) (q0 := 6) rfl rfl) rfl rfl hl.1 rfl (lv_room (Nat.le_of_ble_eq_true rfl)) dX0_find_12 ⟨Nat.zero_le _, Nat.zero_le _⟩) ?_
    refine lv_if_eq (tgt := 19) hx hb dX0_find_15 (by decide) (fun hc => ?_) (fun hc => ?_)
    · have hf := ifp hc hf
      exact hB_19 hf _ _ hP hD hS ls hl
    · have hf := ifn hc hf
      cases hf
      exact W.vret hx hb hr (fun t ht _ => ⟨⟨rfl, by rw [ht]; exact hP, hD⟩, hS.F ht⟩) hS.2.2 dX0_find_18
theorem hdc_X5_rewind : yX5_rewind.cls ≠ "java/lang/invoke/MethodHandle" ∧ yX5_rewind.cls ≠ "java/lang/invoke/VarHandle" ∧ (parseMethodDescriptor yX5_rewind.desc).map (fun d => d.parameters.length) = some 0 := by decide +kernel
set_option maxHeartbeats 4000000 in
set_option maxRecDepth 100000 in
theorem c_X5_rewind (l : Launch) (D : va_G) (cI cZ cM : ClassId) (t0 t1 : Nat) (sz : Nat) (t_len : Int32) (t_st : Int32) (t_nx : Int32) (t_kd : Int32) (t_by : Nat → Int32) (t_nx' : Int32) (hf : m_X5_rewind = some t_nx') : Met l yX5_rewind wsX5_rewind ({ frames := 0, cells := 0, slots := 0, locals := 0 }) (pM D cI cZ cM sz [(t0, .inr (5, [.int t_len, .int t_st, .int t_nx, .int t_kd, .ref t1])), (t1, .inl (cI, 200, .inl t_by))] [.ref t0]) (qV D [(t0, .inr (5, [.int t_len, .int t_st, .int t_nx', .int t_kd, .ref t1])), (t1, .inl (cI, 200, .inl t_by))] (va_A [(t0, .inr (5, [.int t_len, .int t_st, .int t_nx, .int t_kd, .ref t1])), (t1, .inl (cI, 200, .inl t_by))] sz)) 0 0 (va_A [(t0, .inr (5, [.int t_len, .int t_st, .int t_nx, .int t_kd, .ref t1])), (t1, .inl (cI, 200, .inl t_by))] sz) := by
  refine Met.ofW (cc := cX5_rewind) (maxL := 1) (ret := none) (by decide) rfl ?_
  intro p e s m args below meth c s₁ B hml hv
  obtain ⟨rfl, hsz, hP, hK, hD0⟩ := hv
  have hx := B.exec
  have hb := B.bytes
  have hr := B.returns
  have hts := atoms_spec (ws := wsX5_rewind) B.pre
  have hown : s.vm.findClass RX5 = some m.cls := findClass_of_methodNamed B.named
  have hlocks := B.notSynchronized
  subst hsz
  have hD := hD0.self (sz := s.heap.size)
  generalize hAe : va_A [(t0, .inr (5, [.int t_len, .int t_st, .int t_nx, .int t_kd, .ref t1])), (t1, .inl (cI, 200, .inl t_by))] s.heap.size = A at hD ⊢
  have hA : ∀ q : Nat, s.heap.size ≤ q → A q := fun q h => by rw [← hAe]; exact Or.inr h
  clear hAe hD0
  have hfl_18 := hts (.fieldLink RX5 18 "TermsFirst$Text" "next" "I") (List.mem_cons_of_mem _ (List.mem_append_left _ (List.mem_of_getElem? (i := 0) rfl)))
  have hiX5 : ∀ w ∈ u_ws RX5 TX5 5, w ∈ wsX5_rewind := fun _ h => (List.mem_cons_of_mem _ (List.mem_append_right _ h))
  have hl := lv_entry ([.ref t0]) (n := 1) (Nat.le_of_ble_eq_true rfl)
  rw [lg_entry_eq]
  generalize (lg_sl ([.ref t0]) ++ List.replicate (1 - (lg_sl ([.ref t0])).length) Slot.unset).toArray = ls at hl ⊢
  have hl : lv_has ls 1 [(0, .ref t0)] := hl
  have hS : va_S A s.heap s.heap [] := va_S.rf
  unfold m_X5_rewind at hf
  refine lv_aload_n hx hb dX5_rewind_0 rfl (lv_at hl 0 rfl) ?_
  refine lv_iconst (v := (nI 0)) hx hb dX5_rewind_1 ic_0 ?_
  refine va_put (D := D) (ci := 5) (v := .int (nI 0)) (ty := .int) (C := RX5) (T := TX5) (N := 5) hx hb hts hiX5 tyX5 tyX5_ok nmX5 hown hK.1 hP hD hS 0 rfl rfl 2 (by decide) hfl_18 (fun _ h9 => h9) rfl (tyX5_ok 2 (by decide)) rfl rfl (Nat.le_of_ble_eq_true rfl) dX5_rewind_2 (fun H locs hP hD hS => ?_)
  have hP : va_P D vwCl [(t0, .inr (5, [.int t_len, .int t_st, .int (nI 0), .int t_kd, .ref t1])), (t1, .inl (cI, 200, .inl t_by))] H := hP
  have hD : va_D A [(t0, .inr (5, [.int t_len, .int t_st, .int (nI 0), .int t_kd, .ref t1])), (t1, .inl (cI, 200, .inl t_by))] := hD
  cases hf
  exact W.vret hx hb hr (fun t ht _ => ⟨⟨rfl, by rw [ht]; exact hP, hD⟩, hS.F ht⟩) hS.2.2 dX5_rewind_5
theorem hdc_X5_kindOf : yX5_kindOf.cls ≠ "java/lang/invoke/MethodHandle" ∧ yX5_kindOf.cls ≠ "java/lang/invoke/VarHandle" ∧ (parseMethodDescriptor yX5_kindOf.desc).map (fun d => d.parameters.length) = some 1 := by decide +kernel
set_option maxHeartbeats 4000000 in
set_option maxRecDepth 100000 in
theorem c_X5_kindOf (l : Launch) (D : va_G) (cI cZ cM : ClassId) (x0 : Int32) (r : Int32) (hf : m_X5_kindOf x0 = some r) : Met l yX5_kindOf wsX5_kindOf ({ frames := 0, cells := 0, slots := 0, locals := 0 }) (pR D cI cZ cM [] [.int x0]) (qR r) 0 0 (fun _ => False) := by
  refine Met.ofW (cc := cX5_kindOf) (maxL := 1) (ret := (some .int)) (by decide) rfl ?_
  intro p e s m args below meth c s₁ B hml hv
  obtain ⟨rfl, hP, hK⟩ := hv
  have hx := B.exec
  have hb := B.bytes
  have hr := B.returns
  have hts := atoms_spec (ws := wsX5_kindOf) B.pre
  have hown : s.vm.findClass RX5 = some m.cls := findClass_of_methodNamed B.named
  have hlocks := B.notSynchronized
  have hB_14 : m_X5_kindOf_14 x0 = some r → ∀ ls : Array Slot, lv_has ls 1 [(0, .int x0)] → W p l e (headSpec wsX5_kindOf { frames := 0, cells := 0, slots := 0, locals := 0 }).room s m ([.int x0] : List Value).toArray below meth c s.heap [] 0 0 (MQ below (qR r) ([.int x0] : List Value).toArray s 0 0 (fun _ => False)) (F0 m 14 ls []) := by
    intro hf ls hl
    unfold m_X5_kindOf_14 at hf
    refine lv_iload_n hx hb dX5_kindOf_14 rfl (lv_at hl 0 rfl) ?_
    refine lv_bipush (v := (nI 48)) hx hb dX5_kindOf_15 bp_48 ?_
    refine lv_icmp_lt (tgt := 28) hx hb dX5_kindOf_17 (by decide) (fun hc => ?_) (fun hc => ?_)
    · have hf := ifp hc hf
      refine lv_iconst (v := (nI 3)) hx hb dX5_kindOf_28 ic_3 ?_
      cases hf
      exact W.iret hx hb hr (fun t ht _ => ⟨rfl, ht⟩) (fun _ h => nomatch h) dX5_kindOf_29
    · have hf := ifn hc hf
      refine lv_iload_n hx hb dX5_kindOf_20 rfl (lv_at hl 0 rfl) ?_
      refine lv_bipush (v := (nI 57)) hx hb dX5_kindOf_21 bp_57 ?_
      refine lv_icmp_gt (tgt := 28) hx hb dX5_kindOf_23 (by decide) (fun hc => ?_) (fun hc => ?_)
      · have hf := ifp hc hf
        refine lv_iconst (v := (nI 3)) hx hb dX5_kindOf_28 ic_3 ?_
        cases hf
        exact W.iret hx hb hr (fun t ht _ => ⟨rfl, ht⟩) (fun _ h => nomatch h) dX5_kindOf_29
      · have hf := ifn hc hf
        refine lv_iconst (v := (nI 2)) hx hb dX5_kindOf_26 ic_2 ?_
        cases hf
        exact W.iret hx hb hr (fun t ht _ => ⟨rfl, ht⟩) (fun _ h => nomatch h) dX5_kindOf_27
  have hl := lv_entry ([.int x0]) (n := 1) (Nat.le_of_ble_eq_true rfl)
  rw [lg_entry_eq]
  generalize (lg_sl ([.int x0]) ++ List.replicate (1 - (lg_sl ([.int x0])).length) Slot.unset).toArray = ls at hl ⊢
  have hl : lv_has ls 1 [(0, .int x0)] := hl
  unfold m_X5_kindOf at hf
  refine lv_iload_n hx hb dX5_kindOf_0 rfl (lv_at hl 0 rfl) ?_
  refine lv_bipush (v := (nI 97)) hx hb dX5_kindOf_1 bp_97 ?_
  refine lv_icmp_lt (tgt := 14) hx hb dX5_kindOf_3 (by decide) (fun hc => ?_) (fun hc => ?_)
  · have hf := ifp hc hf
    exact hB_14 hf  ls hl
  · have hf := ifn hc hf
    refine lv_iload_n hx hb dX5_kindOf_6 rfl (lv_at hl 0 rfl) ?_
    refine lv_bipush (v := (nI 122)) hx hb dX5_kindOf_7 bp_122 ?_
    refine lv_icmp_gt (tgt := 14) hx hb dX5_kindOf_9 (by decide) (fun hc => ?_) (fun hc => ?_)
    · have hf := ifp hc hf
      exact hB_14 hf  ls hl
    · have hf := ifn hc hf
      refine lv_iconst (v := (nI 1)) hx hb dX5_kindOf_12 ic_1 ?_
      cases hf
      exact W.iret hx hb hr (fun t ht _ => ⟨rfl, ht⟩) (fun _ h => nomatch h) dX5_kindOf_13
theorem hdc_X5_take : yX5_take.cls ≠ "java/lang/invoke/MethodHandle" ∧ yX5_take.cls ≠ "java/lang/invoke/VarHandle" ∧ (parseMethodDescriptor yX5_take.desc).map (fun d => d.parameters.length) = some 0 := by decide +kernel
set_option maxHeartbeats 4000000 in
set_option maxRecDepth 100000 in
theorem c_X5_take (l : Launch) (D : va_G) (cI cZ cM : ClassId) (t0 t1 : Nat) (sz : Nat) (t_len : Int32) (t_st : Int32) (t_nx : Int32) (t_kd : Int32) (t_by : Nat → Int32) (fu : Nat) (t_st' : Int32) (t_nx' : Int32) (t_kd' : Int32) (hf : m_X5_take fu t_len t_nx t_by = some (t_st', t_nx', t_kd')) : Met l yX5_take wsX5_take ({ frames := 1, cells := 0, slots := 0, locals := 20 }) (pM D cI cZ cM sz [(t0, .inr (5, [.int t_len, .int t_st, .int t_nx, .int t_kd, .ref t1])), (t1, .inl (cI, 200, .inl t_by))] [.ref t0]) (qV D [(t0, .inr (5, [.int t_len, .int t_st', .int t_nx', .int t_kd', .ref t1])), (t1, .inl (cI, 200, .inl t_by))] (va_A [(t0, .inr (5, [.int t_len, .int t_st, .int t_nx, .int t_kd, .ref t1])), (t1, .inl (cI, 200, .inl t_by))] sz)) 0 0 (va_A [(t0, .inr (5, [.int t_len, .int t_st, .int t_nx, .int t_kd, .ref t1])), (t1, .inl (cI, 200, .inl t_by))] sz) := by
  refine Met.ofW (cc := cX5_take) (maxL := 1) (ret := none) (by decide) rfl ?_
  intro p e s m args below meth c s₁ B hml hv
  obtain ⟨rfl, hsz, hP, hK, hD0⟩ := hv
  have hx := B.exec
  have hb := B.bytes
  have hr := B.returns
  have hts := atoms_spec (ws := wsX5_take) B.pre
  have hown : s.vm.findClass RX5 = some m.cls := findClass_of_methodNamed B.named
  have hlocks := B.notSynchronized
  subst hsz
  have hD := hD0.self (sz := s.heap.size)
  generalize hAe : va_A [(t0, .inr (5, [.int t_len, .int t_st, .int t_nx, .int t_kd, .ref t1])), (t1, .inl (cI, 200, .inl t_by))] s.heap.size = A at hD ⊢
  have hA : ∀ q : Nat, s.heap.size ≤ q → A q := fun q h => by rw [← hAe]; exact Or.inr h
  clear hAe hD0
  have hfl_9 := hts (.fieldLink RX5 9 "TermsFirst$Text" "length" "I") (List.mem_cons_of_mem _ (List.mem_append_left _ (List.mem_of_getElem? (i := 1) rfl)))
  have hfl_15 := hts (.fieldLink RX5 15 "TermsFirst$Text" "start" "I") (List.mem_cons_of_mem _ (List.mem_append_left _ (List.mem_of_getElem? (i := 3) rfl)))
  have hfl_18 := hts (.fieldLink RX5 18 "TermsFirst$Text" "next" "I") (List.mem_cons_of_mem _ (List.mem_append_left _ (List.mem_of_getElem? (i := 0) rfl)))
  have hfl_21 := hts (.fieldLink RX5 21 "TermsFirst$Text" "kind" "I") (List.mem_cons_of_mem _ (List.mem_append_left _ (List.mem_of_getElem? (i := 4) rfl)))
  have hfl_24 := hts (.fieldLink RX5 24 "TermsFirst$Text" "bytes" "[I") (List.mem_cons_of_mem _ (List.mem_append_left _ (List.mem_of_getElem? (i := 2) rfl)))
  have hiX5 : ∀ w ∈ u_ws RX5 TX5 5, w ∈ wsX5_take := fun _ h => (List.mem_cons_of_mem _ (List.mem_append_right _ h))
  have hB_89 : ∀ (t_st : Int32) (t_kd : Int32) (fn : Nat) (t_nx : Int32), m_X5_take_89 t_len t_st t_kd t_by fn t_nx = some (t_st', t_nx', t_kd') → ∀ (H : Heap) (locs : List Loc), va_P D vwCl [(t0, .inr (5, [.int t_len, .int t_st, .int t_nx, .int t_kd, .ref t1])), (t1, .inl (cI, 200, .inl t_by))] H → va_D A [(t0, .inr (5, [.int t_len, .int t_st, .int t_nx, .int t_kd, .ref t1])), (t1, .inl (cI, 200, .inl t_by))] → va_S A s.heap H locs → ∀ ls : Array Slot, lv_has ls 1 [(0, .ref t0)] → W p l e (headSpec wsX5_take { frames := 1, cells := 0, slots := 0, locals := 20 }).room s m ([.ref t0] : List Value).toArray below meth c H locs 0 0 (MQ below (qV D [(t0, .inr (5, [.int t_len, .int t_st', .int t_nx', .int t_kd', .ref t1])), (t1, .inl (cI, 200, .inl t_by))] A) ([.ref t0] : List Value).toArray s 0 0 A) (F0 m 89 ls []) := by
    intro t_st t_kd fn
    induction fn with
    | zero => intro t_nx hf; rw [m_X5_take_89] at hf; cases hf
    | succ fn ih =>
      intro t_nx hf H locs hP hD hS ls hl
      rw [m_X5_take_89] at hf
      refine lv_aload_n hx hb dX5_take_89 rfl (lv_at hl 0 rfl) ?_
      refine va_get (D := D) (ci := 5) (v := .int t_kd) (C := RX5) (T := TX5) (N := 5) hx hb hts hiX5 hown hK.1 hP 0 rfl rfl 3 (by decide) hfl_21 (fun _ h9 => h9) rfl dX5_take_90 ?_
      refine lv_iconst (v := (nI 3)) hx hb dX5_take_93 ic_3 ?_
      refine lv_icmp_eq (tgt := 140) hx hb dX5_take_94 (by decide) (fun hc => ?_) (fun hc => ?_)
      · have hf := ifp hc hf
        cases hf
        exact W.vret hx hb hr (fun t ht _ => ⟨⟨rfl, by rw [ht]; exact hP, hD⟩, hS.F ht⟩) hS.2.2 dX5_take_140
      · have hf := ifn hc hf
        refine lv_aload_n hx hb dX5_take_97 rfl (lv_at hl 0 rfl) ?_
        refine va_get (D := D) (ci := 5) (v := .int t_nx) (C := RX5) (T := TX5) (N := 5) hx hb hts hiX5 hown hK.1 hP 0 rfl rfl 2 (by decide) hfl_18 (fun _ h9 => h9) rfl dX5_take_98 ?_
        refine lv_aload_n hx hb dX5_take_101 rfl (lv_at hl 0 rfl) ?_
        refine va_get (D := D) (ci := 5) (v := .int t_len) (C := RX5) (T := TX5) (N := 5) hx hb hts hiX5 hown hK.1 hP 0 rfl rfl 0 (by decide) hfl_9 (fun _ h9 => h9) rfl dX5_take_102 ?_
        refine lv_icmp_ge (tgt := 140) hx hb dX5_take_105 (by decide) (fun hc => ?_) (fun hc => ?_)
        · have hf := ifp hc hf
          cases hf
          exact W.vret hx hb hr (fun t ht _ => ⟨⟨rfl, by rw [ht]; exact hP, hD⟩, hS.F ht⟩) hS.2.2 dX5_take_140
        · have hf := ifn hc hf
          refine lv_aload_n hx hb dX5_take_108 rfl (lv_at hl 0 rfl) ?_
          refine va_get (D := D) (ci := 5) (v := .ref t1) (C := RX5) (T := TX5) (N := 5) hx hb hts hiX5 hown hK.1 hP 0 rfl rfl 4 (by decide) hfl_24 (fun _ h9 => h9) rfl dX5_take_109 ?_
          refine lv_aload_n hx hb dX5_take_112 rfl (lv_at hl 0 rfl) ?_
          refine va_get (D := D) (ci := 5) (v := .int t_nx) (C := RX5) (T := TX5) (N := 5) hx hb hts hiX5 hown hK.1 hP 0 rfl rfl 2 (by decide) hfl_18 (fun _ h9 => h9) rfl dX5_take_113 ?_
          obtain ⟨hi, hf⟩ := gd_some hf
          refine va_iald hx hb hK.1 hP 1 0 rfl rfl hi dX5_take_116 ?_
          obtain ⟨rv2, hrv2, hf⟩ := bd hf
          refine roI (va_runS (As := [.int (t_by t_nx.toNatClampNeg)]) (rest := []) ⟨hx, hb, hml, hown, hts⟩ (c_X5_kindOf l D cI cZ cM (t_by t_nx.toNatClampNeg) rv2 hrv2) (va_cwS 1 hts gX5_take_X5_kindOf rfl rfl rfl hdc_X5_kindOf ⟨Nat.le_of_ble_eq_true rfl, Nat.le_of_ble_eq_true rfl⟩) (prS hK hP [] rfl) rfl rfl hl.1 rfl (lv_room (Nat.le_of_ble_eq_true rfl)) dX5_take_117 ⟨Nat.zero_le _, Nat.zero_le _⟩) ?_
          refine lv_aload_n hx hb dX5_take_120 rfl (lv_at hl 0 rfl) ?_
          refine va_get (D := D) (ci := 5) (v := .int t_kd) (C := RX5) (T := TX5) (N := 5) hx hb hts hiX5 hown hK.1 hP 0 rfl rfl 3 (by decide) hfl_21 (fun _ h9 => h9) rfl dX5_take_121 ?_
          refine lv_icmp_ne (tgt := 140) hx hb dX5_take_124 (by decide) (fun hc => ?_) (fun hc => ?_)
          · have hf := ifn hc hf
            cases hf
            exact W.vret hx hb hr (fun t ht _ => ⟨⟨rfl, by rw [ht]; exact hP, hD⟩, hS.F ht⟩) hS.2.2 dX5_take_140
          · have hf := ifp hc hf
            refine lv_aload_n hx hb dX5_take_127 rfl (lv_at hl 0 rfl) ?_
            refine lv_dup hx hb dX5_take_128 rfl ?_
            refine va_get (D := D) (ci := 5) (v := .int t_nx) (C := RX5) (T := TX5) (N := 5) hx hb hts hiX5 hown hK.1 hP 0 rfl rfl 2 (by decide) hfl_18 (fun _ h9 => h9) rfl dX5_take_129 ?_
            refine lv_iconst (v := (nI 1)) hx hb dX5_take_132 ic_1 ?_
            refine lv_iadd hx hb dX5_take_133 ?_
            refine va_put (D := D) (ci := 5) (v := .int (t_nx + (nI 1))) (ty := .int) (C := RX5) (T := TX5) (N := 5) hx hb hts hiX5 tyX5 tyX5_ok nmX5 hown hK.1 hP hD hS 0 rfl rfl 2 (by decide) hfl_18 (fun _ h9 => h9) rfl (tyX5_ok 2 (by decide)) rfl rfl (Nat.le_of_ble_eq_true rfl) dX5_take_134 (fun H locs hP hD hS => ?_)
            have hP : va_P D vwCl [(t0, .inr (5, [.int t_len, .int t_st, .int (t_nx + (nI 1)), .int t_kd, .ref t1])), (t1, .inl (cI, 200, .inl t_by))] H := hP
            have hD : va_D A [(t0, .inr (5, [.int t_len, .int t_st, .int (t_nx + (nI 1)), .int t_kd, .ref t1])), (t1, .inl (cI, 200, .inl t_by))] := hD
            refine lv_goto (tgt := 89) hx hb dX5_take_137 (by decide) ?_
            exact ih (t_nx + (nI 1)) hf _ _ hP hD hS ls hl
  have hB_38 : ∀ (t_nx : Int32), m_X5_take_38 fu t_len t_nx t_by = some (t_st', t_nx', t_kd') → ∀ (H : Heap) (locs : List Loc), va_P D vwCl [(t0, .inr (5, [.int t_len, .int t_st, .int t_nx, .int t_kd, .ref t1])), (t1, .inl (cI, 200, .inl t_by))] H → va_D A [(t0, .inr (5, [.int t_len, .int t_st, .int t_nx, .int t_kd, .ref t1])), (t1, .inl (cI, 200, .inl t_by))] → va_S A s.heap H locs → ∀ ls : Array Slot, lv_has ls 1 [(0, .ref t0)] → W p l e (headSpec wsX5_take { frames := 1, cells := 0, slots := 0, locals := 20 }).room s m ([.ref t0] : List Value).toArray below meth c H locs 0 0 (MQ below (qV D [(t0, .inr (5, [.int t_len, .int t_st', .int t_nx', .int t_kd', .ref t1])), (t1, .inl (cI, 200, .inl t_by))] A) ([.ref t0] : List Value).toArray s 0 0 A) (F0 m 38 ls []) := by
    intro t_nx hf H locs hP hD hS ls hl
    unfold m_X5_take_38 at hf
    refine lv_aload_n hx hb dX5_take_38 rfl (lv_at hl 0 rfl) ?_
    refine lv_aload_n hx hb dX5_take_39 rfl (lv_at hl 0 rfl) ?_
    refine va_get (D := D) (ci := 5) (v := .int t_nx) (C := RX5) (T := TX5) (N := 5) hx hb hts hiX5 hown hK.1 hP 0 rfl rfl 2 (by decide) hfl_18 (fun _ h9 => h9) rfl dX5_take_40 ?_
    refine va_put (D := D) (ci := 5) (v := .int t_nx) (ty := .int) (C := RX5) (T := TX5) (N := 5) hx hb hts hiX5 tyX5 tyX5_ok nmX5 hown hK.1 hP hD hS 0 rfl rfl 1 (by decide) hfl_15 (fun _ h9 => h9) rfl (tyX5_ok 1 (by decide)) rfl rfl (Nat.le_of_ble_eq_true rfl) dX5_take_43 (fun H locs hP hD hS => ?_)
    have hP : va_P D vwCl [(t0, .inr (5, [.int t_len, .int t_nx, .int t_nx, .int t_kd, .ref t1])), (t1, .inl (cI, 200, .inl t_by))] H := hP
    have hD : va_D A [(t0, .inr (5, [.int t_len, .int t_nx, .int t_nx, .int t_kd, .ref t1])), (t1, .inl (cI, 200, .inl t_by))] := hD
    refine lv_aload_n hx hb dX5_take_46 rfl (lv_at hl 0 rfl) ?_
    refine va_get (D := D) (ci := 5) (v := .int t_nx) (C := RX5) (T := TX5) (N := 5) hx hb hts hiX5 hown hK.1 hP 0 rfl rfl 2 (by decide) hfl_18 (fun _ h9 => h9) rfl dX5_take_47 ?_
    refine lv_aload_n hx hb dX5_take_50 rfl (lv_at hl 0 rfl) ?_
    refine va_get (D := D) (ci := 5) (v := .int t_len) (C := RX5) (T := TX5) (N := 5) hx hb hts hiX5 hown hK.1 hP 0 rfl rfl 0 (by decide) hfl_9 (fun _ h9 => h9) rfl dX5_take_51 ?_
    refine lv_icmp_lt (tgt := 63) hx hb dX5_take_54 (by decide) (fun hc => ?_) (fun hc => ?_)
    · have hf := ifp hc hf
      refine lv_aload_n hx hb dX5_take_63 rfl (lv_at hl 0 rfl) ?_
      refine lv_aload_n hx hb dX5_take_64 rfl (lv_at hl 0 rfl) ?_
      refine va_get (D := D) (ci := 5) (v := .ref t1) (C := RX5) (T := TX5) (N := 5) hx hb hts hiX5 hown hK.1 hP 0 rfl rfl 4 (by decide) hfl_24 (fun _ h9 => h9) rfl dX5_take_65 ?_
      refine lv_aload_n hx hb dX5_take_68 rfl (lv_at hl 0 rfl) ?_
      refine va_get (D := D) (ci := 5) (v := .int t_nx) (C := RX5) (T := TX5) (N := 5) hx hb hts hiX5 hown hK.1 hP 0 rfl rfl 2 (by decide) hfl_18 (fun _ h9 => h9) rfl dX5_take_69 ?_
      obtain ⟨hi, hf⟩ := gd_some hf
      refine va_iald hx hb hK.1 hP 1 0 rfl rfl hi dX5_take_72 ?_
      obtain ⟨rv1, hrv1, hf⟩ := bd hf
      refine roI (va_runS (As := [.int (t_by t_nx.toNatClampNeg)]) (rest := [.ref t0]) ⟨hx, hb, hml, hown, hts⟩ (c_X5_kindOf l D cI cZ cM (t_by t_nx.toNatClampNeg) rv1 hrv1) (va_cwS 1 hts gX5_take_X5_kindOf rfl rfl rfl hdc_X5_kindOf ⟨Nat.le_of_ble_eq_true rfl, Nat.le_of_ble_eq_true rfl⟩) (prS hK hP [] rfl) rfl rfl hl.1 rfl (lv_room (Nat.le_of_ble_eq_true rfl)) dX5_take_73 ⟨Nat.zero_le _, Nat.zero_le _⟩) ?_
      refine va_put (D := D) (ci := 5) (v := .int rv1) (ty := .int) (C := RX5) (T := TX5) (N := 5) hx hb hts hiX5 tyX5 tyX5_ok nmX5 hown hK.1 hP hD hS 0 rfl rfl 3 (by decide) hfl_21 (fun _ h9 => h9) rfl (tyX5_ok 3 (by decide)) rfl rfl (Nat.le_of_ble_eq_true rfl) dX5_take_76 (fun H locs hP hD hS => ?_)
      have hP : va_P D vwCl [(t0, .inr (5, [.int t_len, .int t_nx, .int t_nx, .int rv1, .ref t1])), (t1, .inl (cI, 200, .inl t_by))] H := hP
      have hD : va_D A [(t0, .inr (5, [.int t_len, .int t_nx, .int t_nx, .int rv1, .ref t1])), (t1, .inl (cI, 200, .inl t_by))] := hD
      refine lv_aload_n hx hb dX5_take_79 rfl (lv_at hl 0 rfl) ?_
      refine lv_dup hx hb dX5_take_80 rfl ?_
      refine va_get (D := D) (ci := 5) (v := .int t_nx) (C := RX5) (T := TX5) (N := 5) hx hb hts hiX5 hown hK.1 hP 0 rfl rfl 2 (by decide) hfl_18 (fun _ h9 => h9) rfl dX5_take_81 ?_
      refine lv_iconst (v := (nI 1)) hx hb dX5_take_84 ic_1 ?_
      refine lv_iadd hx hb dX5_take_85 ?_
      refine va_put (D := D) (ci := 5) (v := .int (t_nx + (nI 1))) (ty := .int) (C := RX5) (T := TX5) (N := 5) hx hb hts hiX5 tyX5 tyX5_ok nmX5 hown hK.1 hP hD hS 0 rfl rfl 2 (by decide) hfl_18 (fun _ h9 => h9) rfl (tyX5_ok 2 (by decide)) rfl rfl (Nat.le_of_ble_eq_true rfl) dX5_take_86 (fun H locs hP hD hS => ?_)
      have hP : va_P D vwCl [(t0, .inr (5, [.int t_len, .int t_nx, .int (t_nx + (nI 1)), .int rv1, .ref t1])), (t1, .inl (cI, 200, .inl t_by))] H := hP
      have hD : va_D A [(t0, .inr (5, [.int t_len, .int t_nx, .int (t_nx + (nI 1)), .int rv1, .ref t1])), (t1, .inl (cI, 200, .inl t_by))] := hD
      exact hB_89 t_nx rv1 fu (t_nx + (nI 1)) hf _ _ hP hD hS ls hl
    · have hf := ifn hc hf
      refine lv_aload_n hx hb dX5_take_57 rfl (lv_at hl 0 rfl) ?_
      refine lv_iconst (v := (nI 0)) hx hb dX5_take_58 ic_0 ?_
      refine va_put (D := D) (ci := 5) (v := .int (nI 0)) (ty := .int) (C := RX5) (T := TX5) (N := 5) hx hb hts hiX5 tyX5 tyX5_ok nmX5 hown hK.1 hP hD hS 0 rfl rfl 3 (by decide) hfl_21 (fun _ h9 => h9) rfl (tyX5_ok 3 (by decide)) rfl rfl (Nat.le_of_ble_eq_true rfl) dX5_take_59 (fun H locs hP hD hS => ?_)
      have hP : va_P D vwCl [(t0, .inr (5, [.int t_len, .int t_nx, .int t_nx, .int (nI 0), .ref t1])), (t1, .inl (cI, 200, .inl t_by))] H := hP
      have hD : va_D A [(t0, .inr (5, [.int t_len, .int t_nx, .int t_nx, .int (nI 0), .ref t1])), (t1, .inl (cI, 200, .inl t_by))] := hD
      cases hf
      exact W.vret hx hb hr (fun t ht _ => ⟨⟨rfl, by rw [ht]; exact hP, hD⟩, hS.F ht⟩) hS.2.2 dX5_take_62
  have hB_0 : ∀ (fn : Nat) (t_nx : Int32), m_X5_take_0 fu t_len t_by fn t_nx = some (t_st', t_nx', t_kd') → ∀ (H : Heap) (locs : List Loc), va_P D vwCl [(t0, .inr (5, [.int t_len, .int t_st, .int t_nx, .int t_kd, .ref t1])), (t1, .inl (cI, 200, .inl t_by))] H → va_D A [(t0, .inr (5, [.int t_len, .int t_st, .int t_nx, .int t_kd, .ref t1])), (t1, .inl (cI, 200, .inl t_by))] → va_S A s.heap H locs → ∀ ls : Array Slot, lv_has ls 1 [(0, .ref t0)] → W p l e (headSpec wsX5_take { frames := 1, cells := 0, slots := 0, locals := 20 }).room s m ([.ref t0] : List Value).toArray below meth c H locs 0 0 (MQ below (qV D [(t0, .inr (5, [.int t_len, .int t_st', .int t_nx', .int t_kd', .ref t1])), (t1, .inl (cI, 200, .inl t_by))] A) ([.ref t0] : List Value).toArray s 0 0 A) (F0 m 0 ls []) := by
    intro fn
    induction fn with
    | zero => intro t_nx hf; rw [m_X5_take_0] at hf; cases hf
    | succ fn ih =>
      intro t_nx hf H locs hP hD hS ls hl
      rw [m_X5_take_0] at hf
      refine lv_aload_n hx hb dX5_take_0 rfl (lv_at hl 0 rfl) ?_
      refine va_get (D := D) (ci := 5) (v := .int t_nx) (C := RX5) (T := TX5) (N := 5) hx hb hts hiX5 hown hK.1 hP 0 rfl rfl 2 (by decide) hfl_18 (fun _ h9 => h9) rfl dX5_take_1 ?_
      refine lv_aload_n hx hb dX5_take_4 rfl (lv_at hl 0 rfl) ?_
      refine va_get (D := D) (ci := 5) (v := .int t_len) (C := RX5) (T := TX5) (N := 5) hx hb hts hiX5 hown hK.1 hP 0 rfl rfl 0 (by decide) hfl_9 (fun _ h9 => h9) rfl dX5_take_5 ?_
      refine lv_icmp_ge (tgt := 38) hx hb dX5_take_8 (by decide) (fun hc => ?_) (fun hc => ?_)
      · have hf := ifp hc hf
        exact hB_38 t_nx hf _ _ hP hD hS ls hl
      · have hf := ifn hc hf
        refine lv_aload_n hx hb dX5_take_11 rfl (lv_at hl 0 rfl) ?_
        refine va_get (D := D) (ci := 5) (v := .ref t1) (C := RX5) (T := TX5) (N := 5) hx hb hts hiX5 hown hK.1 hP 0 rfl rfl 4 (by decide) hfl_24 (fun _ h9 => h9) rfl dX5_take_12 ?_
        refine lv_aload_n hx hb dX5_take_15 rfl (lv_at hl 0 rfl) ?_
        refine va_get (D := D) (ci := 5) (v := .int t_nx) (C := RX5) (T := TX5) (N := 5) hx hb hts hiX5 hown hK.1 hP 0 rfl rfl 2 (by decide) hfl_18 (fun _ h9 => h9) rfl dX5_take_16 ?_
        obtain ⟨hi, hf⟩ := gd_some hf
        refine va_iald hx hb hK.1 hP 1 0 rfl rfl hi dX5_take_19 ?_
        refine lv_bipush (v := (nI 32)) hx hb dX5_take_20 bp_32 ?_
        refine lv_icmp_ne (tgt := 38) hx hb dX5_take_22 (by decide) (fun hc => ?_) (fun hc => ?_)
        · have hf := ifn hc hf
          exact hB_38 t_nx hf _ _ hP hD hS ls hl
        · have hf := ifp hc hf
          refine lv_aload_n hx hb dX5_take_25 rfl (lv_at hl 0 rfl) ?_
          refine lv_dup hx hb dX5_take_26 rfl ?_
          refine va_get (D := D) (ci := 5) (v := .int t_nx) (C := RX5) (T := TX5) (N := 5) hx hb hts hiX5 hown hK.1 hP 0 rfl rfl 2 (by decide) hfl_18 (fun _ h9 => h9) rfl dX5_take_27 ?_
          refine lv_iconst (v := (nI 1)) hx hb dX5_take_30 ic_1 ?_
          refine lv_iadd hx hb dX5_take_31 ?_
          refine va_put (D := D) (ci := 5) (v := .int (t_nx + (nI 1))) (ty := .int) (C := RX5) (T := TX5) (N := 5) hx hb hts hiX5 tyX5 tyX5_ok nmX5 hown hK.1 hP hD hS 0 rfl rfl 2 (by decide) hfl_18 (fun _ h9 => h9) rfl (tyX5_ok 2 (by decide)) rfl rfl (Nat.le_of_ble_eq_true rfl) dX5_take_32 (fun H locs hP hD hS => ?_)
          have hP : va_P D vwCl [(t0, .inr (5, [.int t_len, .int t_st, .int (t_nx + (nI 1)), .int t_kd, .ref t1])), (t1, .inl (cI, 200, .inl t_by))] H := hP
          have hD : va_D A [(t0, .inr (5, [.int t_len, .int t_st, .int (t_nx + (nI 1)), .int t_kd, .ref t1])), (t1, .inl (cI, 200, .inl t_by))] := hD
          refine lv_goto (tgt := 0) hx hb dX5_take_35 (by decide) ?_
          exact ih (t_nx + (nI 1)) hf _ _ hP hD hS ls hl
  have hl := lv_entry ([.ref t0]) (n := 1) (Nat.le_of_ble_eq_true rfl)
  rw [lg_entry_eq]
  generalize (lg_sl ([.ref t0]) ++ List.replicate (1 - (lg_sl ([.ref t0])).length) Slot.unset).toArray = ls at hl ⊢
  have hl : lv_has ls 1 [(0, .ref t0)] := hl
  have hS : va_S A s.heap s.heap [] := va_S.rf
  unfold m_X5_take at hf
  refine lv_aload_n hx hb dX5_take_0 rfl (lv_at hl 0 rfl) ?_
  refine va_get (D := D) (ci := 5) (v := .int t_nx) (C := RX5) (T := TX5) (N := 5) hx hb hts hiX5 hown hK.1 hP 0 rfl rfl 2 (by decide) hfl_18 (fun _ h9 => h9) rfl dX5_take_1 ?_
  refine lv_aload_n hx hb dX5_take_4 rfl (lv_at hl 0 rfl) ?_
  refine va_get (D := D) (ci := 5) (v := .int t_len) (C := RX5) (T := TX5) (N := 5) hx hb hts hiX5 hown hK.1 hP 0 rfl rfl 0 (by decide) hfl_9 (fun _ h9 => h9) rfl dX5_take_5 ?_
  refine lv_icmp_ge (tgt := 38) hx hb dX5_take_8 (by decide) (fun hc => ?_) (fun hc => ?_)
  · have hf := ifp hc hf
    exact hB_38 t_nx hf _ _ hP hD hS ls hl
  · have hf := ifn hc hf
    refine lv_aload_n hx hb dX5_take_11 rfl (lv_at hl 0 rfl) ?_
    refine va_get (D := D) (ci := 5) (v := .ref t1) (C := RX5) (T := TX5) (N := 5) hx hb hts hiX5 hown hK.1 hP 0 rfl rfl 4 (by decide) hfl_24 (fun _ h9 => h9) rfl dX5_take_12 ?_
    refine lv_aload_n hx hb dX5_take_15 rfl (lv_at hl 0 rfl) ?_
    refine va_get (D := D) (ci := 5) (v := .int t_nx) (C := RX5) (T := TX5) (N := 5) hx hb hts hiX5 hown hK.1 hP 0 rfl rfl 2 (by decide) hfl_18 (fun _ h9 => h9) rfl dX5_take_16 ?_
    obtain ⟨hi, hf⟩ := gd_some hf
    refine va_iald hx hb hK.1 hP 1 0 rfl rfl hi dX5_take_19 ?_
    refine lv_bipush (v := (nI 32)) hx hb dX5_take_20 bp_32 ?_
    refine lv_icmp_ne (tgt := 38) hx hb dX5_take_22 (by decide) (fun hc => ?_) (fun hc => ?_)
    · have hf := ifn hc hf
      exact hB_38 t_nx hf _ _ hP hD hS ls hl
    · have hf := ifp hc hf
      refine lv_aload_n hx hb dX5_take_25 rfl (lv_at hl 0 rfl) ?_
      refine lv_dup hx hb dX5_take_26 rfl ?_
      refine va_get (D := D) (ci := 5) (v := .int t_nx) (C := RX5) (T := TX5) (N := 5) hx hb hts hiX5 hown hK.1 hP 0 rfl rfl 2 (by decide) hfl_18 (fun _ h9 => h9) rfl dX5_take_27 ?_
      refine lv_iconst (v := (nI 1)) hx hb dX5_take_30 ic_1 ?_
      refine lv_iadd hx hb dX5_take_31 ?_
      refine va_put (D := D) (ci := 5) (v := .int (t_nx + (nI 1))) (ty := .int) (C := RX5) (T := TX5) (N := 5) hx hb hts hiX5 tyX5 tyX5_ok nmX5 hown hK.1 hP hD hS 0 rfl rfl 2 (by decide) hfl_18 (fun _ h9 => h9) rfl (tyX5_ok 2 (by decide)) rfl rfl (Nat.le_of_ble_eq_true rfl) dX5_take_32 (fun H locs hP hD hS => ?_)
      have hP : va_P D vwCl [(t0, .inr (5, [.int t_len, .int t_st, .int (t_nx + (nI 1)), .int t_kd, .ref t1])), (t1, .inl (cI, 200, .inl t_by))] H := hP
      have hD : va_D A [(t0, .inr (5, [.int t_len, .int t_st, .int (t_nx + (nI 1)), .int t_kd, .ref t1])), (t1, .inl (cI, 200, .inl t_by))] := hD
      refine lv_goto (tgt := 0) hx hb dX5_take_35 (by decide) ?_
      exact hB_0 fu (t_nx + (nI 1)) hf _ _ hP hD hS ls hl
theorem hdc_X5_isWord : yX5_isWord.cls ≠ "java/lang/invoke/MethodHandle" ∧ yX5_isWord.cls ≠ "java/lang/invoke/VarHandle" ∧ (parseMethodDescriptor yX5_isWord.desc).map (fun d => d.parameters.length) = some 1 := by decide +kernel
set_option maxHeartbeats 4000000 in
set_option maxRecDepth 100000 in
theorem c_X5_isWord (l : Launch) (D : va_G) (cI cZ cM : ClassId) (t0 t1 : Nat) (s0 sv : Nat) (s_wl : Nat) (s_wc : Nat → Int32) (hwl : s_wl < 2 ^ 31) (hch : ∀ j, j < s_wl → (((s_wc j) &&& 255).toUInt32 % 65536).toInt32 = s_wc j ∧ narrow .char (.int (s_wc j)) = .int (s_wc j)) (t_len : Int32) (t_st : Int32) (t_nx : Int32) (t_kd : Int32) (t_by : Nat → Int32) (fu : Nat) (r : Int32) (hf : m_X5_isWord fu t_st t_nx t_kd t_by s_wl s_wc = some r) : Met l yX5_isWord wsX5_isWord ({ frames := 4, cells := 0, slots := 0, locals := 85 }) (pRs D cI cZ cM [(t0, .inr (5, [.int t_len, .int t_st, .int t_nx, .int t_kd, .ref t1])), (t1, .inl (cI, 200, .inl t_by))] s0 sv s_wl s_wc [.ref t0, .ref s0]) (qR r) 0 0 (fun _ => False) := by
  refine Met.ofW (cc := cX5_isWord) (maxL := 3) (ret := (some .boolean)) (by decide) rfl ?_
  intro p e s m args below meth c s₁ B hml hv
  obtain ⟨rfl, hP, hK, hE⟩ := hv
  have hx := B.exec
  have hb := B.bytes
  have hr := B.returns
  have hts := atoms_spec (ws := wsX5_isWord) B.pre
  have hown : s.vm.findClass RX5 = some m.cls := findClass_of_methodNamed B.named
  have hlocks := B.notSynchronized
  have hfl_15 := hts (.fieldLink RX5 15 "TermsFirst$Text" "start" "I") (List.mem_cons_of_mem _ (List.mem_append_left _ (List.mem_append_left _ (List.mem_of_getElem? (i := 2) rfl))))
  have hfl_18 := hts (.fieldLink RX5 18 "TermsFirst$Text" "next" "I") (List.mem_cons_of_mem _ (List.mem_append_left _ (List.mem_append_left _ (List.mem_of_getElem? (i := 1) rfl))))
  have hfl_21 := hts (.fieldLink RX5 21 "TermsFirst$Text" "kind" "I") (List.mem_cons_of_mem _ (List.mem_append_left _ (List.mem_append_left _ (List.mem_of_getElem? (i := 0) rfl))))
  have hfl_24 := hts (.fieldLink RX5 24 "TermsFirst$Text" "bytes" "[I") (List.mem_cons_of_mem _ (List.mem_append_left _ (List.mem_append_left _ (List.mem_of_getElem? (i := 3) rfl))))
  have hiX5 : ∀ w ∈ u_ws RX5 TX5 5, w ∈ wsX5_isWord := fun _ h => (List.mem_cons_of_mem _ (List.mem_append_right _ h))
  have hB_28 : ∀ (fn : Nat) (x2 : Int32), m_X5_isWord_28 t_st t_by s_wc s_wl fn x2 = some r → ∀ ls : Array Slot, lv_has ls 3 [(0, .ref t0), (1, .ref s0), (2, .int x2)] → W p l e (headSpec wsX5_isWord { frames := 4, cells := 0, slots := 0, locals := 85 }).room s m ([.ref t0, .ref s0] : List Value).toArray below meth c s.heap [] 0 0 (MQ below (qR r) ([.ref t0, .ref s0] : List Value).toArray s 0 0 (fun _ => False)) (F0 m 28 ls []) := by
    intro fn
    induction fn with
    | zero => intro x2 hf; rw [m_X5_isWord_28] at hf; cases hf
    | succ fn ih =>
      intro x2 hf ls hl
      rw [m_X5_isWord_28] at hf
      refine lv_iload_n hx hb dX5_isWord_28 rfl (lv_at hl 2 rfl) ?_
      refine lv_aload_n hx hb dX5_isWord_29 rfl (lv_at hl 1 rfl) ?_
      refine roI (va_runV (As := []) (rest := [.int x2]) ⟨hx, hb, hml, hown, hts⟩ (c_J0_length l s0 sv s_wl s_wc) (cwV 0 hts gX5_isWord_J0_length_8abf5 rfl rfl rfl ⟨rfl, hdc_J0_length⟩ ⟨Nat.le_of_ble_eq_true rfl, Nat.le_of_ble_eq_true rfl⟩) (psV hE) rfl rfl hl.1 rfl (lv_room (Nat.le_of_ble_eq_true rfl)) dX5_isWord_30 ⟨Nat.zero_le _, Nat.zero_le _⟩) ?_
      refine lv_icmp_ge (tgt := 63) hx hb dX5_isWord_33 (by decide) (fun hc => ?_) (fun hc => ?_)
      · have hf := ifp hc hf
        refine lv_iconst (v := (nI 1)) hx hb dX5_isWord_63 ic_1 ?_
        cases hf
        exact W.zret hx hb hr zbl_1.1 (fun t ht _ => ⟨rfl, ht⟩) (fun _ h => nomatch h) dX5_isWord_64
      · have hf := ifn hc hf
        refine lv_aload_n hx hb dX5_isWord_36 rfl (lv_at hl 0 rfl) ?_
        refine va_get (D := D) (ci := 5) (v := .ref t1) (C := RX5) (T := TX5) (N := 5) hx hb hts hiX5 hown hK.1 hP 0 rfl rfl 4 (by decide) hfl_24 (fun _ h9 => h9) rfl dX5_isWord_37 ?_
        refine lv_aload_n hx hb dX5_isWord_40 rfl (lv_at hl 0 rfl) ?_
        refine va_get (D := D) (ci := 5) (v := .int t_st) (C := RX5) (T := TX5) (N := 5) hx hb hts hiX5 hown hK.1 hP 0 rfl rfl 1 (by decide) hfl_15 (fun _ h9 => h9) rfl dX5_isWord_41 ?_
        refine lv_iload_n hx hb dX5_isWord_44 rfl (lv_at hl 2 rfl) ?_
        refine lv_iadd hx hb dX5_isWord_45 ?_
        obtain ⟨hi, hf⟩ := gd_some hf
        refine va_iald hx hb hK.1 hP 1 0 rfl rfl hi dX5_isWord_46 ?_
        refine lv_aload_n hx hb dX5_isWord_47 rfl (lv_at hl 1 rfl) ?_
        refine lv_iload_n hx hb dX5_isWord_48 rfl (lv_at hl 2 rfl) ?_
        obtain ⟨hi, hf⟩ := gd_some hf
        refine roI (va_runV (As := [.int x2]) (rest := [.int (t_by (t_st + x2).toNatClampNeg)]) ⟨hx, hb, hml, hown, hts⟩ (c_J0_charAt l s0 sv s_wl s_wc x2 (s_wc x2.toNatClampNeg) hi hwl (hch _ (ixN hi)).1 (hch _ (ixN hi)).2) (cwV 1 hts gX5_isWord_J0_charAt_5068e rfl rfl rfl ⟨rfl, hdc_J0_charAt⟩ ⟨Nat.le_of_ble_eq_true rfl, Nat.le_of_ble_eq_true rfl⟩) (psV hE) rfl rfl hl.1 rfl (lv_room (Nat.le_of_ble_eq_true rfl)) dX5_isWord_49 ⟨Nat.zero_le _, Nat.zero_le _⟩) ?_
        refine lv_icmp_eq (tgt := 57) hx hb dX5_isWord_52 (by decide) (fun hc => ?_) (fun hc => ?_)
        · have hf := ifp hc hf
          refine lv_iinc (v := (x2 + (nI 1))) (lv' := [(2, .int (x2 + (nI 1))), (0, .ref t0), (1, .ref s0)]) hx hb dX5_isWord_57 hl (k := 2) rfl (ii_1 _) (by decide) rfl (fun ls hl => ?_)
          refine lv_goto (tgt := 28) hx hb dX5_isWord_60 (by decide) ?_
          exact ih (x2 + (nI 1)) hf  ls (lv_sub hl [1, 2, 0] rfl)
        · have hf := ifn hc hf
          refine lv_iconst (v := (nI 0)) hx hb dX5_isWord_55 ic_0 ?_
          cases hf
          exact W.zret hx hb hr zbl_0.1 (fun t ht _ => ⟨rfl, ht⟩) (fun _ h => nomatch h) dX5_isWord_56
  have hl := lv_entry ([.ref t0, .ref s0]) (n := 3) (Nat.le_of_ble_eq_true rfl)
  rw [lg_entry_eq]
  generalize (lg_sl ([.ref t0, .ref s0]) ++ List.replicate (3 - (lg_sl ([.ref t0, .ref s0])).length) Slot.unset).toArray = ls at hl ⊢
  have hl : lv_has ls 3 [(0, .ref t0), (1, .ref s0)] := hl
  unfold m_X5_isWord at hf
  refine lv_aload_n hx hb dX5_isWord_0 rfl (lv_at hl 0 rfl) ?_
  refine va_get (D := D) (ci := 5) (v := .int t_kd) (C := RX5) (T := TX5) (N := 5) hx hb hts hiX5 hown hK.1 hP 0 rfl rfl 3 (by decide) hfl_21 (fun _ h9 => h9) rfl dX5_isWord_1 ?_
  refine lv_iconst (v := (nI 1)) hx hb dX5_isWord_4 ic_1 ?_
  refine lv_icmp_ne (tgt := 24) hx hb dX5_isWord_5 (by decide) (fun hc => ?_) (fun hc => ?_)
  · have hf := ifn hc hf
    refine lv_iconst (v := (nI 0)) hx hb dX5_isWord_24 ic_0 ?_
    cases hf
    exact W.zret hx hb hr zbl_0.1 (fun t ht _ => ⟨rfl, ht⟩) (fun _ h => nomatch h) dX5_isWord_25
  · have hf := ifp hc hf
    refine lv_aload_n hx hb dX5_isWord_8 rfl (lv_at hl 0 rfl) ?_
    refine va_get (D := D) (ci := 5) (v := .int t_nx) (C := RX5) (T := TX5) (N := 5) hx hb hts hiX5 hown hK.1 hP 0 rfl rfl 2 (by decide) hfl_18 (fun _ h9 => h9) rfl dX5_isWord_9 ?_
    refine lv_aload_n hx hb dX5_isWord_12 rfl (lv_at hl 0 rfl) ?_
    refine va_get (D := D) (ci := 5) (v := .int t_st) (C := RX5) (T := TX5) (N := 5) hx hb hts hiX5 hown hK.1 hP 0 rfl rfl 1 (by decide) hfl_15 (fun _ h9 => h9) rfl dX5_isWord_13 ?_
    refine lv_isub hx hb dX5_isWord_16 ?_
    refine lv_aload_n hx hb dX5_isWord_17 rfl (lv_at hl 1 rfl) ?_
    refine roI (va_runV (As := []) (rest := [.int (t_nx - t_st)]) ⟨hx, hb, hml, hown, hts⟩ (c_J0_length l s0 sv s_wl s_wc) (cwV 0 hts gX5_isWord_J0_length_8abf5 rfl rfl rfl ⟨rfl, hdc_J0_length⟩ ⟨Nat.le_of_ble_eq_true rfl, Nat.le_of_ble_eq_true rfl⟩) (psV hE) rfl rfl hl.1 rfl (lv_room (Nat.le_of_ble_eq_true rfl)) dX5_isWord_18 ⟨Nat.zero_le _, Nat.zero_le _⟩) ?_
    refine lv_icmp_eq (tgt := 26) hx hb dX5_isWord_21 (by decide) (fun hc => ?_) (fun hc => ?_)
    · have hf := ifp hc hf
      refine lv_iconst (v := (nI 0)) hx hb dX5_isWord_26 ic_0 ?_
      refine lv_istore_n (lv' := [(2, .int (nI 0)), (0, .ref t0), (1, .ref s0)]) hx hb dX5_isWord_27 rfl hl (by decide) rfl (fun ls hl => ?_)
      exact hB_28 fu (nI 0) hf  ls (lv_sub hl [1, 2, 0] rfl)
    · have hf := ifn hc hf
      refine lv_iconst (v := (nI 0)) hx hb dX5_isWord_24 ic_0 ?_
      cases hf
      exact W.zret hx hb hr zbl_0.1 (fun t ht _ => ⟨rfl, ht⟩) (fun _ h => nomatch h) dX5_isWord_25
theorem hdc_X5_asNumber : yX5_asNumber.cls ≠ "java/lang/invoke/MethodHandle" ∧ yX5_asNumber.cls ≠ "java/lang/invoke/VarHandle" ∧ (parseMethodDescriptor yX5_asNumber.desc).map (fun d => d.parameters.length) = some 2 := by decide +kernel
set_option maxHeartbeats 4000000 in
set_option maxRecDepth 100000 in
theorem c_X5_asNumber (l : Launch) (D : va_G) (cI cZ cM : ClassId) (t0 t1 : Nat) (t_len : Int32) (t_st : Int32) (t_nx : Int32) (t_kd : Int32) (t_by : Nat → Int32) (x1 : Int32) (x2 : Int32) (fu : Nat) (r : Int32) (hf : m_X5_asNumber fu t_st t_nx t_kd t_by x1 x2 = some r) : Met l yX5_asNumber wsX5_asNumber ({ frames := 0, cells := 0, slots := 0, locals := 0 }) (pR D cI cZ cM [(t0, .inr (5, [.int t_len, .int t_st, .int t_nx, .int t_kd, .ref t1])), (t1, .inl (cI, 200, .inl t_by))] [.ref t0, .int x1, .int x2]) (qR r) 0 0 (fun _ => False) := by
  refine Met.ofW (cc := cX5_asNumber) (maxL := 5) (ret := (some .int)) (by decide) rfl ?_
  intro p e s m args below meth c s₁ B hml hv
  obtain ⟨rfl, hP, hK⟩ := hv
  have hx := B.exec
  have hb := B.bytes
  have hr := B.returns
  have hts := atoms_spec (ws := wsX5_asNumber) B.pre
  have hown : s.vm.findClass RX5 = some m.cls := findClass_of_methodNamed B.named
  have hlocks := B.notSynchronized
  have hfl_15 := hts (.fieldLink RX5 15 "TermsFirst$Text" "start" "I") (List.mem_cons_of_mem _ (List.mem_append_left _ (List.mem_of_getElem? (i := 2) rfl)))
  have hfl_18 := hts (.fieldLink RX5 18 "TermsFirst$Text" "next" "I") (List.mem_cons_of_mem _ (List.mem_append_left _ (List.mem_of_getElem? (i := 1) rfl)))
  have hfl_21 := hts (.fieldLink RX5 21 "TermsFirst$Text" "kind" "I") (List.mem_cons_of_mem _ (List.mem_append_left _ (List.mem_of_getElem? (i := 0) rfl)))
  have hfl_24 := hts (.fieldLink RX5 24 "TermsFirst$Text" "bytes" "[I") (List.mem_cons_of_mem _ (List.mem_append_left _ (List.mem_of_getElem? (i := 3) rfl)))
  have hiX5 : ∀ w ∈ u_ws RX5 TX5 5, w ∈ wsX5_asNumber := fun _ h => (List.mem_cons_of_mem _ (List.mem_append_right _ h))
  have hB_31 : ∀ (fn : Nat) (x3 : Int32) (x4 : Int32), m_X5_asNumber_31 t_nx t_by x1 x2 fn x3 x4 = some r → ∀ ls : Array Slot, lv_has ls 5 [(0, .ref t0), (1, .int x1), (2, .int x2), (3, .int x3), (4, .int x4)] → W p l e (headSpec wsX5_asNumber { frames := 0, cells := 0, slots := 0, locals := 0 }).room s m ([.ref t0, .int x1, .int x2] : List Value).toArray below meth c s.heap [] 0 0 (MQ below (qR r) ([.ref t0, .int x1, .int x2] : List Value).toArray s 0 0 (fun _ => False)) (F0 m 31 ls []) := by
    intro fn
    induction fn with
    | zero => intro x3 x4 hf; rw [m_X5_asNumber_31] at hf; cases hf
    | succ fn ih =>
      intro x3 x4 hf ls hl
      rw [m_X5_asNumber_31] at hf
      refine lv_iload hx hb dX5_asNumber_31 (lv_at hl 4 rfl) ?_
      refine lv_aload_n hx hb dX5_asNumber_33 rfl (lv_at hl 0 rfl) ?_
      refine va_get (D := D) (ci := 5) (v := .int t_nx) (C := RX5) (T := TX5) (N := 5) hx hb hts hiX5 hown hK.1 hP 0 rfl rfl 2 (by decide) hfl_18 (fun _ h9 => h9) rfl dX5_asNumber_34 ?_
      refine lv_icmp_ge (tgt := 62) hx hb dX5_asNumber_37 (by decide) (fun hc => ?_) (fun hc => ?_)
      · have hf := ifp hc hf
        refine lv_iload_n hx hb dX5_asNumber_62 rfl (lv_at hl 3 rfl) ?_
        refine lv_iload_n hx hb dX5_asNumber_63 rfl (lv_at hl 1 rfl) ?_
        refine lv_icmp_lt (tgt := 72) hx hb dX5_asNumber_64 (by decide) (fun hc => ?_) (fun hc => ?_)
        · have hf := ifp hc hf
          refine lv_iconst (v := (-1 : Int32)) hx hb dX5_asNumber_72 ic_m1 ?_
          refine lv_goto (tgt := 77) hx hb dX5_asNumber_73 (by decide) ?_
          cases hf
          exact W.iret hx hb hr (fun t ht _ => ⟨rfl, ht⟩) (fun _ h => nomatch h) dX5_asNumber_77
        · have hf := ifn hc hf
          refine lv_iload_n hx hb dX5_asNumber_67 rfl (lv_at hl 3 rfl) ?_
          refine lv_iload_n hx hb dX5_asNumber_68 rfl (lv_at hl 2 rfl) ?_
          refine lv_icmp_le (tgt := 76) hx hb dX5_asNumber_69 (by decide) (fun hc => ?_) (fun hc => ?_)
          · have hf := ifp hc hf
            refine lv_iload_n hx hb dX5_asNumber_76 rfl (lv_at hl 3 rfl) ?_
            cases hf
            exact W.iret hx hb hr (fun t ht _ => ⟨rfl, ht⟩) (fun _ h => nomatch h) dX5_asNumber_77
          · have hf := ifn hc hf
            refine lv_iconst (v := (-1 : Int32)) hx hb dX5_asNumber_72 ic_m1 ?_
            refine lv_goto (tgt := 77) hx hb dX5_asNumber_73 (by decide) ?_
            cases hf
            exact W.iret hx hb hr (fun t ht _ => ⟨rfl, ht⟩) (fun _ h => nomatch h) dX5_asNumber_77
      · have hf := ifn hc hf
        refine lv_iload_n hx hb dX5_asNumber_40 rfl (lv_at hl 3 rfl) ?_
        refine lv_bipush (v := (nI 10)) hx hb dX5_asNumber_41 bp_10 ?_
        refine lv_imul hx hb dX5_asNumber_43 ?_
        refine lv_aload_n hx hb dX5_asNumber_44 rfl (lv_at hl 0 rfl) ?_
        refine va_get (D := D) (ci := 5) (v := .ref t1) (C := RX5) (T := TX5) (N := 5) hx hb hts hiX5 hown hK.1 hP 0 rfl rfl 4 (by decide) hfl_24 (fun _ h9 => h9) rfl dX5_asNumber_45 ?_
        refine lv_iload hx hb dX5_asNumber_48 (lv_at hl 4 rfl) ?_
        obtain ⟨hi, hf⟩ := gd_some hf
        refine va_iald hx hb hK.1 hP 1 0 rfl rfl hi dX5_asNumber_50 ?_
        refine lv_iadd hx hb dX5_asNumber_51 ?_
        refine lv_bipush (v := (nI 48)) hx hb dX5_asNumber_52 bp_48 ?_
        refine lv_isub hx hb dX5_asNumber_54 ?_
        refine lv_istore_n (lv' := [(3, .int (((x3 * (nI 10)) + (t_by x4.toNatClampNeg)) - (nI 48))), (0, .ref t0), (1, .int x1), (2, .int x2), (4, .int x4)]) hx hb dX5_asNumber_55 rfl hl (by decide) rfl (fun ls hl => ?_)
        refine lv_iinc (v := (x4 + (nI 1))) (lv' := [(4, .int (x4 + (nI 1))), (3, .int (((x3 * (nI 10)) + (t_by x4.toNatClampNeg)) - (nI 48))), (0, .ref t0), (1, .int x1), (2, .int x2)]) hx hb dX5_asNumber_56 hl (k := 4) rfl (ii_1 _) (by decide) rfl (fun ls hl => ?_)
        refine lv_goto (tgt := 31) hx hb dX5_asNumber_59 (by decide) ?_
        exact ih (((x3 * (nI 10)) + (t_by x4.toNatClampNeg)) - (nI 48)) (x4 + (nI 1)) hf  ls (lv_sub hl [2, 3, 4, 1, 0] rfl)
  have hl := lv_entry ([.ref t0, .int x1, .int x2]) (n := 5) (Nat.le_of_ble_eq_true rfl)
  rw [lg_entry_eq]
  generalize (lg_sl ([.ref t0, .int x1, .int x2]) ++ List.replicate (5 - (lg_sl ([.ref t0, .int x1, .int x2])).length) Slot.unset).toArray = ls at hl ⊢
  have hl : lv_has ls 5 [(0, .ref t0), (1, .int x1), (2, .int x2)] := hl
  unfold m_X5_asNumber at hf
  refine lv_aload_n hx hb dX5_asNumber_0 rfl (lv_at hl 0 rfl) ?_
  refine va_get (D := D) (ci := 5) (v := .int t_kd) (C := RX5) (T := TX5) (N := 5) hx hb hts hiX5 hown hK.1 hP 0 rfl rfl 3 (by decide) hfl_21 (fun _ h9 => h9) rfl dX5_asNumber_1 ?_
  refine lv_iconst (v := (nI 2)) hx hb dX5_asNumber_4 ic_2 ?_
  refine lv_icmp_ne (tgt := 21) hx hb dX5_asNumber_5 (by decide) (fun hc => ?_) (fun hc => ?_)
  · have hf := ifn hc hf
    refine lv_iconst (v := (-1 : Int32)) hx hb dX5_asNumber_21 ic_m1 ?_
    cases hf
    exact W.iret hx hb hr (fun t ht _ => ⟨rfl, ht⟩) (fun _ h => nomatch h) dX5_asNumber_22
  · have hf := ifp hc hf
    refine lv_aload_n hx hb dX5_asNumber_8 rfl (lv_at hl 0 rfl) ?_
    refine va_get (D := D) (ci := 5) (v := .int t_nx) (C := RX5) (T := TX5) (N := 5) hx hb hts hiX5 hown hK.1 hP 0 rfl rfl 2 (by decide) hfl_18 (fun _ h9 => h9) rfl dX5_asNumber_9 ?_
    refine lv_aload_n hx hb dX5_asNumber_12 rfl (lv_at hl 0 rfl) ?_
    refine va_get (D := D) (ci := 5) (v := .int t_st) (C := RX5) (T := TX5) (N := 5) hx hb hts hiX5 hown hK.1 hP 0 rfl rfl 1 (by decide) hfl_15 (fun _ h9 => h9) rfl dX5_asNumber_13 ?_
    refine lv_isub hx hb dX5_asNumber_16 ?_
    refine lv_iconst (v := (nI 2)) hx hb dX5_asNumber_17 ic_2 ?_
    refine lv_icmp_le (tgt := 23) hx hb dX5_asNumber_18 (by decide) (fun hc => ?_) (fun hc => ?_)
    · have hf := ifp hc hf
      refine lv_iconst (v := (nI 0)) hx hb dX5_asNumber_23 ic_0 ?_
      refine lv_istore_n (lv' := [(3, .int (nI 0)), (0, .ref t0), (1, .int x1), (2, .int x2)]) hx hb dX5_asNumber_24 rfl hl (by decide) rfl (fun ls hl => ?_)
      refine lv_aload_n hx hb dX5_asNumber_25 rfl (lv_at hl 1 rfl) ?_
      refine va_get (D := D) (ci := 5) (v := .int t_st) (C := RX5) (T := TX5) (N := 5) hx hb hts hiX5 hown hK.1 hP 0 rfl rfl 1 (by decide) hfl_15 (fun _ h9 => h9) rfl dX5_asNumber_26 ?_
      refine lv_istore (lv' := [(4, .int t_st), (3, .int (nI 0)), (0, .ref t0), (1, .int x1), (2, .int x2)]) hx hb dX5_asNumber_29 hl (by decide) rfl (fun ls hl => ?_)
      exact hB_31 fu (nI 0) t_st hf  ls (lv_sub hl [2, 3, 4, 1, 0] rfl)
    · have hf := ifn hc hf
      refine lv_iconst (v := (-1 : Int32)) hx hb dX5_asNumber_21 ic_m1 ?_
      cases hf
      exact W.iret hx hb hr (fun t ht _ => ⟨rfl, ht⟩) (fun _ h => nomatch h) dX5_asNumber_22
theorem hdc_X1_takeNumber : yX1_takeNumber.cls ≠ "java/lang/invoke/MethodHandle" ∧ yX1_takeNumber.cls ≠ "java/lang/invoke/VarHandle" ∧ (parseMethodDescriptor yX1_takeNumber.desc).map (fun d => d.parameters.length) = some 2 := by decide +kernel
set_option maxHeartbeats 4000000 in
set_option maxRecDepth 100000 in
theorem c_X1_takeNumber (l : Launch) (D : va_G) (cI cZ cM : ClassId) (r0 r1 t0 t1 : Nat) (sz : Nat) (r_cl : Int32) (r_no : Nat → Int32) (t_len : Int32) (t_st : Int32) (t_nx : Int32) (t_kd : Int32) (t_by : Nat → Int32) (x1 : Int32) (x2 : Int32) (fu : Nat) (r : Int32) (t_st' : Int32) (t_nx' : Int32) (t_kd' : Int32) (hf : m_X1_takeNumber fu t_len t_nx t_by x1 x2 = some (r, t_st', t_nx', t_kd')) : Met l yX1_takeNumber wsX1_takeNumber ({ frames := 2, cells := 0, slots := 0, locals := 40 }) (pM D cI cZ cM sz [(r0, .inr (1, [.int r_cl, .ref t0, .ref r1])), (r1, .inl (cI, 10, .inl r_no)), (t0, .inr (5, [.int t_len, .int t_st, .int t_nx, .int t_kd, .ref t1])), (t1, .inl (cI, 200, .inl t_by))] [.ref r0, .int x1, .int x2]) (qI D r [(r0, .inr (1, [.int r_cl, .ref t0, .ref r1])), (r1, .inl (cI, 10, .inl r_no)), (t0, .inr (5, [.int t_len, .int t_st', .int t_nx', .int t_kd', .ref t1])), (t1, .inl (cI, 200, .inl t_by))] (va_A [(r0, .inr (1, [.int r_cl, .ref t0, .ref r1])), (r1, .inl (cI, 10, .inl r_no)), (t0, .inr (5, [.int t_len, .int t_st, .int t_nx, .int t_kd, .ref t1])), (t1, .inl (cI, 200, .inl t_by))] sz)) 0 0 (va_A [(r0, .inr (1, [.int r_cl, .ref t0, .ref r1])), (r1, .inl (cI, 10, .inl r_no)), (t0, .inr (5, [.int t_len, .int t_st, .int t_nx, .int t_kd, .ref t1])), (t1, .inl (cI, 200, .inl t_by))] sz) := by
  refine Met.ofW (cc := cX1_takeNumber) (maxL := 3) (ret := (some .int)) (by decide) rfl ?_
  intro p e s m args below meth c s₁ B hml hv
  obtain ⟨rfl, hsz, hP, hK, hD0⟩ := hv
  have hx := B.exec
  have hb := B.bytes
  have hr := B.returns
  have hts := atoms_spec (ws := wsX1_takeNumber) B.pre
  have hown : s.vm.findClass RX1 = some m.cls := findClass_of_methodNamed B.named
  have hlocks := B.notSynchronized
  subst hsz
  have hD := hD0.self (sz := s.heap.size)
  generalize hAe : va_A [(r0, .inr (1, [.int r_cl, .ref t0, .ref r1])), (r1, .inl (cI, 10, .inl r_no)), (t0, .inr (5, [.int t_len, .int t_st, .int t_nx, .int t_kd, .ref t1])), (t1, .inl (cI, 200, .inl t_by))] s.heap.size = A at hD ⊢
  have hA : ∀ q : Nat, s.heap.size ≤ q → A q := fun q h => by rw [← hAe]; exact Or.inr h
  clear hAe hD0
  have hfl_19 := hts (.fieldLink RX1 19 "TermsFirst$ClauseReader" "text" "LTermsFirst$Text;") (List.mem_cons_of_mem _ (List.mem_append_left _ (List.mem_append_left _ (List.mem_of_getElem? (i := 0) rfl))))
  have hiX1 : ∀ w ∈ u_ws RX1 TX1 3, w ∈ wsX1_takeNumber := fun _ h => (List.mem_cons_of_mem _ (List.mem_append_left _ (List.mem_append_right _ h)))
  have hl := lv_entry ([.ref r0, .int x1, .int x2]) (n := 3) (Nat.le_of_ble_eq_true rfl)
  rw [lg_entry_eq]
  generalize (lg_sl ([.ref r0, .int x1, .int x2]) ++ List.replicate (3 - (lg_sl ([.ref r0, .int x1, .int x2])).length) Slot.unset).toArray = ls at hl ⊢
  have hl : lv_has ls 3 [(0, .ref r0), (1, .int x1), (2, .int x2)] := hl
  have hS : va_S A s.heap s.heap [] := va_S.rf
  unfold m_X1_takeNumber at hf
  refine lv_aload_n hx hb dX1_takeNumber_0 rfl (lv_at hl 0 rfl) ?_
  refine va_get (D := D) (ci := 1) (v := .ref t0) (C := RX1) (T := TX1) (N := 3) hx hb hts hiX1 hown hK.1 hP 0 rfl rfl 1 (by decide) hfl_19 (fun _ h9 => h9) rfl dX1_takeNumber_1 ?_
  obtain ⟨rv1, hrv1, hf⟩ := bd hf
  refine muV0 (wr := [(r0, .inr (1, [.int r_cl, .ref t0, .ref r1])), (r1, .inl (cI, 10, .inl r_no))]) (va_runV (As := []) (rest := []) ⟨hx, hb, hml, hown, hts⟩ (c_X5_take l D cI cZ cM t0 t1 _ t_len t_st t_nx t_kd t_by fu rv1.1 rv1.2.1 rv1.2.2 hrv1) (cwV 0 hts gX1_takeNumber_X5_take rfl rfl rfl ⟨rfl, hdc_X5_take⟩ ⟨Nat.le_of_ble_eq_true rfl, Nat.le_of_ble_eq_true rfl⟩) (pmV hK hP hD [2, 3] (by decide) rfl rfl (ci := 5) (q0 := 2) rfl rfl) rfl rfl hl.1 rfl (lv_room (Nat.le_of_ble_eq_true rfl)) dX1_takeNumber_4 ⟨Nat.zero_le _, Nat.zero_le _⟩) hP hD hS hA [2, 3] [0, 1] rfl rfl (by decide) (by decide) (fun H locs hP hD hS => ?_)
  have hP : va_P D vwCl [(r0, .inr (1, [.int r_cl, .ref t0, .ref r1])), (r1, .inl (cI, 10, .inl r_no)), (t0, .inr (5, [.int t_len, .int rv1.1, .int rv1.2.1, .int rv1.2.2, .ref t1])), (t1, .inl (cI, 200, .inl t_by))] H := hP
  have hD : va_D A [(r0, .inr (1, [.int r_cl, .ref t0, .ref r1])), (r1, .inl (cI, 10, .inl r_no)), (t0, .inr (5, [.int t_len, .int rv1.1, .int rv1.2.1, .int rv1.2.2, .ref t1])), (t1, .inl (cI, 200, .inl t_by))] := hD
  refine lv_aload_n hx hb dX1_takeNumber_7 rfl (lv_at hl 0 rfl) ?_
  refine va_get (D := D) (ci := 1) (v := .ref t0) (C := RX1) (T := TX1) (N := 3) hx hb hts hiX1 hown hK.1 hP 0 rfl rfl 1 (by decide) hfl_19 (fun _ h9 => h9) rfl dX1_takeNumber_8 ?_
  refine lv_iload_n hx hb dX1_takeNumber_11 rfl (lv_at hl 1 rfl) ?_
  refine lv_iload_n hx hb dX1_takeNumber_12 rfl (lv_at hl 2 rfl) ?_
  obtain ⟨rv2, hrv2, hf⟩ := bd hf
  refine roI (va_runV (As := [.int x1, .int x2]) (rest := []) ⟨hx, hb, hml, hown, hts⟩ (c_X5_asNumber l D cI cZ cM t0 t1 t_len rv1.1 rv1.2.1 rv1.2.2 t_by x1 x2 fu rv2 hrv2) (cwV 2 hts gX1_takeNumber_X5_asNumber rfl rfl rfl ⟨rfl, hdc_X5_asNumber⟩ ⟨Nat.le_of_ble_eq_true rfl, Nat.le_of_ble_eq_true rfl⟩) (prV hK hP [2, 3] rfl (ci := 5) (q0 := 2) rfl rfl) rfl rfl hl.1 rfl (lv_room (Nat.le_of_ble_eq_true rfl)) dX1_takeNumber_13 ⟨Nat.zero_le _, Nat.zero_le _⟩) ?_
  cases hf
  exact W.iret hx hb hr (fun t ht _ => ⟨⟨rfl, by rw [ht]; exact hP, hD⟩, hS.F ht⟩) hS.2.2 dX1_takeNumber_16
theorem hdc_X3_beginAnew : yX3_beginAnew.cls ≠ "java/lang/invoke/MethodHandle" ∧ yX3_beginAnew.cls ≠ "java/lang/invoke/VarHandle" ∧ (parseMethodDescriptor yX3_beginAnew.desc).map (fun d => d.parameters.length) = some 1 := by decide +kernel
set_option maxHeartbeats 4000000 in
set_option maxRecDepth 100000 in
theorem c_X3_beginAnew (l : Launch) (D : va_G) (cI cZ cM : ClassId) (a0 a1 a2 a3 a4 a5 : Nat) (sz : Nat) (a_n : Int32) (a_L : Nat → Int32) (a_U : Nat → Int32) (a_H : Nat → Int32) (a_O : Nat → Int32) (a_B : Nat → Int32) (x1 : Int32) (fu : Nat) (a_n' : Int32) (a_L' : Nat → Int32) (a_U' : Nat → Int32) (a_H' : Nat → Int32) (a_O' : Nat → Int32) (a_B' : Nat → Int32) (hf : m_X3_beginAnew fu a_L a_U a_H a_O a_B x1 = some (a_n', a_L', a_U', a_H', a_O', a_B')) : Met l yX3_beginAnew wsX3_beginAnew ({ frames := 0, cells := 0, slots := 0, locals := 0 }) (pM D cI cZ cM sz [(a0, .inr (3, [.int a_n, .ref a1, .ref a2, .ref a3, .ref a4, .ref a5])), (a1, .inl (cI, 10, .inl a_L)), (a2, .inl (cI, 10, .inl a_U)), (a3, .inl (cI, 12, .inl a_H)), (a4, .inl (cI, 10, .inl a_O)), (a5, .inl (cI, 10, .inl a_B))] [.ref a0, .int x1]) (qV D [(a0, .inr (3, [.int a_n', .ref a1, .ref a2, .ref a3, .ref a4, .ref a5])), (a1, .inl (cI, 10, .inl a_L')), (a2, .inl (cI, 10, .inl a_U')), (a3, .inl (cI, 12, .inl a_H')), (a4, .inl (cI, 10, .inl a_O')), (a5, .inl (cI, 10, .inl a_B'))] (va_A [(a0, .inr (3, [.int a_n, .ref a1, .ref a2, .ref a3, .ref a4, .ref a5])), (a1, .inl (cI, 10, .inl a_L)), (a2, .inl (cI, 10, .inl a_U)), (a3, .inl (cI, 12, .inl a_H)), (a4, .inl (cI, 10, .inl a_O)), (a5, .inl (cI, 10, .inl a_B))] sz)) 0 0 (va_A [(a0, .inr (3, [.int a_n, .ref a1, .ref a2, .ref a3, .ref a4, .ref a5])), (a1, .inl (cI, 10, .inl a_L)), (a2, .inl (cI, 10, .inl a_U)), (a3, .inl (cI, 12, .inl a_H)), (a4, .inl (cI, 10, .inl a_O)), (a5, .inl (cI, 10, .inl a_B))] sz) := by
  refine Met.ofW (cc := cX3_beginAnew) (maxL := 3) (ret := none) (by decide) rfl ?_
  intro p e s m args below meth c s₁ B hml hv
  obtain ⟨rfl, hsz, hP, hK, hD0⟩ := hv
  have hx := B.exec
  have hb := B.bytes
  have hr := B.returns
  have hts := atoms_spec (ws := wsX3_beginAnew) B.pre
  have hown : s.vm.findClass RX3 = some m.cls := findClass_of_methodNamed B.named
  have hlocks := B.notSynchronized
  subst hsz
  have hD := hD0.self (sz := s.heap.size)
  generalize hAe : va_A [(a0, .inr (3, [.int a_n, .ref a1, .ref a2, .ref a3, .ref a4, .ref a5])), (a1, .inl (cI, 10, .inl a_L)), (a2, .inl (cI, 10, .inl a_U)), (a3, .inl (cI, 12, .inl a_H)), (a4, .inl (cI, 10, .inl a_O)), (a5, .inl (cI, 10, .inl a_B))] s.heap.size = A at hD ⊢
  have hA : ∀ q : Nat, s.heap.size ≤ q → A q := fun q h => by rw [← hAe]; exact Or.inr h
  clear hAe hD0
  have hfl_9 := hts (.fieldLink RX3 9 "TermsFirst$Manual" "lengths" "[I") (List.mem_cons_of_mem _ (List.mem_append_left _ (List.mem_of_getElem? (i := 1) rfl)))
  have hfl_15 := hts (.fieldLink RX3 15 "TermsFirst$Manual" "used" "[I") (List.mem_cons_of_mem _ (List.mem_append_left _ (List.mem_of_getElem? (i := 2) rfl)))
  have hfl_18 := hts (.fieldLink RX3 18 "TermsFirst$Manual" "homes" "[I") (List.mem_cons_of_mem _ (List.mem_append_left _ (List.mem_of_getElem? (i := 5) rfl)))
  have hfl_21 := hts (.fieldLink RX3 21 "TermsFirst$Manual" "order" "[I") (List.mem_cons_of_mem _ (List.mem_append_left _ (List.mem_of_getElem? (i := 3) rfl)))
  have hfl_24 := hts (.fieldLink RX3 24 "TermsFirst$Manual" "before" "[I") (List.mem_cons_of_mem _ (List.mem_append_left _ (List.mem_of_getElem? (i := 4) rfl)))
  have hfl_31 := hts (.fieldLink RX3 31 "TermsFirst$Manual" "n" "I") (List.mem_cons_of_mem _ (List.mem_append_left _ (List.mem_of_getElem? (i := 0) rfl)))
  have hiX3 : ∀ w ∈ u_ws RX3 TX3 6, w ∈ wsX3_beginAnew := fun _ h => (List.mem_cons_of_mem _ (List.mem_append_right _ h))
  have hB_49 : ∀ (a_n : Int32) (a_L : Nat → Int32) (a_U : Nat → Int32) (a_O : Nat → Int32) (a_B : Nat → Int32) (fn : Nat) (x2 : Int32) (a_H : Nat → Int32), m_X3_beginAnew_49 a_n a_L a_U a_O a_B fn a_H x2 = some (a_n', a_L', a_U', a_H', a_O', a_B') → ∀ (H : Heap) (locs : List Loc), va_P D vwCl [(a0, .inr (3, [.int a_n, .ref a1, .ref a2, .ref a3, .ref a4, .ref a5])), (a1, .inl (cI, 10, .inl a_L)), (a2, .inl (cI, 10, .inl a_U)), (a3, .inl (cI, 12, .inl a_H)), (a4, .inl (cI, 10, .inl a_O)), (a5, .inl (cI, 10, .inl a_B))] H → va_D A [(a0, .inr (3, [.int a_n, .ref a1, .ref a2, .ref a3, .ref a4, .ref a5])), (a1, .inl (cI, 10, .inl a_L)), (a2, .inl (cI, 10, .inl a_U)), (a3, .inl (cI, 12, .inl a_H)), (a4, .inl (cI, 10, .inl a_O)), (a5, .inl (cI, 10, .inl a_B))] → va_S A s.heap H locs → ∀ ls : Array Slot, lv_has ls 3 [(0, .ref a0), (2, .int x2)] → W p l e (headSpec wsX3_beginAnew { frames := 0, cells := 0, slots := 0, locals := 0 }).room s m ([.ref a0, .int x1] : List Value).toArray below meth c H locs 0 0 (MQ below (qV D [(a0, .inr (3, [.int a_n', .ref a1, .ref a2, .ref a3, .ref a4, .ref a5])), (a1, .inl (cI, 10, .inl a_L')), (a2, .inl (cI, 10, .inl a_U')), (a3, .inl (cI, 12, .inl a_H')), (a4, .inl (cI, 10, .inl a_O')), (a5, .inl (cI, 10, .inl a_B'))] A) ([.ref a0, .int x1] : List Value).toArray s 0 0 A) (F0 m 49 ls []) := by
    intro a_n a_L a_U a_O a_B fn
    induction fn with
    | zero => intro x2 a_H hf; rw [m_X3_beginAnew_49] at hf; cases hf
    | succ fn ih =>
      intro x2 a_H hf H locs hP hD hS ls hl
      rw [m_X3_beginAnew_49] at hf
      refine lv_iload_n hx hb dX3_beginAnew_49 rfl (lv_at hl 1 rfl) ?_
      refine lv_bipush (v := (nI 12)) hx hb dX3_beginAnew_50 bp_12 ?_
      refine lv_icmp_ge (tgt := 68) hx hb dX3_beginAnew_52 (by decide) (fun hc => ?_) (fun hc => ?_)
      · have hf := ifp hc hf
        cases hf
        exact W.vret hx hb hr (fun t ht _ => ⟨⟨rfl, by rw [ht]; exact hP, hD⟩, hS.F ht⟩) hS.2.2 dX3_beginAnew_68
      · have hf := ifn hc hf
        refine lv_aload_n hx hb dX3_beginAnew_55 rfl (lv_at hl 0 rfl) ?_
        refine va_get (D := D) (ci := 3) (v := .ref a3) (C := RX3) (T := TX3) (N := 6) hx hb hts hiX3 hown hK.1 hP 0 rfl rfl 3 (by decide) hfl_18 (fun _ h9 => h9) rfl dX3_beginAnew_56 ?_
        refine lv_iload_n hx hb dX3_beginAnew_59 rfl (lv_at hl 1 rfl) ?_
        refine lv_iconst (v := (-1 : Int32)) hx hb dX3_beginAnew_60 ic_m1 ?_
        obtain ⟨hi, hf⟩ := gd_some hf
        refine va_iast hx hb hK.1 hP hD hS 3 0 rfl rfl hi dX3_beginAnew_61 (fun H locs hP hD hS => ?_)
        have hP : va_P D vwCl [(a0, .inr (3, [.int a_n, .ref a1, .ref a2, .ref a3, .ref a4, .ref a5])), (a1, .inl (cI, 10, .inl a_L)), (a2, .inl (cI, 10, .inl a_U)), (a3, .inl (cI, 12, .inl (upd a_H x2.toNatClampNeg (-1 : Int32)))), (a4, .inl (cI, 10, .inl a_O)), (a5, .inl (cI, 10, .inl a_B))] H := hP
        have hD : va_D A [(a0, .inr (3, [.int a_n, .ref a1, .ref a2, .ref a3, .ref a4, .ref a5])), (a1, .inl (cI, 10, .inl a_L)), (a2, .inl (cI, 10, .inl a_U)), (a3, .inl (cI, 12, .inl (upd a_H x2.toNatClampNeg (-1 : Int32)))), (a4, .inl (cI, 10, .inl a_O)), (a5, .inl (cI, 10, .inl a_B))] := hD
        refine lv_iinc (v := (x2 + (nI 1))) (lv' := [(2, .int (x2 + (nI 1))), (0, .ref a0)]) hx hb dX3_beginAnew_62 hl (k := 1) rfl (ii_1 _) (by decide) rfl (fun ls hl => ?_)
        refine lv_goto (tgt := 49) hx hb dX3_beginAnew_65 (by decide) ?_
        exact ih (x2 + (nI 1)) (upd a_H x2.toNatClampNeg (-1 : Int32)) hf _ _ hP hD hS ls (lv_sub hl [1, 0] rfl)
  have hB_7 : ∀ (a_n : Int32) (fn : Nat) (x2 : Int32) (a_L : Nat → Int32) (a_U : Nat → Int32) (a_O : Nat → Int32) (a_B : Nat → Int32), m_X3_beginAnew_7 fu a_n a_H fn a_L a_U a_O a_B x2 = some (a_n', a_L', a_U', a_H', a_O', a_B') → ∀ (H : Heap) (locs : List Loc), va_P D vwCl [(a0, .inr (3, [.int a_n, .ref a1, .ref a2, .ref a3, .ref a4, .ref a5])), (a1, .inl (cI, 10, .inl a_L)), (a2, .inl (cI, 10, .inl a_U)), (a3, .inl (cI, 12, .inl a_H)), (a4, .inl (cI, 10, .inl a_O)), (a5, .inl (cI, 10, .inl a_B))] H → va_D A [(a0, .inr (3, [.int a_n, .ref a1, .ref a2, .ref a3, .ref a4, .ref a5])), (a1, .inl (cI, 10, .inl a_L)), (a2, .inl (cI, 10, .inl a_U)), (a3, .inl (cI, 12, .inl a_H)), (a4, .inl (cI, 10, .inl a_O)), (a5, .inl (cI, 10, .inl a_B))] → va_S A s.heap H locs → ∀ ls : Array Slot, lv_has ls 3 [(0, .ref a0), (2, .int x2)] → W p l e (headSpec wsX3_beginAnew { frames := 0, cells := 0, slots := 0, locals := 0 }).room s m ([.ref a0, .int x1] : List Value).toArray below meth c H locs 0 0 (MQ below (qV D [(a0, .inr (3, [.int a_n', .ref a1, .ref a2, .ref a3, .ref a4, .ref a5])), (a1, .inl (cI, 10, .inl a_L')), (a2, .inl (cI, 10, .inl a_U')), (a3, .inl (cI, 12, .inl a_H')), (a4, .inl (cI, 10, .inl a_O')), (a5, .inl (cI, 10, .inl a_B'))] A) ([.ref a0, .int x1] : List Value).toArray s 0 0 A) (F0 m 7 ls []) := by
    intro a_n fn
    induction fn with
    | zero => intro x2 a_L a_U a_O a_B hf; rw [m_X3_beginAnew_7] at hf; cases hf
    | succ fn ih =>
      intro x2 a_L a_U a_O a_B hf H locs hP hD hS ls hl
      rw [m_X3_beginAnew_7] at hf
      refine lv_iload_n hx hb dX3_beginAnew_7 rfl (lv_at hl 1 rfl) ?_
      refine lv_bipush (v := (nI 10)) hx hb dX3_beginAnew_8 bp_10 ?_
      refine lv_icmp_ge (tgt := 47) hx hb dX3_beginAnew_10 (by decide) (fun hc => ?_) (fun hc => ?_)
      · have hf := ifp hc hf
        refine lv_iconst (v := (nI 0)) hx hb dX3_beginAnew_47 ic_0 ?_
        refine lv_istore_n (lv' := [(2, .int (nI 0)), (0, .ref a0)]) hx hb dX3_beginAnew_48 rfl hl (by decide) rfl (fun ls hl => ?_)
        exact hB_49 a_n a_L a_U a_O a_B fu (nI 0) a_H hf _ _ hP hD hS ls (lv_sub hl [1, 0] rfl)
      · have hf := ifn hc hf
        refine lv_aload_n hx hb dX3_beginAnew_13 rfl (lv_at hl 0 rfl) ?_
        refine va_get (D := D) (ci := 3) (v := .ref a1) (C := RX3) (T := TX3) (N := 6) hx hb hts hiX3 hown hK.1 hP 0 rfl rfl 1 (by decide) hfl_9 (fun _ h9 => h9) rfl dX3_beginAnew_14 ?_
        refine lv_iload_n hx hb dX3_beginAnew_17 rfl (lv_at hl 1 rfl) ?_
        refine lv_iconst (v := (nI 1)) hx hb dX3_beginAnew_18 ic_1 ?_
        obtain ⟨hi, hf⟩ := gd_some hf
        refine va_iast hx hb hK.1 hP hD hS 1 0 rfl rfl hi dX3_beginAnew_19 (fun H locs hP hD hS => ?_)
        have hP : va_P D vwCl [(a0, .inr (3, [.int a_n, .ref a1, .ref a2, .ref a3, .ref a4, .ref a5])), (a1, .inl (cI, 10, .inl (upd a_L x2.toNatClampNeg (nI 1)))), (a2, .inl (cI, 10, .inl a_U)), (a3, .inl (cI, 12, .inl a_H)), (a4, .inl (cI, 10, .inl a_O)), (a5, .inl (cI, 10, .inl a_B))] H := hP
        have hD : va_D A [(a0, .inr (3, [.int a_n, .ref a1, .ref a2, .ref a3, .ref a4, .ref a5])), (a1, .inl (cI, 10, .inl (upd a_L x2.toNatClampNeg (nI 1)))), (a2, .inl (cI, 10, .inl a_U)), (a3, .inl (cI, 12, .inl a_H)), (a4, .inl (cI, 10, .inl a_O)), (a5, .inl (cI, 10, .inl a_B))] := hD
        refine lv_aload_n hx hb dX3_beginAnew_20 rfl (lv_at hl 0 rfl) ?_
        refine va_get (D := D) (ci := 3) (v := .ref a2) (C := RX3) (T := TX3) (N := 6) hx hb hts hiX3 hown hK.1 hP 0 rfl rfl 2 (by decide) hfl_15 (fun _ h9 => h9) rfl dX3_beginAnew_21 ?_
        refine lv_iload_n hx hb dX3_beginAnew_24 rfl (lv_at hl 1 rfl) ?_
        refine lv_iconst (v := (nI 0)) hx hb dX3_beginAnew_25 ic_0 ?_
        obtain ⟨hi, hf⟩ := gd_some hf
        refine va_iast hx hb hK.1 hP hD hS 2 0 rfl rfl hi dX3_beginAnew_26 (fun H locs hP hD hS => ?_)
        have hP : va_P D vwCl [(a0, .inr (3, [.int a_n, .ref a1, .ref a2, .ref a3, .ref a4, .ref a5])), (a1, .inl (cI, 10, .inl (upd a_L x2.toNatClampNeg (nI 1)))), (a2, .inl (cI, 10, .inl (upd a_U x2.toNatClampNeg (nI 0)))), (a3, .inl (cI, 12, .inl a_H)), (a4, .inl (cI, 10, .inl a_O)), (a5, .inl (cI, 10, .inl a_B))] H := hP
        have hD : va_D A [(a0, .inr (3, [.int a_n, .ref a1, .ref a2, .ref a3, .ref a4, .ref a5])), (a1, .inl (cI, 10, .inl (upd a_L x2.toNatClampNeg (nI 1)))), (a2, .inl (cI, 10, .inl (upd a_U x2.toNatClampNeg (nI 0)))), (a3, .inl (cI, 12, .inl a_H)), (a4, .inl (cI, 10, .inl a_O)), (a5, .inl (cI, 10, .inl a_B))] := hD
        refine lv_aload_n hx hb dX3_beginAnew_27 rfl (lv_at hl 0 rfl) ?_
        refine va_get (D := D) (ci := 3) (v := .ref a4) (C := RX3) (T := TX3) (N := 6) hx hb hts hiX3 hown hK.1 hP 0 rfl rfl 4 (by decide) hfl_21 (fun _ h9 => h9) rfl dX3_beginAnew_28 ?_
        refine lv_iload_n hx hb dX3_beginAnew_31 rfl (lv_at hl 1 rfl) ?_
        refine lv_iload_n hx hb dX3_beginAnew_32 rfl (lv_at hl 1 rfl) ?_
        obtain ⟨hi, hf⟩ := gd_some hf
        refine va_iast hx hb hK.1 hP hD hS 4 0 rfl rfl hi dX3_beginAnew_33 (fun H locs hP hD hS => ?_)
        have hP : va_P D vwCl [(a0, .inr (3, [.int a_n, .ref a1, .ref a2, .ref a3, .ref a4, .ref a5])), (a1, .inl (cI, 10, .inl (upd a_L x2.toNatClampNeg (nI 1)))), (a2, .inl (cI, 10, .inl (upd a_U x2.toNatClampNeg (nI 0)))), (a3, .inl (cI, 12, .inl a_H)), (a4, .inl (cI, 10, .inl (upd a_O x2.toNatClampNeg x2))), (a5, .inl (cI, 10, .inl a_B))] H := hP
        have hD : va_D A [(a0, .inr (3, [.int a_n, .ref a1, .ref a2, .ref a3, .ref a4, .ref a5])), (a1, .inl (cI, 10, .inl (upd a_L x2.toNatClampNeg (nI 1)))), (a2, .inl (cI, 10, .inl (upd a_U x2.toNatClampNeg (nI 0)))), (a3, .inl (cI, 12, .inl a_H)), (a4, .inl (cI, 10, .inl (upd a_O x2.toNatClampNeg x2))), (a5, .inl (cI, 10, .inl a_B))] := hD
        refine lv_aload_n hx hb dX3_beginAnew_34 rfl (lv_at hl 0 rfl) ?_
        refine va_get (D := D) (ci := 3) (v := .ref a5) (C := RX3) (T := TX3) (N := 6) hx hb hts hiX3 hown hK.1 hP 0 rfl rfl 5 (by decide) hfl_24 (fun _ h9 => h9) rfl dX3_beginAnew_35 ?_
        refine lv_iload_n hx hb dX3_beginAnew_38 rfl (lv_at hl 1 rfl) ?_
        refine lv_iconst (v := (nI 0)) hx hb dX3_beginAnew_39 ic_0 ?_
        obtain ⟨hi, hf⟩ := gd_some hf
        refine va_iast hx hb hK.1 hP hD hS 5 0 rfl rfl hi dX3_beginAnew_40 (fun H locs hP hD hS => ?_)
        have hP : va_P D vwCl [(a0, .inr (3, [.int a_n, .ref a1, .ref a2, .ref a3, .ref a4, .ref a5])), (a1, .inl (cI, 10, .inl (upd a_L x2.toNatClampNeg (nI 1)))), (a2, .inl (cI, 10, .inl (upd a_U x2.toNatClampNeg (nI 0)))), (a3, .inl (cI, 12, .inl a_H)), (a4, .inl (cI, 10, .inl (upd a_O x2.toNatClampNeg x2))), (a5, .inl (cI, 10, .inl (upd a_B x2.toNatClampNeg (nI 0))))] H := hP
        have hD : va_D A [(a0, .inr (3, [.int a_n, .ref a1, .ref a2, .ref a3, .ref a4, .ref a5])), (a1, .inl (cI, 10, .inl (upd a_L x2.toNatClampNeg (nI 1)))), (a2, .inl (cI, 10, .inl (upd a_U x2.toNatClampNeg (nI 0)))), (a3, .inl (cI, 12, .inl a_H)), (a4, .inl (cI, 10, .inl (upd a_O x2.toNatClampNeg x2))), (a5, .inl (cI, 10, .inl (upd a_B x2.toNatClampNeg (nI 0))))] := hD
        refine lv_iinc (v := (x2 + (nI 1))) (lv' := [(2, .int (x2 + (nI 1))), (0, .ref a0)]) hx hb dX3_beginAnew_41 hl (k := 1) rfl (ii_1 _) (by decide) rfl (fun ls hl => ?_)
        refine lv_goto (tgt := 7) hx hb dX3_beginAnew_44 (by decide) ?_
        exact ih (x2 + (nI 1)) (upd a_L x2.toNatClampNeg (nI 1)) (upd a_U x2.toNatClampNeg (nI 0)) (upd a_O x2.toNatClampNeg x2) (upd a_B x2.toNatClampNeg (nI 0)) hf _ _ hP hD hS ls (lv_sub hl [1, 0] rfl)
  have hl := lv_entry ([.ref a0, .int x1]) (n := 3) (Nat.le_of_ble_eq_true rfl)
  rw [lg_entry_eq]
  generalize (lg_sl ([.ref a0, .int x1]) ++ List.replicate (3 - (lg_sl ([.ref a0, .int x1])).length) Slot.unset).toArray = ls at hl ⊢
  have hl : lv_has ls 3 [(0, .ref a0), (1, .int x1)] := hl
  have hS : va_S A s.heap s.heap [] := va_S.rf
  unfold m_X3_beginAnew at hf
  refine lv_aload_n hx hb dX3_beginAnew_0 rfl (lv_at hl 0 rfl) ?_
  refine lv_iload_n hx hb dX3_beginAnew_1 rfl (lv_at hl 1 rfl) ?_
  refine va_put (D := D) (ci := 3) (v := .int x1) (ty := .int) (C := RX3) (T := TX3) (N := 6) hx hb hts hiX3 tyX3 tyX3_ok nmX3 hown hK.1 hP hD hS 0 rfl rfl 0 (by decide) hfl_31 (fun _ h9 => h9) rfl (tyX3_ok 0 (by decide)) rfl rfl (Nat.le_of_ble_eq_true rfl) dX3_beginAnew_2 (fun H locs hP hD hS => ?_)
  have hP : va_P D vwCl [(a0, .inr (3, [.int x1, .ref a1, .ref a2, .ref a3, .ref a4, .ref a5])), (a1, .inl (cI, 10, .inl a_L)), (a2, .inl (cI, 10, .inl a_U)), (a3, .inl (cI, 12, .inl a_H)), (a4, .inl (cI, 10, .inl a_O)), (a5, .inl (cI, 10, .inl a_B))] H := hP
  have hD : va_D A [(a0, .inr (3, [.int x1, .ref a1, .ref a2, .ref a3, .ref a4, .ref a5])), (a1, .inl (cI, 10, .inl a_L)), (a2, .inl (cI, 10, .inl a_U)), (a3, .inl (cI, 12, .inl a_H)), (a4, .inl (cI, 10, .inl a_O)), (a5, .inl (cI, 10, .inl a_B))] := hD
  refine lv_iconst (v := (nI 0)) hx hb dX3_beginAnew_5 ic_0 ?_
  refine lv_istore_n (lv' := [(2, .int (nI 0)), (0, .ref a0), (1, .int x1)]) hx hb dX3_beginAnew_6 rfl hl (by decide) rfl (fun ls hl => ?_)
  exact hB_7 x1 fu (nI 0) a_L a_U a_O a_B hf _ _ hP hD hS ls (lv_sub hl [1, 0] rfl)
theorem hdc_X1_readSections : yX1_readSections.cls ≠ "java/lang/invoke/MethodHandle" ∧ yX1_readSections.cls ≠ "java/lang/invoke/VarHandle" ∧ (parseMethodDescriptor yX1_readSections.desc).map (fun d => d.parameters.length) = some 1 := by decide +kernel
set_option maxHeartbeats 4000000 in
set_option maxRecDepth 100000 in
theorem c_X1_readSections (l : Launch) (D : va_G) (cI cZ cM : ClassId) (r0 r1 t0 t1 b0 b1 b2 b3 b4 b5 : Nat) (sz : Nat) (r_cl : Int32) (r_no : Nat → Int32) (t_len : Int32) (t_st : Int32) (t_nx : Int32) (t_kd : Int32) (t_by : Nat → Int32) (b_n : Int32) (b_L : Nat → Int32) (b_U : Nat → Int32) (b_H : Nat → Int32) (b_O : Nat → Int32) (b_B : Nat → Int32) (fu : Nat) (r : Int32) (t_st' : Int32) (t_nx' : Int32) (t_kd' : Int32) (b_n' : Int32) (b_L' : Nat → Int32) (b_U' : Nat → Int32) (b_H' : Nat → Int32) (b_O' : Nat → Int32) (b_B' : Nat → Int32) (hf : m_X1_readSections fu t_len t_nx t_by b_n b_L b_U b_H b_O b_B = some (r, t_st', t_nx', t_kd', b_n', b_L', b_U', b_H', b_O', b_B')) : Met l yX1_readSections wsX1_readSections ({ frames := 3, cells := 0, slots := 0, locals := 62 }) (pM D cI cZ cM sz [(r0, .inr (1, [.int r_cl, .ref t0, .ref r1])), (r1, .inl (cI, 10, .inl r_no)), (t0, .inr (5, [.int t_len, .int t_st, .int t_nx, .int t_kd, .ref t1])), (t1, .inl (cI, 200, .inl t_by)), (b0, .inr (3, [.int b_n, .ref b1, .ref b2, .ref b3, .ref b4, .ref b5])), (b1, .inl (cI, 10, .inl b_L)), (b2, .inl (cI, 10, .inl b_U)), (b3, .inl (cI, 12, .inl b_H)), (b4, .inl (cI, 10, .inl b_O)), (b5, .inl (cI, 10, .inl b_B))] [.ref r0, .ref b0]) (qI D r [(r0, .inr (1, [.int r_cl, .ref t0, .ref r1])), (r1, .inl (cI, 10, .inl r_no)), (t0, .inr (5, [.int t_len, .int t_st', .int t_nx', .int t_kd', .ref t1])), (t1, .inl (cI, 200, .inl t_by)), (b0, .inr (3, [.int b_n', .ref b1, .ref b2, .ref b3, .ref b4, .ref b5])), (b1, .inl (cI, 10, .inl b_L')), (b2, .inl (cI, 10, .inl b_U')), (b3, .inl (cI, 12, .inl b_H')), (b4, .inl (cI, 10, .inl b_O')), (b5, .inl (cI, 10, .inl b_B'))] (va_A [(r0, .inr (1, [.int r_cl, .ref t0, .ref r1])), (r1, .inl (cI, 10, .inl r_no)), (t0, .inr (5, [.int t_len, .int t_st, .int t_nx, .int t_kd, .ref t1])), (t1, .inl (cI, 200, .inl t_by)), (b0, .inr (3, [.int b_n, .ref b1, .ref b2, .ref b3, .ref b4, .ref b5])), (b1, .inl (cI, 10, .inl b_L)), (b2, .inl (cI, 10, .inl b_U)), (b3, .inl (cI, 12, .inl b_H)), (b4, .inl (cI, 10, .inl b_O)), (b5, .inl (cI, 10, .inl b_B))] sz)) 0 0 (va_A [(r0, .inr (1, [.int r_cl, .ref t0, .ref r1])), (r1, .inl (cI, 10, .inl r_no)), (t0, .inr (5, [.int t_len, .int t_st, .int t_nx, .int t_kd, .ref t1])), (t1, .inl (cI, 200, .inl t_by)), (b0, .inr (3, [.int b_n, .ref b1, .ref b2, .ref b3, .ref b4, .ref b5])), (b1, .inl (cI, 10, .inl b_L)), (b2, .inl (cI, 10, .inl b_U)), (b3, .inl (cI, 12, .inl b_H)), (b4, .inl (cI, 10, .inl b_O)), (b5, .inl (cI, 10, .inl b_B))] sz) := by
  refine Met.ofW (cc := cX1_readSections) (maxL := 3) (ret := (some .boolean)) (by decide) rfl ?_
  intro p e s m args below meth c s₁ B hml hv
  obtain ⟨rfl, hsz, hP, hK, hD0⟩ := hv
  have hx := B.exec
  have hb := B.bytes
  have hr := B.returns
  have hts := atoms_spec (ws := wsX1_readSections) B.pre
  have hown : s.vm.findClass RX1 = some m.cls := findClass_of_methodNamed B.named
  have hlocks := B.notSynchronized
  subst hsz
  have hD := hD0.self (sz := s.heap.size)
  generalize hAe : va_A [(r0, .inr (1, [.int r_cl, .ref t0, .ref r1])), (r1, .inl (cI, 10, .inl r_no)), (t0, .inr (5, [.int t_len, .int t_st, .int t_nx, .int t_kd, .ref t1])), (t1, .inl (cI, 200, .inl t_by)), (b0, .inr (3, [.int b_n, .ref b1, .ref b2, .ref b3, .ref b4, .ref b5])), (b1, .inl (cI, 10, .inl b_L)), (b2, .inl (cI, 10, .inl b_U)), (b3, .inl (cI, 12, .inl b_H)), (b4, .inl (cI, 10, .inl b_O)), (b5, .inl (cI, 10, .inl b_B))] s.heap.size = A at hD ⊢
  have hA : ∀ q : Nat, s.heap.size ≤ q → A q := fun q h => by rw [← hAe]; exact Or.inr h
  clear hAe hD0
  have hl := lv_entry ([.ref r0, .ref b0]) (n := 3) (Nat.le_of_ble_eq_true rfl)
  rw [lg_entry_eq]
  generalize (lg_sl ([.ref r0, .ref b0]) ++ List.replicate (3 - (lg_sl ([.ref r0, .ref b0])).length) Slot.unset).toArray = ls at hl ⊢
  have hl : lv_has ls 3 [(0, .ref r0), (1, .ref b0)] := hl
  have hS : va_S A s.heap s.heap [] := va_S.rf
  unfold m_X1_readSections at hf
  refine lv_aload_n hx hb dX1_readSections_0 rfl (lv_at hl 0 rfl) ?_
  refine lv_iconst (v := (nI 2)) hx hb dX1_readSections_1 ic_2 ?_
  refine lv_bipush (v := (nI 10)) hx hb dX1_readSections_2 bp_10 ?_
  obtain ⟨rv1, hrv1, hf⟩ := bd hf
  refine muI0 (wr := [(b0, .inr (3, [.int b_n, .ref b1, .ref b2, .ref b3, .ref b4, .ref b5])), (b1, .inl (cI, 10, .inl b_L)), (b2, .inl (cI, 10, .inl b_U)), (b3, .inl (cI, 12, .inl b_H)), (b4, .inl (cI, 10, .inl b_O)), (b5, .inl (cI, 10, .inl b_B))]) (va_runV (As := [.int (nI 2), .int (nI 10)]) (rest := []) ⟨hx, hb, hml, hown, hts⟩ (c_X1_takeNumber l D cI cZ cM r0 r1 t0 t1 _ r_cl r_no t_len t_st t_nx t_kd t_by (nI 2) (nI 10) fu rv1.1 rv1.2.1 rv1.2.2.1 rv1.2.2.2 hrv1) (cwV 2 hts gX1_readSections_X1_takeNumber rfl rfl rfl ⟨rfl, hdc_X1_takeNumber⟩ ⟨Nat.le_of_ble_eq_true rfl, Nat.le_of_ble_eq_true rfl⟩) (pmV hK hP hD [0, 1, 2, 3] (by decide) rfl rfl (ci := 1) (q0 := 0) rfl rfl) rfl rfl hl.1 rfl (lv_room (Nat.le_of_ble_eq_true rfl)) dX1_readSections_4 ⟨Nat.zero_le _, Nat.zero_le _⟩) hP hD hS hA [0, 1, 2, 3] [4, 5, 6, 7, 8, 9] rfl rfl (by decide) (by decide) (fun H locs hP hD hS => ?_)
  have hP : va_P D vwCl [(b0, .inr (3, [.int b_n, .ref b1, .ref b2, .ref b3, .ref b4, .ref b5])), (b1, .inl (cI, 10, .inl b_L)), (b2, .inl (cI, 10, .inl b_U)), (b3, .inl (cI, 12, .inl b_H)), (b4, .inl (cI, 10, .inl b_O)), (b5, .inl (cI, 10, .inl b_B)), (r0, .inr (1, [.int r_cl, .ref t0, .ref r1])), (r1, .inl (cI, 10, .inl r_no)), (t0, .inr (5, [.int t_len, .int rv1.2.1, .int rv1.2.2.1, .int rv1.2.2.2, .ref t1])), (t1, .inl (cI, 200, .inl t_by))] H := hP
  have hD : va_D A [(b0, .inr (3, [.int b_n, .ref b1, .ref b2, .ref b3, .ref b4, .ref b5])), (b1, .inl (cI, 10, .inl b_L)), (b2, .inl (cI, 10, .inl b_U)), (b3, .inl (cI, 12, .inl b_H)), (b4, .inl (cI, 10, .inl b_O)), (b5, .inl (cI, 10, .inl b_B)), (r0, .inr (1, [.int r_cl, .ref t0, .ref r1])), (r1, .inl (cI, 10, .inl r_no)), (t0, .inr (5, [.int t_len, .int rv1.2.1, .int rv1.2.2.1, .int rv1.2.2.2, .ref t1])), (t1, .inl (cI, 200, .inl t_by))] := hD
  refine lv_istore_n (lv' := [(2, .int rv1.1), (0, .ref r0), (1, .ref b0)]) hx hb dX1_readSections_7 rfl hl (by decide) rfl (fun ls hl => ?_)
  refine lv_iload_n hx hb dX1_readSections_8 rfl (lv_at hl 0 rfl) ?_
  refine lv_iconst (v := (-1 : Int32)) hx hb dX1_readSections_9 ic_m1 ?_
  refine lv_icmp_ne (tgt := 15) hx hb dX1_readSections_10 (by decide) (fun hc => ?_) (fun hc => ?_)
  · have hf := ifn hc hf
    refine lv_aload_n hx hb dX1_readSections_15 rfl (lv_at hl 2 rfl) ?_
    refine lv_iload_n hx hb dX1_readSections_16 rfl (lv_at hl 0 rfl) ?_
    obtain ⟨rv2, hrv2, hf⟩ := bd hf
    refine muV0 (wr := [(r0, .inr (1, [.int r_cl, .ref t0, .ref r1])), (r1, .inl (cI, 10, .inl r_no)), (t0, .inr (5, [.int t_len, .int rv1.2.1, .int rv1.2.2.1, .int rv1.2.2.2, .ref t1])), (t1, .inl (cI, 200, .inl t_by))]) (va_runV (As := [.int rv1.1]) (rest := []) ⟨hx, hb, hml, hown, hts⟩ (c_X3_beginAnew l D cI cZ cM b0 b1 b2 b3 b4 b5 _ b_n b_L b_U b_H b_O b_B rv1.1 fu rv2.1 rv2.2.1 rv2.2.2.1 rv2.2.2.2.1 rv2.2.2.2.2.1 rv2.2.2.2.2.2 hrv2) (cwV 1 hts gX1_readSections_X3_beginAnew rfl rfl rfl ⟨rfl, hdc_X3_beginAnew⟩ ⟨Nat.le_of_ble_eq_true rfl, Nat.le_of_ble_eq_true rfl⟩) (pmV hK hP hD [0, 1, 2, 3, 4, 5] (by decide) rfl rfl (ci := 3) (q0 := 0) rfl rfl) rfl rfl hl.1 rfl (lv_room (Nat.le_of_ble_eq_true rfl)) dX1_readSections_17 ⟨Nat.zero_le _, Nat.zero_le _⟩) hP hD hS hA [0, 1, 2, 3, 4, 5] [6, 7, 8, 9] rfl rfl (by decide) (by decide) (fun H locs hP hD hS => ?_)
    have hP : va_P D vwCl [(r0, .inr (1, [.int r_cl, .ref t0, .ref r1])), (r1, .inl (cI, 10, .inl r_no)), (t0, .inr (5, [.int t_len, .int rv1.2.1, .int rv1.2.2.1, .int rv1.2.2.2, .ref t1])), (t1, .inl (cI, 200, .inl t_by)), (b0, .inr (3, [.int rv2.1, .ref b1, .ref b2, .ref b3, .ref b4, .ref b5])), (b1, .inl (cI, 10, .inl rv2.2.1)), (b2, .inl (cI, 10, .inl rv2.2.2.1)), (b3, .inl (cI, 12, .inl rv2.2.2.2.1)), (b4, .inl (cI, 10, .inl rv2.2.2.2.2.1)), (b5, .inl (cI, 10, .inl rv2.2.2.2.2.2))] H := hP
    have hD : va_D A [(r0, .inr (1, [.int r_cl, .ref t0, .ref r1])), (r1, .inl (cI, 10, .inl r_no)), (t0, .inr (5, [.int t_len, .int rv1.2.1, .int rv1.2.2.1, .int rv1.2.2.2, .ref t1])), (t1, .inl (cI, 200, .inl t_by)), (b0, .inr (3, [.int rv2.1, .ref b1, .ref b2, .ref b3, .ref b4, .ref b5])), (b1, .inl (cI, 10, .inl rv2.2.1)), (b2, .inl (cI, 10, .inl rv2.2.2.1)), (b3, .inl (cI, 12, .inl rv2.2.2.2.1)), (b4, .inl (cI, 10, .inl rv2.2.2.2.2.1)), (b5, .inl (cI, 10, .inl rv2.2.2.2.2.2))] := hD
    refine lv_iconst (v := (nI 1)) hx hb dX1_readSections_20 ic_1 ?_
    cases hf
    exact W.zret hx hb hr zbl_1.1 (fun t ht _ => ⟨⟨rfl, by rw [ht]; exact hP, hD⟩, hS.F ht⟩) hS.2.2 dX1_readSections_21
  · have hf := ifp hc hf
    refine lv_iconst (v := (nI 0)) hx hb dX1_readSections_13 ic_0 ?_
    cases hf
    exact W.zret hx hb hr zbl_0.1 (fun t ht _ => ⟨⟨rfl, by rw [ht]; exact (hP.sub [6, 7, 8, 9, 0, 1, 2, 3, 4, 5] rfl), (hD.sub [6, 7, 8, 9, 0, 1, 2, 3, 4, 5] (by decide) rfl)⟩, hS.F ht⟩) hS.2.2 dX1_readSections_14
