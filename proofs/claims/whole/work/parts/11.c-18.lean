theorem hdc_X3_init : yX3_init.cls ≠ "java/lang/invoke/MethodHandle" ∧ yX3_init.cls ≠ "java/lang/invoke/VarHandle" ∧ (parseMethodDescriptor yX3_init.desc).map (fun d => d.parameters.length) = some 0 := by decide +kernel
set_option maxHeartbeats 8000000 in
set_option maxRecDepth 100000 in
theorem c_X3_init (l : Launch) (D : va_G) (cI cZ cM : ClassId) (a0 : Nat) (sz : Nat) (fu : Nat) (v_n : Int32) (v_L : Nat → Int32) (v_U : Nat → Int32) (v_H : Nat → Int32) (v_O : Nat → Int32) (v_B : Nat → Int32) (hf : m_X3_init fu = some (v_n, v_L, v_U, v_H, v_O, v_B)) : Met l yX3_init wsX3_init ({ frames := 1, cells := 5, slots := 52, locals := 22 }) (pM D cI cZ cM sz [(a0, .inr (3, [.int (nI 0), .null, .null, .null, .null, .null]))] [.ref a0]) (qN D (fun f => [(a0, .inr (3, [.int v_n, .ref (f 1), .ref (f 2), .ref (f 3), .ref (f 4), .ref (f 5)])), ((f 1), .inl (cI, 10, .inl v_L)), ((f 2), .inl (cI, 10, .inl v_U)), ((f 3), .inl (cI, 12, .inl v_H)), ((f 4), .inl (cI, 10, .inl v_O)), ((f 5), .inl (cI, 10, .inl v_B))]) (va_A [(a0, .inr (3, [.int (nI 0), .null, .null, .null, .null, .null]))] sz)) 5 52 (va_A [(a0, .inr (3, [.int (nI 0), .null, .null, .null, .null, .null]))] sz) := by
  refine Met.ofW (cc := cX3_init) (maxL := 1) (ret := none) (by decide) rfl ?_
  intro p e s m args below meth c s₁ B hml hv
  obtain ⟨rfl, hsz, hP, hK, hD0⟩ := hv
  have hx := B.exec
  have hb := B.bytes
  have hr := B.returns
  have hts := atoms_spec (ws := wsX3_init) B.pre
  have hown : s.vm.findClass RX3 = some m.cls := findClass_of_methodNamed B.named
  have hlocks := B.notSynchronized
  have hin : meth.name = "<init>" := (name_of_methodNamed B.named B.method).1
  subst hsz
  have hD := hD0.self (sz := s.heap.size)
  generalize hAe : va_A [(a0, .inr (3, [.int (nI 0), .null, .null, .null, .null, .null]))] s.heap.size = A at hD ⊢
  have hA : ∀ q : Nat, s.heap.size ≤ q → A q := fun q h => by rw [← hAe]; exact Or.inr h
  clear hAe hD0
  have hfl_9 := hts (.fieldLink RX3 9 "TermsFirst$Manual" "lengths" "[I") (List.mem_cons_of_mem _ (List.mem_append_left _ (List.mem_of_getElem? (i := 4) rfl)))
  have hfl_15 := hts (.fieldLink RX3 15 "TermsFirst$Manual" "used" "[I") (List.mem_cons_of_mem _ (List.mem_append_left _ (List.mem_of_getElem? (i := 5) rfl)))
  have hfl_18 := hts (.fieldLink RX3 18 "TermsFirst$Manual" "homes" "[I") (List.mem_cons_of_mem _ (List.mem_append_left _ (List.mem_of_getElem? (i := 6) rfl)))
  have hfl_21 := hts (.fieldLink RX3 21 "TermsFirst$Manual" "order" "[I") (List.mem_cons_of_mem _ (List.mem_append_left _ (List.mem_of_getElem? (i := 7) rfl)))
  have hfl_24 := hts (.fieldLink RX3 24 "TermsFirst$Manual" "before" "[I") (List.mem_cons_of_mem _ (List.mem_append_left _ (List.mem_of_getElem? (i := 8) rfl)))
  have hiX3 : ∀ w ∈ u_ws RX3 TX3 6, w ∈ wsX3_init := fun _ h => (List.mem_cons_of_mem _ (List.mem_append_right _ h))
  have hl := lv_entry ([.ref a0]) (n := 1) (Nat.le_of_ble_eq_true rfl)
  rw [lg_entry_eq]
  generalize (lg_sl ([.ref a0]) ++ List.replicate (1 - (lg_sl ([.ref a0])).length) Slot.unset).toArray = ls at hl ⊢
  have hl : lv_has ls 1 [(0, .ref a0)] := hl
  have hS : va_S A s.heap s.heap [] := va_S.rf
  unfold m_X3_init at hf
  refine lv_aload_n hx hb dX3_init_0 rfl (lv_at hl 0 rfl) ?_
  refine W.objInit hx hb hown (hts (.methodLink RX3 3 objectInit) (List.mem_cons_of_mem _ (List.mem_append_left _ (List.mem_of_getElem? (i := 0) rfl)))) (hts (.instanceMethod objectInit) (List.mem_cons_of_mem _ (List.mem_append_left _ (List.mem_of_getElem? (i := 1) rfl)))) (hts (.code objectInit ⟨#[0xb1]⟩ 1 none) (List.mem_cons_of_mem _ (List.mem_append_left _ (List.mem_of_getElem? (i := 2) rfl)))) rfl (by rw [hml]; exact hl.1) rfl dX3_init_1 (Nat.le_of_ble_eq_true rfl) (Nat.le_of_ble_eq_true rfl) ?_
  refine W.eq (g2 := F0 m 4 ls []) rfl ?_
  refine lv_aload_n hx hb dX3_init_4 rfl (lv_at hl 0 rfl) ?_
  refine lv_bipush (v := (nI 10)) hx hb dX3_init_5 bp_10 ?_
  refine newA (atype := .int) (ty := .int) (cA0 := cI) (a0 := (10, .inl (fun _ => (nI 0)))) hx hb (hts (.arrayClass .int) (List.mem_cons_of_mem _ (List.mem_append_left _ (List.mem_of_getElem? (i := 3) rfl)))) rfl hK.1 0 rfl hP hD hS hA (fun _ => rfl) (by decide) (by decide) (by decide) (Nat.le_of_ble_eq_true rfl) (Nat.le_of_ble_eq_true rfl) dX3_init_7 (fun n1 H hP hD hS => ?_)
  have hP : va_P D vwCl [(a0, .inr (3, [.int (nI 0), .null, .null, .null, .null, .null])), (n1, .inl (cI, 10, .inl (fun _ => (nI 0))))] H := hP
  have hD : va_D A [(a0, .inr (3, [.int (nI 0), .null, .null, .null, .null, .null])), (n1, .inl (cI, 10, .inl (fun _ => (nI 0))))] := hD
  refine va_putF (D := D) (ci := 3) (v := .ref n1) (ty := (.array .int)) (C := RX3) (T := TX3) (N := 6) hx hb hts hiX3 tyX3 tyX3_ok nmX3 hown hK.1 hP hD hS 0 rfl rfl 1 (by decide) hfl_9 (fun _ h9 => h9) rfl hin rfl (tyX3_ok 1 (by decide)) rfl rfl (Nat.le_of_ble_eq_true rfl) dX3_init_9 (fun H locs hP hD hS => ?_)
  have hP : va_P D vwCl [(a0, .inr (3, [.int (nI 0), .ref n1, .null, .null, .null, .null])), (n1, .inl (cI, 10, .inl (fun _ => (nI 0))))] H := hP
  have hD : va_D A [(a0, .inr (3, [.int (nI 0), .ref n1, .null, .null, .null, .null])), (n1, .inl (cI, 10, .inl (fun _ => (nI 0))))] := hD
  refine lv_aload_n hx hb dX3_init_12 rfl (lv_at hl 0 rfl) ?_
  refine lv_bipush (v := (nI 10)) hx hb dX3_init_13 bp_10 ?_
  refine newA (atype := .int) (ty := .int) (cA0 := cI) (a0 := (10, .inl (fun _ => (nI 0)))) hx hb (hts (.arrayClass .int) (List.mem_cons_of_mem _ (List.mem_append_left _ (List.mem_of_getElem? (i := 3) rfl)))) rfl hK.1 0 rfl hP hD hS hA (fun _ => rfl) (by decide) (by decide) (by decide) (Nat.le_of_ble_eq_true rfl) (Nat.le_of_ble_eq_true rfl) dX3_init_15 (fun n2 H hP hD hS => ?_)
  have hP : va_P D vwCl [(a0, .inr (3, [.int (nI 0), .ref n1, .null, .null, .null, .null])), (n1, .inl (cI, 10, .inl (fun _ => (nI 0)))), (n2, .inl (cI, 10, .inl (fun _ => (nI 0))))] H := hP
  have hD : va_D A [(a0, .inr (3, [.int (nI 0), .ref n1, .null, .null, .null, .null])), (n1, .inl (cI, 10, .inl (fun _ => (nI 0)))), (n2, .inl (cI, 10, .inl (fun _ => (nI 0))))] := hD
  refine va_putF (D := D) (ci := 3) (v := .ref n2) (ty := (.array .int)) (C := RX3) (T := TX3) (N := 6) hx hb hts hiX3 tyX3 tyX3_ok nmX3 hown hK.1 hP hD hS 0 rfl rfl 2 (by decide) hfl_15 (fun _ h9 => h9) rfl hin rfl (tyX3_ok 2 (by decide)) rfl rfl (Nat.le_of_ble_eq_true rfl) dX3_init_17 (fun H locs hP hD hS => ?_)
  have hP : va_P D vwCl [(a0, .inr (3, [.int (nI 0), .ref n1, .ref n2, .null, .null, .null])), (n1, .inl (cI, 10, .inl (fun _ => (nI 0)))), (n2, .inl (cI, 10, .inl (fun _ => (nI 0))))] H := hP
  have hD : va_D A [(a0, .inr (3, [.int (nI 0), .ref n1, .ref n2, .null, .null, .null])), (n1, .inl (cI, 10, .inl (fun _ => (nI 0)))), (n2, .inl (cI, 10, .inl (fun _ => (nI 0))))] := hD
  refine lv_aload_n hx hb dX3_init_20 rfl (lv_at hl 0 rfl) ?_
  refine lv_bipush (v := (nI 12)) hx hb dX3_init_21 bp_12 ?_
  refine newA (atype := .int) (ty := .int) (cA0 := cI) (a0 := (12, .inl (fun _ => (nI 0)))) hx hb (hts (.arrayClass .int) (List.mem_cons_of_mem _ (List.mem_append_left _ (List.mem_of_getElem? (i := 3) rfl)))) rfl hK.1 0 rfl hP hD hS hA (fun _ => rfl) (by decide) (by decide) (by decide) (Nat.le_of_ble_eq_true rfl) (Nat.le_of_ble_eq_true rfl) dX3_init_23 (fun n3 H hP hD hS => ?_)
  have hP : va_P D vwCl [(a0, .inr (3, [.int (nI 0), .ref n1, .ref n2, .null, .null, .null])), (n1, .inl (cI, 10, .inl (fun _ => (nI 0)))), (n2, .inl (cI, 10, .inl (fun _ => (nI 0)))), (n3, .inl (cI, 12, .inl (fun _ => (nI 0))))] H := hP
  have hD : va_D A [(a0, .inr (3, [.int (nI 0), .ref n1, .ref n2, .null, .null, .null])), (n1, .inl (cI, 10, .inl (fun _ => (nI 0)))), (n2, .inl (cI, 10, .inl (fun _ => (nI 0)))), (n3, .inl (cI, 12, .inl (fun _ => (nI 0))))] := hD
  refine va_putF (D := D) (ci := 3) (v := .ref n3) (ty := (.array .int)) (C := RX3) (T := TX3) (N := 6) hx hb hts hiX3 tyX3 tyX3_ok nmX3 hown hK.1 hP hD hS 0 rfl rfl 3 (by decide) hfl_18 (fun _ h9 => h9) rfl hin rfl (tyX3_ok 3 (by decide)) rfl rfl (Nat.le_of_ble_eq_true rfl) dX3_init_25 (fun H locs hP hD hS => ?_)
  have hP : va_P D vwCl [(a0, .inr (3, [.int (nI 0), .ref n1, .ref n2, .ref n3, .null, .null])), (n1, .inl (cI, 10, .inl (fun _ => (nI 0)))), (n2, .inl (cI, 10, .inl (fun _ => (nI 0)))), (n3, .inl (cI, 12, .inl (fun _ => (nI 0))))] H := hP
  have hD : va_D A [(a0, .inr (3, [.int (nI 0), .ref n1, .ref n2, .ref n3, .null, .null])), (n1, .inl (cI, 10, .inl (fun _ => (nI 0)))), (n2, .inl (cI, 10, .inl (fun _ => (nI 0)))), (n3, .inl (cI, 12, .inl (fun _ => (nI 0))))] := hD
  refine lv_aload_n hx hb dX3_init_28 rfl (lv_at hl 0 rfl) ?_
  refine lv_bipush (v := (nI 10)) hx hb dX3_init_29 bp_10 ?_
  refine newA (atype := .int) (ty := .int) (cA0 := cI) (a0 := (10, .inl (fun _ => (nI 0)))) hx hb (hts (.arrayClass .int) (List.mem_cons_of_mem _ (List.mem_append_left _ (List.mem_of_getElem? (i := 3) rfl)))) rfl hK.1 0 rfl hP hD hS hA (fun _ => rfl) (by decide) (by decide) (by decide) (Nat.le_of_ble_eq_true rfl) (Nat.le_of_ble_eq_true rfl) dX3_init_31 (fun n4 H hP hD hS => ?_)
  have hP : va_P D vwCl [(a0, .inr (3, [.int (nI 0), .ref n1, .ref n2, .ref n3, .null, .null])), (n1, .inl (cI, 10, .inl (fun _ => (nI 0)))), (n2, .inl (cI, 10, .inl (fun _ => (nI 0)))), (n3, .inl (cI, 12, .inl (fun _ => (nI 0)))), (n4, .inl (cI, 10, .inl (fun _ => (nI 0))))] H := hP
  have hD : va_D A [(a0, .inr (3, [.int (nI 0), .ref n1, .ref n2, .ref n3, .null, .null])), (n1, .inl (cI, 10, .inl (fun _ => (nI 0)))), (n2, .inl (cI, 10, .inl (fun _ => (nI 0)))), (n3, .inl (cI, 12, .inl (fun _ => (nI 0)))), (n4, .inl (cI, 10, .inl (fun _ => (nI 0))))] := hD
  refine va_putF (D := D) (ci := 3) (v := .ref n4) (ty := (.array .int)) (C := RX3) (T := TX3) (N := 6) hx hb hts hiX3 tyX3 tyX3_ok nmX3 hown hK.1 hP hD hS 0 rfl rfl 4 (by decide) hfl_21 (fun _ h9 => h9) rfl hin rfl (tyX3_ok 4 (by decide)) rfl rfl (Nat.le_of_ble_eq_true rfl) dX3_init_33 (fun H locs hP hD hS => ?_)
  have hP : va_P D vwCl [(a0, .inr (3, [.int (nI 0), .ref n1, .ref n2, .ref n3, .ref n4, .null])), (n1, .inl (cI, 10, .inl (fun _ => (nI 0)))), (n2, .inl (cI, 10, .inl (fun _ => (nI 0)))), (n3, .inl (cI, 12, .inl (fun _ => (nI 0)))), (n4, .inl (cI, 10, .inl (fun _ => (nI 0))))] H := hP
  have hD : va_D A [(a0, .inr (3, [.int (nI 0), .ref n1, .ref n2, .ref n3, .ref n4, .null])), (n1, .inl (cI, 10, .inl (fun _ => (nI 0)))), (n2, .inl (cI, 10, .inl (fun _ => (nI 0)))), (n3, .inl (cI, 12, .inl (fun _ => (nI 0)))), (n4, .inl (cI, 10, .inl (fun _ => (nI 0))))] := hD
  refine lv_aload_n hx hb dX3_init_36 rfl (lv_at hl 0 rfl) ?_
  refine lv_bipush (v := (nI 10)) hx hb dX3_init_37 bp_10 ?_
  refine newA (atype := .int) (ty := .int) (cA0 := cI) (a0 := (10, .inl (fun _ => (nI 0)))) hx hb (hts (.arrayClass .int) (List.mem_cons_of_mem _ (List.mem_append_left _ (List.mem_of_getElem? (i := 3) rfl)))) rfl hK.1 0 rfl hP hD hS hA (fun _ => rfl) (by decide) (by decide) (by decide) (Nat.le_of_ble_eq_true rfl) (Nat.le_of_ble_eq_true rfl) dX3_init_39 (fun n5 H hP hD hS => ?_)
  have hP : va_P D vwCl [(a0, .inr (3, [.int (nI 0), .ref n1, .ref n2, .ref n3, .ref n4, .null])), (n1, .inl (cI, 10, .inl (fun _ => (nI 0)))), (n2, .inl (cI, 10, .inl (fun _ => (nI 0)))), (n3, .inl (cI, 12, .inl (fun _ => (nI 0)))), (n4, .inl (cI, 10, .inl (fun _ => (nI 0)))), (n5, .inl (cI, 10, .inl (fun _ => (nI 0))))] H := hP
  have hD : va_D A [(a0, .inr (3, [.int (nI 0), .ref n1, .ref n2, .ref n3, .ref n4, .null])), (n1, .inl (cI, 10, .inl (fun _ => (nI 0)))), (n2, .inl (cI, 10, .inl (fun _ => (nI 0)))), (n3, .inl (cI, 12, .inl (fun _ => (nI 0)))), (n4, .inl (cI, 10, .inl (fun _ => (nI 0)))), (n5, .inl (cI, 10, .inl (fun _ => (nI 0))))] := hD
  refine va_putF (D := D) (ci := 3) (v := .ref n5) (ty := (.array .int)) (C := RX3) (T := TX3) (N := 6) hx hb hts hiX3 tyX3 tyX3_ok nmX3 hown hK.1 hP hD hS 0 rfl rfl 5 (by decide) hfl_24 (fun _ h9 => h9) rfl hin rfl (tyX3_ok 5 (by decide)) rfl rfl (Nat.le_of_ble_eq_true rfl) dX3_init_41 (fun H locs hP hD hS => ?_)
  have hP : va_P D vwCl [(a0, .inr (3, [.int (nI 0), .ref n1, .ref n2, .ref n3, .ref n4, .ref n5])), (n1, .inl (cI, 10, .inl (fun _ => (nI 0)))), (n2, .inl (cI, 10, .inl (fun _ => (nI 0)))), (n3, .inl (cI, 12, .inl (fun _ => (nI 0)))), (n4, .inl (cI, 10, .inl (fun _ => (nI 0)))), (n5, .inl (cI, 10, .inl (fun _ => (nI 0))))] H := hP
  have hD : va_D A [(a0, .inr (3, [.int (nI 0), .ref n1, .ref n2, .ref n3, .ref n4, .ref n5])), (n1, .inl (cI, 10, .inl (fun _ => (nI 0)))), (n2, .inl (cI, 10, .inl (fun _ => (nI 0)))), (n3, .inl (cI, 12, .inl (fun _ => (nI 0)))), (n4, .inl (cI, 10, .inl (fun _ => (nI 0)))), (n5, .inl (cI, 10, .inl (fun _ => (nI 0))))] := hD
  refine lv_aload_n hx hb dX3_init_44 rfl (lv_at hl 0 rfl) ?_
  refine lv_iconst (v := (nI 4)) hx hb dX3_init_45 ic_4 ?_
  refine muV (wr := []) (va_runV (As := [.int (nI 4)]) (rest := []) ⟨hx, hb, hml, hown, hts⟩ (c_X3_beginAnew l D cI cZ cM a0 n1 n2 n3 n4 n5 H.size (nI 0) (fun _ => (nI 0)) (fun _ => (nI 0)) (fun _ => (nI 0)) (fun _ => (nI 0)) (fun _ => (nI 0)) (nI 4) fu v_n v_L v_U v_H v_O v_B hf) (cwV 1 hts gX3_init_X3_beginAnew rfl rfl rfl ⟨rfl, hdc_X3_beginAnew⟩ ⟨(Nat.le_of_ble_eq_true rfl), (Nat.le_of_ble_eq_true rfl)⟩) (pmV hK hP hD [0, 1, 2, 3, 4, 5] (by decide) rfl rfl (ci := 3) (q0 := 0) rfl rfl) rfl rfl hl.1 rfl (lv_room (Nat.le_of_ble_eq_true rfl)) dX3_init_46 ⟨(Nat.le_of_ble_eq_true rfl), (Nat.le_of_ble_eq_true rfl)⟩) hP hD hS hA [0, 1, 2, 3, 4, 5] [] rfl rfl (by decide) (by decide) (fun H locs hP hD hS => ?_)
  have hP : va_P D vwCl [(a0, .inr (3, [.int v_n, .ref n1, .ref n2, .ref n3, .ref n4, .ref n5])), (n1, .inl (cI, 10, .inl v_L)), (n2, .inl (cI, 10, .inl v_U)), (n3, .inl (cI, 12, .inl v_H)), (n4, .inl (cI, 10, .inl v_O)), (n5, .inl (cI, 10, .inl v_B))] H := hP
  have hD : va_D A [(a0, .inr (3, [.int v_n, .ref n1, .ref n2, .ref n3, .ref n4, .ref n5])), (n1, .inl (cI, 10, .inl v_L)), (n2, .inl (cI, 10, .inl v_U)), (n3, .inl (cI, 12, .inl v_H)), (n4, .inl (cI, 10, .inl v_O)), (n5, .inl (cI, 10, .inl v_B))] := hD
  refine W.widen (k := 5) (n := 52) (Nat.le_of_ble_eq_true rfl) (Nat.le_of_ble_eq_true rfl) ?_
  exact W.vret hx hb hr (fun t ht _ => ⟨⟨rfl, (fun i => ([0, n1, n2, n3, n4, n5] : List Nat).getD i 0), by rw [ht]; exact hP.sub [0, 1, 2, 3, 4, 5] rfl, hD.sub [0, 1, 2, 3, 4, 5] (by decide +kernel) rfl⟩, hS.F ht⟩) hS.2.2 dX3_init_49
theorem hdc_X5_init : yX5_init.cls ≠ "java/lang/invoke/MethodHandle" ∧ yX5_init.cls ≠ "java/lang/invoke/VarHandle" ∧ (parseMethodDescriptor yX5_init.desc).map (fun d => d.parameters.length) = some 0 := by decide +kernel
set_option maxHeartbeats 8000000 in
set_option maxRecDepth 100000 in
theorem c_X5_init (l : Launch) (D : va_G) (cI cZ cM : ClassId) (t0 : Nat) (sz : Nat) : Met l yX5_init wsX5_init ({ frames := 1, cells := 1, slots := 200, locals := 12 }) (pM D cI cZ cM sz [(t0, .inr (5, [.int (nI 0), .int (nI 0), .int (nI 0), .int (nI 0), .null]))] [.ref t0]) (qN D (fun f => [(t0, .inr (5, [.int (nI 0), .int (nI 0), .int (nI 0), .int (nI 0), .ref (f 1)])), ((f 1), .inl (cI, 200, .inl (fun _ => (nI 0))))]) (va_A [(t0, .inr (5, [.int (nI 0), .int (nI 0), .int (nI 0), .int (nI 0), .null]))] sz)) 1 200 (va_A [(t0, .inr (5, [.int (nI 0), .int (nI 0), .int (nI 0), .int (nI 0), .null]))] sz) := by
  refine Met.ofW (cc := cX5_init) (maxL := 1) (ret := none) (by decide) rfl ?_
  intro p e s m args below meth c s₁ B hml hv
  obtain ⟨rfl, hsz, hP, hK, hD0⟩ := hv
  have hx := B.exec
  have hb := B.bytes
  have hr := B.returns
  have hts := atoms_spec (ws := wsX5_init) B.pre
  have hown : s.vm.findClass RX5 = some m.cls := findClass_of_methodNamed B.named
  have hlocks := B.notSynchronized
  have hin : meth.name = "<init>" := (name_of_methodNamed B.named B.method).1
  subst hsz
  have hD := hD0.self (sz := s.heap.size)
  generalize hAe : va_A [(t0, .inr (5, [.int (nI 0), .int (nI 0), .int (nI 0), .int (nI 0), .null]))] s.heap.size = A at hD ⊢
  have hA : ∀ q : Nat, s.heap.size ≤ q → A q := fun q h => by rw [← hAe]; exact Or.inr h
  clear hAe hD0
  have hfl_9 := hts (.fieldLink RX5 9 "TermsFirst$Text" "length" "I") (List.mem_cons_of_mem _ (List.mem_append_left _ (List.mem_of_getElem? (i := 3) rfl)))
  have hfl_15 := hts (.fieldLink RX5 15 "TermsFirst$Text" "start" "I") (List.mem_cons_of_mem _ (List.mem_append_left _ (List.mem_of_getElem? (i := 4) rfl)))
  have hfl_18 := hts (.fieldLink RX5 18 "TermsFirst$Text" "next" "I") (List.mem_cons_of_mem _ (List.mem_append_left _ (List.mem_of_getElem? (i := 5) rfl)))
  have hfl_21 := hts (.fieldLink RX5 21 "TermsFirst$Text" "kind" "I") (List.mem_cons_of_mem _ (List.mem_append_left _ (List.mem_of_getElem? (i := 6) rfl)))
  have hfl_24 := hts (.fieldLink RX5 24 "TermsFirst$Text" "bytes" "[I") (List.mem_cons_of_mem _ (List.mem_append_left _ (List.mem_of_getElem? (i := 8) rfl)))
  have hiX5 : ∀ w ∈ u_ws RX5 TX5 5, w ∈ wsX5_init := fun _ h => (List.mem_cons_of_mem _ (List.mem_append_right _ h))
  have hl := lv_entry ([.ref t0]) (n := 1) (Nat.le_of_ble_eq_true rfl)
  rw [lg_entry_eq]
  generalize (lg_sl ([.ref t0]) ++ List.replicate (1 - (lg_sl ([.ref t0])).length) Slot.unset).toArray = ls at hl ⊢
  have hl : lv_has ls 1 [(0, .ref t0)] := hl
  have hS : va_S A s.heap s.heap [] := va_S.rf
  refine lv_aload_n hx hb dX5_init_0 rfl (lv_at hl 0 rfl) ?_
  refine W.objInit hx hb hown (hts (.methodLink RX5 3 objectInit) (List.mem_cons_of_mem _ (List.mem_append_left _ (List.mem_of_getElem? (i := 0) rfl)))) (hts (.instanceMethod objectInit) (List.mem_cons_of_mem _ (List.mem_append_left _ (List.mem_of_getElem? (i := 1) rfl)))) (hts (.code objectInit ⟨#[0xb1]⟩ 1 none) (List.mem_cons_of_mem _ (List.mem_append_left _ (List.mem_of_getElem? (i := 2) rfl)))) rfl (by rw [hml]; exact hl.1) rfl dX5_init_1 (Nat.le_of_ble_eq_true rfl) (Nat.le_of_ble_eq_true rfl) ?_
  refine W.eq (g2 := F0 m 4 ls []) rfl ?_
  refine lv_aload_n hx hb dX5_init_4 rfl (lv_at hl 0 rfl) ?_
  refine lv_iconst (v := (nI 0)) hx hb dX5_init_5 ic_0 ?_
  refine va_put (D := D) (ci := 5) (v := .int (nI 0)) (ty := .int) (C := RX5) (T := TX5) (N := 5) hx hb hts hiX5 tyX5 tyX5_ok nmX5 hown hK.1 hP hD hS 0 rfl rfl 0 (by decide) hfl_9 (fun _ h9 => h9) rfl (tyX5_ok 0 (by decide)) rfl rfl (Nat.le_of_ble_eq_true rfl) dX5_init_6 (fun H locs hP hD hS => ?_)
  have hP : va_P D vwCl [(t0, .inr (5, [.int (nI 0), .int (nI 0), .int (nI 0), .int (nI 0), .null]))] H := hP
  have hD : va_D A [(t0, .inr (5, [.int (nI 0), .int (nI 0), .int (nI 0), .int (nI 0), .null]))] := hD
  refine lv_aload_n hx hb dX5_init_9 rfl (lv_at hl 0 rfl) ?_
  refine lv_iconst (v := (nI 0)) hx hb dX5_init_10 ic_0 ?_
  refine va_put (D := D) (ci := 5) (v := .int (nI 0)) (ty := .int) (C := RX5) (T := TX5) (N := 5) hx hb hts hiX5 tyX5 tyX5_ok nmX5 hown hK.1 hP hD hS 0 rfl rfl 1 (by decide) hfl_15 (fun _ h9 => h9) rfl (tyX5_ok 1 (by decide)) rfl rfl (Nat.le_of_ble_eq_true rfl) dX5_init_11 (fun H locs hP hD hS => ?_)
  have hP : va_P D vwCl [(t0, .inr (5, [.int (nI 0), .int (nI 0), .int (nI 0), .int (nI 0), .null]))] H := hP
  have hD : va_D A [(t0, .inr (5, [.int (nI 0), .int (nI 0), .int (nI 0), .int (nI 0), .null]))] := hD
  refine lv_aload_n hx hb dX5_init_14 rfl (lv_at hl 0 rfl) ?_
  refine lv_iconst (v := (nI 0)) hx hb dX5_init_15 ic_0 ?_
  refine va_put (D := D) (ci := 5) (v := .int (nI 0)) (ty := .int) (C := RX5) (T := TX5) (N := 5) hx hb hts hiX5 tyX5 tyX5_ok nmX5 hown hK.1 hP hD hS 0 rfl rfl 2 (by decide) hfl_18 (fun _ h9 => h9) rfl (tyX5_ok 2 (by decide)) rfl rfl (Nat.le_of_ble_eq_true rfl) dX5_init_16 (fun H locs hP hD hS => ?_)
  have hP : va_P D vwCl [(t0, .inr (5, [.int (nI 0), .int (nI 0), .int (nI 0), .int (nI 0), .null]))] H := hP
  have hD : va_D A [(t0, .inr (5, [.int (nI 0), .int (nI 0), .int (nI 0), .int (nI 0), .null]))] := hD
  refine lv_aload_n hx hb dX5_init_19 rfl (lv_at hl 0 rfl) ?_
  refine lv_iconst (v := (nI 0)) hx hb dX5_init_20 ic_0 ?_
  refine va_put (D := D) (ci := 5) (v := .int (nI 0)) (ty := .int) (C := RX5) (T := TX5) (N := 5) hx hb hts hiX5 tyX5 tyX5_ok nmX5 hown hK.1 hP hD hS 0 rfl rfl 3 (by decide) hfl_21 (fun _ h9 => h9) rfl (tyX5_ok 3 (by decide)) rfl rfl (Nat.le_of_ble_eq_true rfl) dX5_init_21 (fun H locs hP hD hS => ?_)
  have hP : va_P D vwCl [(t0, .inr (5, [.int (nI 0), .int (nI 0), .int (nI 0), .int (nI 0), .null]))] H := hP
  have hD : va_D A [(t0, .inr (5, [.int (nI 0), .int (nI 0), .int (nI 0), .int (nI 0), .null]))] := hD
  refine lv_aload_n hx hb dX5_init_24 rfl (lv_at hl 0 rfl) ?_
  refine lv_sipush (v := (nI 200)) hx hb dX5_init_25 sp_200 ?_
  refine newA (atype := .int) (ty := .int) (cA0 := cI) (a0 := (200, .inl (fun _ => (nI 0)))) hx hb (hts (.arrayClass .int) (List.mem_cons_of_mem _ (List.mem_append_left _ (List.mem_of_getElem? (i := 7) rfl)))) rfl hK.1 0 rfl hP hD hS hA (fun _ => rfl) (by decide) (by decide) (by decide) (Nat.le_of_ble_eq_true rfl) (Nat.le_of_ble_eq_true rfl) dX5_init_28 (fun n1 H hP hD hS => ?_)
  have hP : va_P D vwCl [(t0, .inr (5, [.int (nI 0), .int (nI 0), .int (nI 0), .int (nI 0), .null])), (n1, .inl (cI, 200, .inl (fun _ => (nI 0))))] H := hP
  have hD : va_D A [(t0, .inr (5, [.int (nI 0), .int (nI 0), .int (nI 0), .int (nI 0), .null])), (n1, .inl (cI, 200, .inl (fun _ => (nI 0))))] := hD
  refine va_putF (D := D) (ci := 5) (v := .ref n1) (ty := (.array .int)) (C := RX5) (T := TX5) (N := 5) hx hb hts hiX5 tyX5 tyX5_ok nmX5 hown hK.1 hP hD hS 0 rfl rfl 4 (by decide) hfl_24 (fun _ h9 => h9) rfl hin rfl (tyX5_ok 4 (by decide)) rfl rfl (Nat.le_of_ble_eq_true rfl) dX5_init_30 (fun H locs hP hD hS => ?_)
  have hP : va_P D vwCl [(t0, .inr (5, [.int (nI 0), .int (nI 0), .int (nI 0), .int (nI 0), .ref n1])), (n1, .inl (cI, 200, .inl (fun _ => (nI 0))))] H := hP
  have hD : va_D A [(t0, .inr (5, [.int (nI 0), .int (nI 0), .int (nI 0), .int (nI 0), .ref n1])), (n1, .inl (cI, 200, .inl (fun _ => (nI 0))))] := hD
  refine W.widen (k := 1) (n := 200) (Nat.le_of_ble_eq_true rfl) (Nat.le_of_ble_eq_true rfl) ?_
  exact W.vret hx hb hr (fun t ht _ => ⟨⟨rfl, (fun i => ([0, n1] : List Nat).getD i 0), by rw [ht]; exact hP.sub [0, 1] rfl, hD.sub [0, 1] (by decide +kernel) rfl⟩, hS.F ht⟩) hS.2.2 dX5_init_33
theorem hdc_X1_init : yX1_init.cls ≠ "java/lang/invoke/MethodHandle" ∧ yX1_init.cls ≠ "java/lang/invoke/VarHandle" ∧ (parseMethodDescriptor yX1_init.desc).map (fun d => d.parameters.length) = some 1 := by decide +kernel
set_option maxHeartbeats 8000000 in
set_option maxRecDepth 100000 in
theorem c_X1_init (l : Launch) (D : va_G) (cI cZ cM : ClassId) (r0 : Nat) (t0 : Nat) (sz : Nat) : Met l yX1_init wsX1_init ({ frames := 1, cells := 1, slots := 10, locals := 12 }) (pM D cI cZ cM sz [(r0, .inr (1, [.int (nI 0), .null, .null]))] [.ref r0, .ref t0]) (qN D (fun f => [(r0, .inr (1, [.int (nI 0), .ref t0, .ref (f 1)])), ((f 1), .inl (cI, 10, .inl (fun _ => (nI 0))))]) (va_A [(r0, .inr (1, [.int (nI 0), .null, .null]))] sz)) 1 10 (va_A [(r0, .inr (1, [.int (nI 0), .null, .null]))] sz) := by
  refine Met.ofW (cc := cX1_init) (maxL := 2) (ret := none) (by decide) rfl ?_
  intro p e s m args below meth c s₁ B hml hv
  obtain ⟨rfl, hsz, hP, hK, hD0⟩ := hv
  have hx := B.exec
  have hb := B.bytes
  have hr := B.returns
  have hts := atoms_spec (ws := wsX1_init) B.pre
  have hown : s.vm.findClass RX1 = some m.cls := findClass_of_methodNamed B.named
  have hlocks := B.notSynchronized
  have hin : meth.name = "<init>" := (name_of_methodNamed B.named B.method).1
  subst hsz
  have hD := hD0.self (sz := s.heap.size)
  generalize hAe : va_A [(r0, .inr (1, [.int (nI 0), .null, .null]))] s.heap.size = A at hD ⊢
  have hA : ∀ q : Nat, s.heap.size ≤ q → A q := fun q h => by rw [← hAe]; exact Or.inr h
  clear hAe hD0
  have hfl_9 := hts (.fieldLink RX1 9 "TermsFirst$ClauseReader" "clauses" "I") (List.mem_cons_of_mem _ (List.mem_append_left _ (List.mem_of_getElem? (i := 3) rfl)))
  have hfl_15 := hts (.fieldLink RX1 15 "TermsFirst$ClauseReader" "newOrder" "[I") (List.mem_cons_of_mem _ (List.mem_append_left _ (List.mem_of_getElem? (i := 5) rfl)))
  have hfl_19 := hts (.fieldLink RX1 19 "TermsFirst$ClauseReader" "text" "LTermsFirst$Text;") (List.mem_cons_of_mem _ (List.mem_append_left _ (List.mem_of_getElem? (i := 6) rfl)))
  have hiX1 : ∀ w ∈ u_ws RX1 TX1 3, w ∈ wsX1_init := fun _ h => (List.mem_cons_of_mem _ (List.mem_append_right _ h))
  have hl := lv_entry ([.ref r0, .ref t0]) (n := 2) (Nat.le_of_ble_eq_true rfl)
  rw [lg_entry_eq]
  generalize (lg_sl ([.ref r0, .ref t0]) ++ List.replicate (2 - (lg_sl ([.ref r0, .ref t0])).length) Slot.unset).toArray = ls at hl ⊢
  have hl : lv_has ls 2 [(0, .ref r0), (1, .ref t0)] := hl
  have hS : va_S A s.heap s.heap [] := va_S.rf
  refine lv_aload_n hx hb dX1_init_0 rfl (lv_at hl 0 rfl) ?_
  refine W.objInit hx hb hown (hts (.methodLink RX1 3 objectInit) (List.mem_cons_of_mem _ (List.mem_append_left _ (List.mem_of_getElem? (i := 0) rfl)))) (hts (.instanceMethod objectInit) (List.mem_cons_of_mem _ (List.mem_append_left _ (List.mem_of_getElem? (i := 1) rfl)))) (hts (.code objectInit ⟨#[0xb1]⟩ 1 none) (List.mem_cons_of_mem _ (List.mem_append_left _ (List.mem_of_getElem? (i := 2) rfl)))) rfl (by rw [hml]; exact hl.1) rfl dX1_init_1 (Nat.le_of_ble_eq_true rfl) (Nat.le_of_ble_eq_true rfl) ?_
  refine W.eq (g2 := F0 m 4 ls []) rfl ?_
  refine lv_aload_n hx hb dX1_init_4 rfl (lv_at hl 0 rfl) ?_
  refine lv_iconst (v := (nI 0)) hx hb dX1_init_5 ic_0 ?_
  refine va_put (D := D) (ci := 1) (v := .int (nI 0)) (ty := .int) (C := RX1) (T := TX1) (N := 3) hx hb hts hiX1 tyX1 tyX1_ok nmX1 hown hK.1 hP hD hS 0 rfl rfl 0 (by decide) hfl_9 (fun _ h9 => h9) rfl (tyX1_ok 0 (by decide)) rfl rfl (Nat.le_of_ble_eq_true rfl) dX1_init_6 (fun H locs hP hD hS => ?_)
  have hP : va_P D vwCl [(r0, .inr (1, [.int (nI 0), .null, .null]))] H := hP
  have hD : va_D A [(r0, .inr (1, [.int (nI 0), .null, .null]))] := hD
  refine lv_aload_n hx hb dX1_init_9 rfl (lv_at hl 0 rfl) ?_
  refine lv_bipush (v := (nI 10)) hx hb dX1_init_10 bp_10 ?_
  refine newA (atype := .int) (ty := .int) (cA0 := cI) (a0 := (10, .inl (fun _ => (nI 0)))) hx hb (hts (.arrayClass .int) (List.mem_cons_of_mem _ (List.mem_append_left _ (List.mem_of_getElem? (i := 4) rfl)))) rfl hK.1 0 rfl hP hD hS hA (fun _ => rfl) (by decide) (by decide) (by decide) (Nat.le_of_ble_eq_true rfl) (Nat.le_of_ble_eq_true rfl) dX1_init_12 (fun n1 H hP hD hS => ?_)
  have hP : va_P D vwCl [(r0, .inr (1, [.int (nI 0), .null, .null])), (n1, .inl (cI, 10, .inl (fun _ => (nI 0))))] H := hP
  have hD : va_D A [(r0, .inr (1, [.int (nI 0), .null, .null])), (n1, .inl (cI, 10, .inl (fun _ => (nI 0))))] := hD
  refine va_putF (D := D) (ci := 1) (v := .ref n1) (ty := (.array .int)) (C := RX1) (T := TX1) (N := 3) hx hb hts hiX1 tyX1 tyX1_ok nmX1 hown hK.1 hP hD hS 0 rfl rfl 2 (by decide) hfl_15 (fun _ h9 => h9) rfl hin rfl (tyX1_ok 2 (by decide)) rfl rfl (Nat.le_of_ble_eq_true rfl) dX1_init_14 (fun H locs hP hD hS => ?_)
  have hP : va_P D vwCl [(r0, .inr (1, [.int (nI 0), .null, .ref n1])), (n1, .inl (cI, 10, .inl (fun _ => (nI 0))))] H := hP
  have hD : va_D A [(r0, .inr (1, [.int (nI 0), .null, .ref n1])), (n1, .inl (cI, 10, .inl (fun _ => (nI 0))))] := hD
  refine lv_aload_n hx hb dX1_init_17 rfl (lv_at hl 0 rfl) ?_
  refine lv_aload_n hx hb dX1_init_18 rfl (lv_at hl 1 rfl) ?_
  refine va_putF (D := D) (ci := 1) (v := .ref t0) (ty := (.object "TermsFirst$Text")) (C := RX1) (T := TX1) (N := 3) hx hb hts hiX1 tyX1 tyX1_ok nmX1 hown hK.1 hP hD hS 0 rfl rfl 1 (by decide) hfl_19 (fun _ h9 => h9) rfl hin rfl (tyX1_ok 1 (by decide)) rfl rfl (Nat.le_of_ble_eq_true rfl) dX1_init_19 (fun H locs hP hD hS => ?_)
  have hP : va_P D vwCl [(r0, .inr (1, [.int (nI 0), .ref t0, .ref n1])), (n1, .inl (cI, 10, .inl (fun _ => (nI 0))))] H := hP
  have hD : va_D A [(r0, .inr (1, [.int (nI 0), .ref t0, .ref n1])), (n1, .inl (cI, 10, .inl (fun _ => (nI 0))))] := hD
  refine W.widen (k := 1) (n := 10) (Nat.le_of_ble_eq_true rfl) (Nat.le_of_ble_eq_true rfl) ?_
  exact W.vret hx hb hr (fun t ht _ => ⟨⟨rfl, (fun i => ([0, n1] : List Nat).getD i 0), by rw [ht]; exact hP.sub [0, 1] rfl, hD.sub [0, 1] (by decide +kernel) rfl⟩, hS.F ht⟩) hS.2.2 dX1_init_22
theorem hdc_X4_init : yX4_init.cls ≠ "java/lang/invoke/MethodHandle" ∧ yX4_init.cls ≠ "java/lang/invoke/VarHandle" ∧ (parseMethodDescriptor yX4_init.desc).map (fun d => d.parameters.length) = some 0 := by decide +kernel
set_option maxHeartbeats 8000000 in
set_option maxRecDepth 100000 in
theorem c_X4_init (l : Launch) (D : va_G) (cI cZ cM : ClassId) (g0 : Nat) (sz : Nat) : Met l yX4_init wsX4_init ({ frames := 1, cells := 4, slots := 41, locals := 12 }) (pM D cI cZ cM sz [(g0, .inr (4, [.int (nI 0), .null, .int (nI 0), .null, .null, .null]))] [.ref g0]) (qN D (fun f => [(g0, .inr (4, [.int (nI 0), .ref (f 1), .int (nI 0), .ref (f 2), .ref (f 3), .ref (f 4)])), ((f 1), .inl (cI, 10, .inl (fun _ => (nI 0)))), ((f 2), .inl (cI, 10, .inl (fun _ => (nI 0)))), ((f 3), .inl (cI, 10, .inl (fun _ => (nI 0)))), ((f 4), .inl (cI, 11, .inl (fun _ => (nI 0))))]) (va_A [(g0, .inr (4, [.int (nI 0), .null, .int (nI 0), .null, .null, .null]))] sz)) 4 41 (va_A [(g0, .inr (4, [.int (nI 0), .null, .int (nI 0), .null, .null, .null]))] sz) := by
  refine Met.ofW (cc := cX4_init) (maxL := 1) (ret := none) (by decide) rfl ?_
  intro p e s m args below meth c s₁ B hml hv
  obtain ⟨rfl, hsz, hP, hK, hD0⟩ := hv
  have hx := B.exec
  have hb := B.bytes
  have hr := B.returns
  have hts := atoms_spec (ws := wsX4_init) B.pre
  have hown : s.vm.findClass RX4 = some m.cls := findClass_of_methodNamed B.named
  have hlocks := B.notSynchronized
  have hin : meth.name = "<init>" := (name_of_methodNamed B.named B.method).1
  subst hsz
  have hD := hD0.self (sz := s.heap.size)
  generalize hAe : va_A [(g0, .inr (4, [.int (nI 0), .null, .int (nI 0), .null, .null, .null]))] s.heap.size = A at hD ⊢
  have hA : ∀ q : Nat, s.heap.size ≤ q → A q := fun q h => by rw [← hAe]; exact Or.inr h
  clear hAe hD0
  have hfl_9 := hts (.fieldLink RX4 9 "TermsFirst$NeedGraph" "ring" "[I") (List.mem_cons_of_mem _ (List.mem_append_left _ (List.mem_of_getElem? (i := 4) rfl)))
  have hfl_15 := hts (.fieldLink RX4 15 "TermsFirst$NeedGraph" "needs" "[I") (List.mem_cons_of_mem _ (List.mem_append_left _ (List.mem_of_getElem? (i := 5) rfl)))
  have hfl_18 := hts (.fieldLink RX4 18 "TermsFirst$NeedGraph" "reach" "[I") (List.mem_cons_of_mem _ (List.mem_append_left _ (List.mem_of_getElem? (i := 6) rfl)))
  have hfl_21 := hts (.fieldLink RX4 21 "TermsFirst$NeedGraph" "toStart" "[I") (List.mem_cons_of_mem _ (List.mem_append_left _ (List.mem_of_getElem? (i := 7) rfl)))
  have hiX4 : ∀ w ∈ u_ws RX4 TX4 6, w ∈ wsX4_init := fun _ h => (List.mem_cons_of_mem _ (List.mem_append_right _ h))
  have hl := lv_entry ([.ref g0]) (n := 1) (Nat.le_of_ble_eq_true rfl)
  rw [lg_entry_eq]
  generalize (lg_sl ([.ref g0]) ++ List.replicate (1 - (lg_sl ([.ref g0])).length) Slot.unset).toArray = ls at hl ⊢
  have hl : lv_has ls 1 [(0, .ref g0)] := hl
  have hS : va_S A s.heap s.heap [] := va_S.rf
  refine lv_aload_n hx hb dX4_init_0 rfl (lv_at hl 0 rfl) ?_
  refine W.objInit hx hb hown (hts (.methodLink RX4 3 objectInit) (List.mem_cons_of_mem _ (List.mem_append_left _ (List.mem_of_getElem? (i := 0) rfl)))) (hts (.instanceMethod objectInit) (List.mem_cons_of_mem _ (List.mem_append_left _ (List.mem_of_getElem? (i := 1) rfl)))) (hts (.code objectInit ⟨#[0xb1]⟩ 1 none) (List.mem_cons_of_mem _ (List.mem_append_left _ (List.mem_of_getElem? (i := 2) rfl)))) rfl (by rw [hml]; exact hl.1) rfl dX4_init_1 (Nat.le_of_ble_eq_true rfl) (Nat.le_of_ble_eq_true rfl) ?_
  refine W.eq (g2 := F0 m 4 ls []) rfl ?_
  refine lv_aload_n hx hb dX4_init_4 rfl (lv_at hl 0 rfl) ?_
  refine lv_bipush (v := (nI 10)) hx hb dX4_init_5 bp_10 ?_
  refine newA (atype := .int) (ty := .int) (cA0 := cI) (a0 := (10, .inl (fun _ => (nI 0)))) hx hb (hts (.arrayClass .int) (List.mem_cons_of_mem _ (List.mem_append_left _ (List.mem_of_getElem? (i := 3) rfl)))) rfl hK.1 0 rfl hP hD hS hA (fun _ => rfl) (by decide) (by decide) (by decide) (Nat.le_of_ble_eq_true rfl) (Nat.le_of_ble_eq_true rfl) dX4_init_7 (fun n1 H hP hD hS => ?_)
  have hP : va_P D vwCl [(g0, .inr (4, [.int (nI 0), .null, .int (nI 0), .null, .null, .null])), (n1, .inl (cI, 10, .inl (fun _ => (nI 0))))] H := hP
  have hD : va_D A [(g0, .inr (4, [.int (nI 0), .null, .int (nI 0), .null, .null, .null])), (n1, .inl (cI, 10, .inl (fun _ => (nI 0))))] := hD
  refine va_putF (D := D) (ci := 4) (v := .ref n1) (ty := (.array .int)) (C := RX4) (T := TX4) (N := 6) hx hb hts hiX4 tyX4 tyX4_ok nmX4 hown hK.1 hP hD hS 0 rfl rfl 1 (by decide) hfl_9 (fun _ h9 => h9) rfl hin rfl (tyX4_ok 1 (by decide)) rfl rfl (Nat.le_of_ble_eq_true rfl) dX4_init_9 (fun H locs hP hD hS => ?_)
  have hP : va_P D vwCl [(g0, .inr (4, [.int (nI 0), .ref n1, .int (nI 0), .null, .null, .null])), (n1, .inl (cI, 10, .inl (fun _ => (nI 0))))] H := hP
  have hD : va_D A [(g0, .inr (4, [.int (nI 0), .ref n1, .int (nI 0), .null, .null, .null])), (n1, .inl (cI, 10, .inl (fun _ => (nI 0))))] := hD
  refine lv_aload_n hx hb dX4_init_12 rfl (lv_at hl 0 rfl) ?_
  refine lv_bipush (v := (nI 10)) hx hb dX4_init_13 bp_10 ?_
  refine newA (atype := .int) (ty := .int) (cA0 := cI) (a0 := (10, .inl (fun _ => (nI 0)))) hx hb (hts (.arrayClass .int) (List.mem_cons_of_mem _ (List.mem_append_left _ (List.mem_of_getElem? (i := 3) rfl)))) rfl hK.1 0 rfl hP hD hS hA (fun _ => rfl) (by decide) (by decide) (by decide) (Nat.le_of_ble_eq_true rfl) (Nat.le_of_ble_eq_true rfl) dX4_init_15 (fun n2 H hP hD hS => ?_)
  have hP : va_P D vwCl [(g0, .inr (4, [.int (nI 0), .ref n1, .int (nI 0), .null, .null, .null])), (n1, .inl (cI, 10, .inl (fun _ => (nI 0)))), (n2, .inl (cI, 10, .inl (fun _ => (nI 0))))] H := hP
  have hD : va_D A [(g0, .inr (4, [.int (nI 0), .ref n1, .int (nI 0), .null, .null, .null])), (n1, .inl (cI, 10, .inl (fun _ => (nI 0)))), (n2, .inl (cI, 10, .inl (fun _ => (nI 0))))] := hD
  refine va_putF (D := D) (ci := 4) (v := .ref n2) (ty := (.array .int)) (C := RX4) (T := TX4) (N := 6) hx hb hts hiX4 tyX4 tyX4_ok nmX4 hown hK.1 hP hD hS 0 rfl rfl 3 (by decide) hfl_15 (fun _ h9 => h9) rfl hin rfl (tyX4_ok 3 (by decide)) rfl rfl (Nat.le_of_ble_eq_true rfl) dX4_init_17 (fun H locs hP hD hS => ?_)
  have hP : va_P D vwCl [(g0, .inr (4, [.int (nI 0), .ref n1, .int (nI 0), .ref n2, .null, .null])), (n1, .inl (cI, 10, .inl (fun _ => (nI 0)))), (n2, .inl (cI, 10, .inl (fun _ => (nI 0))))] H := hP
  have hD : va_D A [(g0, .inr (4, [.int (nI 0), .ref n1, .int (nI 0), .ref n2, .null, .null])), (n1, .inl (cI, 10, .inl (fun _ => (nI 0)))), (n2, .inl (cI, 10, .inl (fun _ => (nI 0))))] := hD
  refine lv_aload_n hx hb dX4_init_20 rfl (lv_at hl 0 rfl) ?_
  refine lv_bipush (v := (nI 10)) hx hb dX4_init_21 bp_10 ?_
  refine newA (atype := .int) (ty := .int) (cA0 := cI) (a0 := (10, .inl (fun _ => (nI 0)))) hx hb (hts (.arrayClass .int) (List.mem_cons_of_mem _ (List.mem_append_left _ (List.mem_of_getElem? (i := 3) rfl)))) rfl hK.1 0 rfl hP hD hS hA (fun _ => rfl) (by decide) (by decide) (by decide) (Nat.le_of_ble_eq_true rfl) (Nat.le_of_ble_eq_true rfl) dX4_init_23 (fun n3 H hP hD hS => ?_)
  have hP : va_P D vwCl [(g0, .inr (4, [.int (nI 0), .ref n1, .int (nI 0), .ref n2, .null, .null])), (n1, .inl (cI, 10, .inl (fun _ => (nI 0)))), (n2, .inl (cI, 10, .inl (fun _ => (nI 0)))), (n3, .inl (cI, 10, .inl (fun _ => (nI 0))))] H := hP
  have hD : va_D A [(g0, .inr (4, [.int (nI 0), .ref n1, .int (nI 0), .ref n2, .null, .null])), (n1, .inl (cI, 10, .inl (fun _ => (nI 0)))), (n2, .inl (cI, 10, .inl (fun _ => (nI 0)))), (n3, .inl (cI, 10, .inl (fun _ => (nI 0))))] := hD
  refine va_putF (D := D) (ci := 4) (v := .ref n3) (ty := (.array .int)) (C := RX4) (T := TX4) (N := 6) hx hb hts hiX4 tyX4 tyX4_ok nmX4 hown hK.1 hP hD hS 0 rfl rfl 4 (by decide) hfl_18 (fun _ h9 => h9) rfl hin rfl (tyX4_ok 4 (by decide)) rfl rfl (Nat.le_of_ble_eq_true rfl) dX4_init_25 (fun H locs hP hD hS => ?_)
  have hP : va_P D vwCl [(g0, .inr (4, [.int (nI 0), .ref n1, .int (nI 0), .ref n2, .ref n3, .null])), (n1, .inl (cI, 10, .inl (fun _ => (nI 0)))), (n2, .inl (cI, 10, .inl (fun _ => (nI 0)))), (n3, .inl (cI, 10, .inl (fun _ => (nI 0))))] H := hP
  have hD : va_D A [(g0, .inr (4, [.int (nI 0), .ref n1, .int (nI 0), .ref n2, .ref n3, .null])), (n1, .inl (cI, 10, .inl (fun _ => (nI 0)))), (n2, .inl (cI, 10, .inl (fun _ => (nI 0)))), (n3, .inl (cI, 10, .inl (fun _ => (nI 0))))] := hD
  refine lv_aload_n hx hb dX4_init_28 rfl (lv_at hl 0 rfl) ?_
  refine lv_bipush (v := (nI 11)) hx hb dX4_init_29 bp_11 ?_
  refine newA (atype := .int) (ty := .int) (cA0 := cI) (a0 := (11, .inl (fun _ => (nI 0)))) hx hb (hts (.arrayClass .int) (List.mem_cons_of_mem _ (List.mem_append_left _ (List.mem_of_getElem? (i := 3) rfl)))) rfl hK.1 0 rfl hP hD hS hA (fun _ => rfl) (by decide) (by decide) (by decide) (Nat.le_of_ble_eq_true rfl) (Nat.le_of_ble_eq_true rfl) dX4_init_31 (fun n4 H hP hD hS => ?_)
  have hP : va_P D vwCl [(g0, .inr (4, [.int (nI 0), .ref n1, .int (nI 0), .ref n2, .ref n3, .null])), (n1, .inl (cI, 10, .inl (fun _ => (nI 0)))), (n2, .inl (cI, 10, .inl (fun _ => (nI 0)))), (n3, .inl (cI, 10, .inl (fun _ => (nI 0)))), (n4, .inl (cI, 11, .inl (fun _ => (nI 0))))] H := hP
  have hD : va_D A [(g0, .inr (4, [.int (nI 0), .ref n1, .int (nI 0), .ref n2, .ref n3, .null])), (n1, .inl (cI, 10, .inl (fun _ => (nI 0)))), (n2, .inl (cI, 10, .inl (fun _ => (nI 0)))), (n3, .inl (cI, 10, .inl (fun _ => (nI 0)))), (n4, .inl (cI, 11, .inl (fun _ => (nI 0))))] := hD
  refine va_putF (D := D) (ci := 4) (v := .ref n4) (ty := (.array .int)) (C := RX4) (T := TX4) (N := 6) hx hb hts hiX4 tyX4 tyX4_ok nmX4 hown hK.1 hP hD hS 0 rfl rfl 5 (by decide) hfl_21 (fun _ h9 => h9) rfl hin rfl (tyX4_ok 5 (by decide)) rfl rfl (Nat.le_of_ble_eq_true rfl) dX4_init_33 (fun H locs hP hD hS => ?_)
  have hP : va_P D vwCl [(g0, .inr (4, [.int (nI 0), .ref n1, .int (nI 0), .ref n2, .ref n3, .ref n4])), (n1, .inl (cI, 10, .inl (fun _ => (nI 0)))), (n2, .inl (cI, 10, .inl (fun _ => (nI 0)))), (n3, .inl (cI, 10, .inl (fun _ => (nI 0)))), (n4, .inl (cI, 11, .inl (fun _ => (nI 0))))] H := hP
  have hD : va_D A [(g0, .inr (4, [.int (nI 0), .ref n1, .int (nI 0), .ref n2, .ref n3, .ref n4])), (n1, .inl (cI, 10, .inl (fun _ => (nI 0)))), (n2, .inl (cI, 10, .inl (fun _ => (nI 0)))), (n3, .inl (cI, 10, .inl (fun _ => (nI 0)))), (n4, .inl (cI, 11, .inl (fun _ => (nI 0))))] := hD
  refine W.widen (k := 4) (n := 41) (Nat.le_of_ble_eq_true rfl) (Nat.le_of_ble_eq_true rfl) ?_
  exact W.vret hx hb hr (fun t ht _ => ⟨⟨rfl, (fun i => ([0, n1, n2, n3, n4] : List Nat).getD i 0), by rw [ht]; exact hP.sub [0, 1, 2, 3, 4] rfl, hD.sub [0, 1, 2, 3, 4] (by decide +kernel) rfl⟩, hS.F ht⟩) hS.2.2 dX4_init_36
theorem hdc_X0_init : yX0_init.cls ≠ "java/lang/invoke/MethodHandle" ∧ yX0_init.cls ≠ "java/lang/invoke/VarHandle" ∧ (parseMethodDescriptor yX0_init.desc).map (fun d => d.parameters.length) = some 0 := by decide +kernel
set_option maxHeartbeats 8000000 in
set_option maxRecDepth 100000 in
theorem c_X0_init (l : Launch) (D : va_G) (cI cZ cM : ClassId) (q0 : Nat) (sz : Nat) (fu : Nat) (v_n : Int32) (v_L : Nat → Int32) (v_U : Nat → Int32) (v_H : Nat → Int32) (v_O : Nat → Int32) (v_B : Nat → Int32) (hf : m_X3_init fu = some (v_n, v_L, v_U, v_H, v_O, v_B)) : Met l yX0_init wsX0_init ({ frames := 2, cells := 11, slots := 3150, locals := 42 }) (pM D cI cZ cM sz [(q0, .inr (0, [.int (nI 0), .int (nI 0), .null, .null, .int (nI 0), .null, .null, .null, .null]))] [.ref q0]) (qN D (fun f => [(q0, .inr (0, [.int (nI 0), .int (nI 0), .ref (f 1), .ref (f 6), .int (nI 0), .ref (f 2), .ref (f 3), .ref (f 4), .ref (f 5)])), ((f 1), .inl (cI, 10, .inl (fun _ => (nI 0)))), ((f 2), .inl (cI, 10, .inl (fun _ => (nI 0)))), ((f 3), .inl (cI, 1024, .inl (fun _ => (nI 0)))), ((f 4), .inl (cI, 1024, .inl (fun _ => (nI 0)))), ((f 5), .inl (cI, 1024, .inl (fun _ => (nI 0)))), ((f 6), .inr (3, [.int v_n, .ref (f 7), .ref (f 8), .ref (f 9), .ref (f 10), .ref (f 11)])), ((f 7), .inl (cI, 10, .inl v_L)), ((f 8), .inl (cI, 10, .inl v_U)), ((f 9), .inl (cI, 12, .inl v_H)), ((f 10), .inl (cI, 10, .inl v_O)), ((f 11), .inl (cI, 10, .inl v_B))]) (va_A [(q0, .inr (0, [.int (nI 0), .int (nI 0), .null, .null, .int (nI 0), .null, .null, .null, .null]))] sz)) 11 3150 (va_A [(q0, .inr (0, [.int (nI 0), .int (nI 0), .null, .null, .int (nI 0), .null, .null, .null, .null]))] sz) := by
  refine Met.ofW (cc := cX0_init) (maxL := 1) (ret := none) (by decide) rfl ?_
  intro p e s m args below meth c s₁ B hml hv
  obtain ⟨rfl, hsz, hP, hK, hD0⟩ := hv
  have hx := B.exec
  have hb := B.bytes
  have hr := B.returns
  have hts := atoms_spec (ws := wsX0_init) B.pre
  have hown : s.vm.findClass RX0 = some m.cls := findClass_of_methodNamed B.named
  have hlocks := B.notSynchronized
  have hin : meth.name = "<init>" := (name_of_methodNamed B.named B.method).1
  subst hsz
  have hD := hD0.self (sz := s.heap.size)
  generalize hAe : va_A [(q0, .inr (0, [.int (nI 0), .int (nI 0), .null, .null, .int (nI 0), .null, .null, .null, .null]))] s.heap.size = A at hD ⊢
  have hA : ∀ q : Nat, s.heap.size ≤ q → A q := fun q h => by rw [← hAe]; exact Or.inr h
  clear hAe hD0
  have hfl_9 := hts (.fieldLink RX0 9 "TermsFirst$BestOrder" "notes" "I") (List.mem_cons_of_mem _ (List.mem_append_left _ (List.mem_append_left _ (List.mem_append_left _ (List.mem_of_getElem? (i := 3) rfl)))))
  have hfl_15 := hts (.fieldLink RX0 15 "TermsFirst$BestOrder" "inversions" "I") (List.mem_cons_of_mem _ (List.mem_append_left _ (List.mem_append_left _ (List.mem_append_left _ (List.mem_of_getElem? (i := 4) rfl)))))
  have hfl_18 := hts (.fieldLink RX0 18 "TermsFirst$BestOrder" "order" "[I") (List.mem_cons_of_mem _ (List.mem_append_left _ (List.mem_append_left _ (List.mem_append_left _ (List.mem_of_getElem? (i := 6) rfl)))))
  have hfl_25 := hts (.fieldLink RX0 25 "TermsFirst$BestOrder" "manual" "LTermsFirst$Manual;") (List.mem_cons_of_mem _ (List.mem_append_left _ (List.mem_append_left _ (List.mem_append_left _ (List.mem_of_getElem? (i := 10) rfl)))))
  have hfl_29 := hts (.fieldLink RX0 29 "TermsFirst$BestOrder" "isFound" "Z") (List.mem_cons_of_mem _ (List.mem_append_left _ (List.mem_append_left _ (List.mem_append_left _ (List.mem_of_getElem? (i := 11) rfl)))))
  have hfl_33 := hts (.fieldLink RX0 33 "TermsFirst$BestOrder" "defined" "[I") (List.mem_cons_of_mem _ (List.mem_append_left _ (List.mem_append_left _ (List.mem_append_left _ (List.mem_of_getElem? (i := 12) rfl)))))
  have hfl_36 := hts (.fieldLink RX0 36 "TermsFirst$BestOrder" "seen" "[I") (List.mem_cons_of_mem _ (List.mem_append_left _ (List.mem_append_left _ (List.mem_append_left _ (List.mem_of_getElem? (i := 13) rfl)))))
  have hfl_39 := hts (.fieldLink RX0 39 "TermsFirst$BestOrder" "costs" "[I") (List.mem_cons_of_mem _ (List.mem_append_left _ (List.mem_append_left _ (List.mem_append_left _ (List.mem_of_getElem? (i := 14) rfl)))))
  have hfl_42 := hts (.fieldLink RX0 42 "TermsFirst$BestOrder" "choices" "[I") (List.mem_cons_of_mem _ (List.mem_append_left _ (List.mem_append_left _ (List.mem_append_left _ (List.mem_of_getElem? (i := 15) rfl)))))
  have hiX0 : ∀ w ∈ u_ws RX0 TX0 9, w ∈ wsX0_init := fun _ h => (List.mem_cons_of_mem _ (List.mem_append_left _ (List.mem_append_right _ h)))
  have hiX3 : ∀ w ∈ u_ws RX3 TX3 6, w ∈ wsX0_init := fun _ h => (List.mem_cons_of_mem _ (List.mem_append_right _ h))
  have hl := lv_entry ([.ref q0]) (n := 1) (Nat.le_of_ble_eq_true rfl)
  rw [lg_entry_eq]
  generalize (lg_sl ([.ref q0]) ++ List.replicate (1 - (lg_sl ([.ref q0])).length) Slot.unset).toArray = ls at hl ⊢
  have hl : lv_has ls 1 [(0, .ref q0)] := hl
  have hS : va_S A s.heap s.heap [] := va_S.rf
  refine lv_aload_n hx hb dX0_init_0 rfl (lv_at hl 0 rfl) ?_
  refine W.objInit hx hb hown (hts (.methodLink RX0 3 objectInit) (List.mem_cons_of_mem _ (List.mem_append_left _ (List.mem_append_left _ (List.mem_append_left _ (List.mem_of_getElem? (i := 0) rfl)))))) (hts (.instanceMethod objectInit) (List.mem_cons_of_mem _ (List.mem_append_left _ (List.mem_append_left _ (List.mem_append_left _ (List.mem_of_getElem? (i := 1) rfl)))))) (hts (.code objectInit ⟨#[0xb1]⟩ 1 none) (List.mem_cons_of_mem _ (List.mem_append_left _ (List.mem_append_left _ (List.mem_append_left _ (List.mem_of_getElem? (i := 2) rfl)))))) rfl (by rw [hml]; exact hl.1) rfl dX0_init_1 (Nat.le_of_ble_eq_true rfl) (Nat.le_of_ble_eq_true rfl) ?_
  refine W.eq (g2 := F0 m 4 ls []) rfl ?_
  refine lv_aload_n hx hb dX0_init_4 rfl (lv_at hl 0 rfl) ?_
  refine lv_iconst (v := (nI 0)) hx hb dX0_init_5 ic_0 ?_
  refine va_put (D := D) (ci := 0) (v := .int (nI 0)) (ty := .int) (C := RX0) (T := TX0) (N := 9) hx hb hts hiX0 tyX0 tyX0_ok nmX0 hown hK.1 hP hD hS 0 rfl rfl 0 (by decide) hfl_9 (fun _ h9 => h9) rfl (tyX0_ok 0 (by decide)) rfl rfl (Nat.le_of_ble_eq_true rfl) dX0_init_6 (fun H locs hP hD hS => ?_)
  have hP : va_P D vwCl [(q0, .inr (0, [.int (nI 0), .int (nI 0), .null, .null, .int (nI 0), .null, .null, .null, .null]))] H := hP
  have hD : va_D A [(q0, .inr (0, [.int (nI 0), .int (nI 0), .null, .null, .int (nI 0), .null, .null, .null, .null]))] := hD
  refine lv_aload_n hx hb dX0_init_9 rfl (lv_at hl 0 rfl) ?_
  refine lv_iconst (v := (nI 0)) hx hb dX0_init_10 ic_0 ?_
  refine va_put (D := D) (ci := 0) (v := .int (nI 0)) (ty := .int) (C := RX0) (T := TX0) (N := 9) hx hb hts hiX0 tyX0 tyX0_ok nmX0 hown hK.1 hP hD hS 0 rfl rfl 1 (by decide) hfl_15 (fun _ h9 => h9) rfl (tyX0_ok 1 (by decide)) rfl rfl (Nat.le_of_ble_eq_true rfl) dX0_init_11 (fun H locs hP hD hS => ?_)
  have hP : va_P D vwCl [(q0, .inr (0, [.int (nI 0), .int (nI 0), .null, .null, .int (nI 0), .null, .null, .null, .null]))] H := hP
  have hD : va_D A [(q0, .inr (0, [.int (nI 0), .int (nI 0), .null, .null, .int (nI 0), .null, .null, .null, .null]))] := hD
  refine lv_aload_n hx hb dX0_init_14 rfl (lv_at hl 0 rfl) ?_
  refine lv_bipush (v := (nI 10)) hx hb dX0_init_15 bp_10 ?_
  refine newA (atype := .int) (ty := .int) (cA0 := cI) (a0 := (10, .inl (fun _ => (nI 0)))) hx hb (hts (.arrayClass .int) (List.mem_cons_of_mem _ (List.mem_append_left _ (List.mem_append_left _ (List.mem_append_left _ (List.mem_of_getElem? (i := 5) rfl)))))) rfl hK.1 0 rfl hP hD hS hA (fun _ => rfl) (by decide) (by decide) (by decide) (Nat.le_of_ble_eq_true rfl) (Nat.le_of_ble_eq_true rfl) dX0_init_17 (fun n1 H hP hD hS => ?_)
  have hP : va_P D vwCl [(q0, .inr (0, [.int (nI 0), .int (nI 0), .null, .null, .int (nI 0), .null, .null, .null, .null])), (n1, .inl (cI, 10, .inl (fun _ => (nI 0))))] H := hP
  have hD : va_D A [(q0, .inr (0, [.int (nI 0), .int (nI 0), .null, .null, .int (nI 0), .null, .null, .null, .null])), (n1, .inl (cI, 10, .inl (fun _ => (nI 0))))] := hD
  refine va_putF (D := D) (ci := 0) (v := .ref n1) (ty := (.array .int)) (C := RX0) (T := TX0) (N := 9) hx hb hts hiX0 tyX0 tyX0_ok nmX0 hown hK.1 hP hD hS 0 rfl rfl 2 (by decide) hfl_18 (fun _ h9 => h9) rfl hin rfl (tyX0_ok 2 (by decide)) rfl rfl (Nat.le_of_ble_eq_true rfl) dX0_init_19 (fun H locs hP hD hS => ?_)
  have hP : va_P D vwCl [(q0, .inr (0, [.int (nI 0), .int (nI 0), .ref n1, .null, .int (nI 0), .null, .null, .null, .null])), (n1, .inl (cI, 10, .inl (fun _ => (nI 0))))] H := hP
  have hD : va_D A [(q0, .inr (0, [.int (nI 0), .int (nI 0), .ref n1, .null, .int (nI 0), .null, .null, .null, .null])), (n1, .inl (cI, 10, .inl (fun _ => (nI 0))))] := hD
  refine lv_aload_n hx hb dX0_init_22 rfl (lv_at hl 0 rfl) ?_
  refine va_new (ci := 3) (fs := [.int (nI 0), .null, .null, .null, .null, .null]) (C := RX3) (T := TX3) (N := 6) hx hb hts hiX3 tyX3 tyX3_ok hown (hts (.classLink RX0 22 RX3) (List.mem_cons_of_mem _ (List.mem_append_left _ (List.mem_append_left _ (List.mem_append_left _ (List.mem_of_getElem? (i := 7) rfl)))))) (hts (.instantiable RX3 6) (List.mem_cons_of_mem _ (List.mem_append_left _ (List.mem_append_left _ (List.mem_append_left _ (List.mem_of_getElem? (i := 8) rfl)))))) (hts (.initialized RX3) (List.mem_cons_of_mem _ (List.mem_append_left _ (List.mem_append_left _ (List.mem_append_left _ (List.mem_of_getElem? (i := 9) rfl)))))) hK.1 hP hD hS hA rfl (fun j hj => by rcases (show j = 0 ∨ j = 1 ∨ j = 2 ∨ j = 3 ∨ j = 4 ∨ j = 5 by omega) with rfl | rfl | rfl | rfl | rfl | rfl <;> rfl) (Nat.le_of_ble_eq_true rfl) (Nat.le_of_ble_eq_true rfl) dX0_init_23 (fun n2 H hP hD hS => ?_)
  have hP : va_P D vwCl [(q0, .inr (0, [.int (nI 0), .int (nI 0), .ref n1, .null, .int (nI 0), .null, .null, .null, .null])), (n1, .inl (cI, 10, .inl (fun _ => (nI 0)))), (n2, .inr (3, [.int (nI 0), .null, .null, .null, .null, .null]))] H := hP
  have hD : va_D A [(q0, .inr (0, [.int (nI 0), .int (nI 0), .ref n1, .null, .int (nI 0), .null, .null, .null, .null])), (n1, .inl (cI, 10, .inl (fun _ => (nI 0)))), (n2, .inr (3, [.int (nI 0), .null, .null, .null, .null, .null]))] := hD
  refine lv_dup hx hb dX0_init_26 rfl ?_
  refine muN (wr := [(q0, .inr (0, [.int (nI 0), .int (nI 0), .ref n1, .null, .int (nI 0), .null, .null, .null, .null])), (n1, .inl (cI, 10, .inl (fun _ => (nI 0))))]) (va_runI (As := []) (rest := [.ref n2, .ref q0]) ⟨hx, hb, hml, hown, hts⟩ (c_X3_init l D cI cZ cM n2 H.size fu v_n v_L v_U v_H v_O v_B hf) (cwI 0 hts gX0_init_X3_init rfl rfl rfl (hts (.initialized RX3) (List.mem_cons_of_mem _ (List.mem_append_left _ (List.mem_append_left _ (List.mem_append_left _ (List.mem_of_getElem? (i := 9) rfl)))))) (hts (.methodLink RX0 24 yX3_init) (List.mem_cons_of_mem _ (List.mem_append_left _ (List.mem_append_left _ (List.mem_append_left _ (List.mem_of_getElem? (i := 16) rfl)))))) (hts (.instanceMethod yX3_init) (List.mem_cons_of_mem _ (List.mem_append_left _ (List.mem_append_left _ (List.mem_append_left _ (List.mem_of_getElem? (i := 17) rfl)))))) rfl hdc_X3_init ⟨(Nat.le_of_ble_eq_true rfl), (Nat.le_of_ble_eq_true rfl)⟩) (pmS hK hP hD [2] (by decide) rfl rfl) rfl rfl hl.1 rfl (lv_room (Nat.le_of_ble_eq_true rfl)) dX0_init_27 ⟨(Nat.le_of_ble_eq_true rfl), (Nat.le_of_ble_eq_true rfl)⟩) hP hD hS hA [2] [0, 1] rfl rfl (by decide +kernel) (by decide +kernel) (fun f3 H locs hP hD hS => ?_)
  have hP : va_P D vwCl [(q0, .inr (0, [.int (nI 0), .int (nI 0), .ref n1, .null, .int (nI 0), .null, .null, .null, .null])), (n1, .inl (cI, 10, .inl (fun _ => (nI 0)))), (n2, .inr (3, [.int v_n, .ref (f3 1), .ref (f3 2), .ref (f3 3), .ref (f3 4), .ref (f3 5)])), ((f3 1), .inl (cI, 10, .inl v_L)), ((f3 2), .inl (cI, 10, .inl v_U)), ((f3 3), .inl (cI, 12, .inl v_H)), ((f3 4), .inl (cI, 10, .inl v_O)), ((f3 5), .inl (cI, 10, .inl v_B))] H := hP
  have hD : va_D A [(q0, .inr (0, [.int (nI 0), .int (nI 0), .ref n1, .null, .int (nI 0), .null, .null, .null, .null])), (n1, .inl (cI, 10, .inl (fun _ => (nI 0)))), (n2, .inr (3, [.int v_n, .ref (f3 1), .ref (f3 2), .ref (f3 3), .ref (f3 4), .ref (f3 5)])), ((f3 1), .inl (cI, 10, .inl v_L)), ((f3 2), .inl (cI, 10, .inl v_U)), ((f3 3), .inl (cI, 12, .inl v_H)), ((f3 4), .inl (cI, 10, .inl v_O)), ((f3 5), .inl (cI, 10, .inl v_B))] := hD
  refine va_putF (D := D) (ci := 0) (v := .ref n2) (ty := (.object "TermsFirst$Manual")) (C := RX0) (T := TX0) (N := 9) hx hb hts hiX0 tyX0 tyX0_ok nmX0 hown hK.1 hP hD hS 0 rfl rfl 3 (by decide) hfl_25 (fun _ h9 => h9) rfl hin rfl (tyX0_ok 3 (by decide)) rfl rfl (Nat.le_of_ble_eq_true rfl) dX0_init_30 (fun H locs hP hD hS => ?_)
  have hP : va_P D vwCl [(q0, .inr (0, [.int (nI 0), .int (nI 0), .ref n1, .ref n2, .int (nI 0), .null, .null, .null, .null])), (n1, .inl (cI, 10, .inl (fun _ => (nI 0)))), (n2, .inr (3, [.int v_n, .ref (f3 1), .ref (f3 2), .ref (f3 3), .ref (f3 4), .ref (f3 5)])), ((f3 1), .inl (cI, 10, .inl v_L)), ((f3 2), .inl (cI, 10, .inl v_U)), ((f3 3), .inl (cI, 12, .inl v_H)), ((f3 4), .inl (cI, 10, .inl v_O)), ((f3 5), .inl (cI, 10, .inl v_B))] H := hP
  have hD : va_D A [(q0, .inr (0, [.int (nI 0), .int (nI 0), .ref n1, .ref n2, .int (nI 0), .null, .null, .null, .null])), (n1, .inl (cI, 10, .inl (fun _ => (nI 0)))), (n2, .inr (3, [.int v_n, .ref (f3 1), .ref (f3 2), .ref (f3 3), .ref (f3 4), .ref (f3 5)])), ((f3 1), .inl (cI, 10, .inl v_L)), ((f3 2), .inl (cI, 10, .inl v_U)), ((f3 3), .inl (cI, 12, .inl v_H)), ((f3 4), .inl (cI, 10, .inl v_O)), ((f3 5), .inl (cI, 10, .inl v_B))] := hD
  refine lv_aload_n hx hb dX0_init_33 rfl (lv_at hl 0 rfl) ?_
  refine lv_iconst (v := (nI 0)) hx hb dX0_init_34 ic_0 ?_
  refine va_put (D := D) (ci := 0) (v := .int (nI 0)) (ty := .boolean) (C := RX0) (T := TX0) (N := 9) hx hb hts hiX0 tyX0 tyX0_ok nmX0 hown hK.1 hP hD hS 0 rfl rfl 4 (by decide) hfl_29 (fun _ h9 => h9) rfl (tyX0_ok 4 (by decide)) zbl_0.1 zbl_0.2.1 (Nat.le_of_ble_eq_true rfl) dX0_init_35 (fun H locs hP hD hS => ?_)
  have hP : va_P D vwCl [(q0, .inr (0, [.int (nI 0), .int (nI 0), .ref n1, .ref n2, .int (nI 0), .null, .null, .null, .null])), (n1, .inl (cI, 10, .inl (fun _ => (nI 0)))), (n2, .inr (3, [.int v_n, .ref (f3 1), .ref (f3 2), .ref (f3 3), .ref (f3 4), .ref (f3 5)])), ((f3 1), .inl (cI, 10, .inl v_L)), ((f3 2), .inl (cI, 10, .inl v_U)), ((f3 3), .inl (cI, 12, .inl v_H)), ((f3 4), .inl (cI, 10, .inl v_O)), ((f3 5), .inl (cI, 10, .inl v_B))] H := hP
  have hD : va_D A [(q0, .inr (0, [.int (nI 0), .int (nI 0), .ref n1, .ref n2, .int (nI 0), .null, .null, .null, .null])), (n1, .inl (cI, 10, .inl (fun _ => (nI 0)))), (n2, .inr (3, [.int v_n, .ref (f3 1), .ref (f3 2), .ref (f3 3), .ref (f3 4), .ref (f3 5)])), ((f3 1), .inl (cI, 10, .inl v_L)), ((f3 2), .inl (cI, 10, .inl v_U)), ((f3 3), .inl (cI, 12, .inl v_H)), ((f3 4), .inl (cI, 10, .inl v_O)), ((f3 5), .inl (cI, 10, .inl v_B))] := hD
  refine lv_aload_n hx hb dX0_init_38 rfl (lv_at hl 0 rfl) ?_
  refine lv_bipush (v := (nI 10)) hx hb dX0_init_39 bp_10 ?_
  refine newA (atype := .int) (ty := .int) (cA0 := cI) (a0 := (10, .inl (fun _ => (nI 0)))) hx hb (hts (.arrayClass .int) (List.mem_cons_of_mem _ (List.mem_append_left _ (List.mem_append_left _ (List.mem_append_left _ (List.mem_of_getElem? (i := 5) rfl)))))) rfl hK.1 0 rfl hP hD hS hA (fun _ => rfl) (by decide) (by decide) (by decide) (Nat.le_of_ble_eq_true rfl) (Nat.le_of_ble_eq_true rfl) dX0_init_41 (fun n4 H hP hD hS => ?_)
  have hP : va_P D vwCl [(q0, .inr (0, [.int (nI 0), .int (nI 0), .ref n1, .ref n2, .int (nI 0), .null, .null, .null, .null])), (n1, .inl (cI, 10, .inl (fun _ => (nI 0)))), (n2, .inr (3, [.int v_n, .ref (f3 1), .ref (f3 2), .ref (f3 3), .ref (f3 4), .ref (f3 5)])), ((f3 1), .inl (cI, 10, .inl v_L)), ((f3 2), .inl (cI, 10, .inl v_U)), ((f3 3), .inl (cI, 12, .inl v_H)), ((f3 4), .inl (cI, 10, .inl v_O)), ((f3 5), .inl (cI, 10, .inl v_B)), (n4, .inl (cI, 10, .inl (fun _ => (nI 0))))] H := hP
  have hD : va_D A [(q0, .inr (0, [.int (nI 0), .int (nI 0), .ref n1, .ref n2, .int (nI 0), .null, .null, .null, .null])), (n1, .inl (cI, 10, .inl (fun _ => (nI 0)))), (n2, .inr (3, [.int v_n, .ref (f3 1), .ref (f3 2), .ref (f3 3), .ref (f3 4), .ref (f3 5)])), ((f3 1), .inl (cI, 10, .inl v_L)), ((f3 2), .inl (cI, 10, .inl v_U)), ((f3 3), .inl (cI, 12, .inl v_H)), ((f3 4), .inl (cI, 10, .inl v_O)), ((f3 5), .inl (cI, 10, .inl v_B)), (n4, .inl (cI, 10, .inl (fun _ => (nI 0))))] := hD
  refine va_putF (D := D) (ci := 0) (v := .ref n4) (ty := (.array .int)) (C := RX0) (T := TX0) (N := 9) hx hb hts hiX0 tyX0 tyX0_ok nmX0 hown hK.1 hP hD hS 0 rfl rfl 5 (by decide) hfl_33 (fun _ h9 => h9) rfl hin rfl (tyX0_ok 5 (by decide)) rfl rfl (Nat.le_of_ble_eq_true rfl) dX0_init_43 (fun H locs hP hD hS => ?_)
  have hP : va_P D vwCl [(q0, .inr (0, [.int (nI 0), .int (nI 0), .ref n1, .ref n2, .int (nI 0), .ref n4, .null, .null, .null])), (n1, .inl (cI, 10, .inl (fun _ => (nI 0)))), (n2, .inr (3, [.int v_n, .ref (f3 1), .ref (f3 2), .ref (f3 3), .ref (f3 4), .ref (f3 5)])), ((f3 1), .inl (cI, 10, .inl v_L)), ((f3 2), .inl (cI, 10, .inl v_U)), ((f3 3), .inl (cI, 12, .inl v_H)), ((f3 4), .inl (cI, 10, .inl v_O)), ((f3 5), .inl (cI, 10, .inl v_B)), (n4, .inl (cI, 10, .inl (fun _ => (nI 0))))] H := hP
  have hD : va_D A [(q0, .inr (0, [.int (nI 0), .int (nI 0), .ref n1, .ref n2, .int (nI 0), .ref n4, .null, .null, .null])), (n1, .inl (cI, 10, .inl (fun _ => (nI 0)))), (n2, .inr (3, [.int v_n, .ref (f3 1), .ref (f3 2), .ref (f3 3), .ref (f3 4), .ref (f3 5)])), ((f3 1), .inl (cI, 10, .inl v_L)), ((f3 2), .inl (cI, 10, .inl v_U)), ((f3 3), .inl (cI, 12, .inl v_H)), ((f3 4), .inl (cI, 10, .inl v_O)), ((f3 5), .inl (cI, 10, .inl v_B)), (n4, .inl (cI, 10, .inl (fun _ => (nI 0))))] := hD
  refine lv_aload_n hx hb dX0_init_46 rfl (lv_at hl 0 rfl) ?_
  refine lv_sipush (v := (nI 1024)) hx hb dX0_init_47 sp_1024 ?_
  refine newA (atype := .int) (ty := .int) (cA0 := cI) (a0 := (1024, .inl (fun _ => (nI 0)))) hx hb (hts (.arrayClass .int) (List.mem_cons_of_mem _ (List.mem_append_left _ (List.mem_append_left _ (List.mem_append_left _ (List.mem_of_getElem? (i := 5) rfl)))))) rfl hK.1 0 rfl hP hD hS hA (fun _ => rfl) (by decide) (by decide) (by decide) (Nat.le_of_ble_eq_true rfl) (Nat.le_of_ble_eq_true rfl) dX0_init_50 (fun n5 H hP hD hS => ?_)
  have hP : va_P D vwCl [(q0, .inr (0, [.int (nI 0), .int (nI 0), .ref n1, .ref n2, .int (nI 0), .ref n4, .null, .null, .null])), (n1, .inl (cI, 10, .inl (fun _ => (nI 0)))), (n2, .inr (3, [.int v_n, .ref (f3 1), .ref (f3 2), .ref (f3 3), .ref (f3 4), .ref (f3 5)])), ((f3 1), .inl (cI, 10, .inl v_L)), ((f3 2), .inl (cI, 10, .inl v_U)), ((f3 3), .inl (cI, 12, .inl v_H)), ((f3 4), .inl (cI, 10, .inl v_O)), ((f3 5), .inl (cI, 10, .inl v_B)), (n4, .inl (cI, 10, .inl (fun _ => (nI 0)))), (n5, .inl (cI, 1024, .inl (fun _ => (nI 0))))] H := hP
  have hD : va_D A [(q0, .inr (0, [.int (nI 0), .int (nI 0), .ref n1, .ref n2, .int (nI 0), .ref n4, .null, .null, .null])), (n1, .inl (cI, 10, .inl (fun _ => (nI 0)))), (n2, .inr (3, [.int v_n, .ref (f3 1), .ref (f3 2), .ref (f3 3), .ref (f3 4), .ref (f3 5)])), ((f3 1), .inl (cI, 10, .inl v_L)), ((f3 2), .inl (cI, 10, .inl v_U)), ((f3 3), .inl (cI, 12, .inl v_H)), ((f3 4), .inl (cI, 10, .inl v_O)), ((f3 5), .inl (cI, 10, .inl v_B)), (n4, .inl (cI, 10, .inl (fun _ => (nI 0)))), (n5, .inl (cI, 1024, .inl (fun _ => (nI 0))))] := hD
  refine va_putF (D := D) (ci := 0) (v := .ref n5) (ty := (.array .int)) (C := RX0) (T := TX0) (N := 9) hx hb hts hiX0 tyX0 tyX0_ok nmX0 hown hK.1 hP hD hS 0 rfl rfl 6 (by decide) hfl_36 (fun _ h9 => h9) rfl hin rfl (tyX0_ok 6 (by decide)) rfl rfl (Nat.le_of_ble_eq_true rfl) dX0_init_52 (fun H locs hP hD hS => ?_)
  have hP : va_P D vwCl [(q0, .inr (0, [.int (nI 0), .int (nI 0), .ref n1, .ref n2, .int (nI 0), .ref n4, .ref n5, .null, .null])), (n1, .inl (cI, 10, .inl (fun _ => (nI 0)))), (n2, .inr (3, [.int v_n, .ref (f3 1), .ref (f3 2), .ref (f3 3), .ref (f3 4), .ref (f3 5)])), ((f3 1), .inl (cI, 10, .inl v_L)), ((f3 2), .inl (cI, 10, .inl v_U)), ((f3 3), .inl (cI, 12, .inl v_H)), ((f3 4), .inl (cI, 10, .inl v_O)), ((f3 5), .inl (cI, 10, .inl v_B)), (n4, .inl (cI, 10, .inl (fun _ => (nI 0)))), (n5, .inl (cI, 1024, .inl (fun _ => (nI 0))))] H := hP
  have hD : va_D A [(q0, .inr (0, [.int (nI 0), .int (nI 0), .ref n1, .ref n2, .int (nI 0), .ref n4, .ref n5, .null, .null])), (n1, .inl (cI, 10, .inl (fun _ => (nI 0)))), (n2, .inr (3, [.int v_n, .ref (f3 1), .ref (f3 2), .ref (f3 3), .ref (f3 4), .ref (f3 5)])), ((f3 1), .inl (cI, 10, .inl v_L)), ((f3 2), .inl (cI, 10, .inl v_U)), ((f3 3), .inl (cI, 12, .inl v_H)), ((f3 4), .inl (cI, 10, .inl v_O)), ((f3 5), .inl (cI, 10, .inl v_B)), (n4, .inl (cI, 10, .inl (fun _ => (nI 0)))), (n5, .inl (cI, 1024, .inl (fun _ => (nI 0))))] := hD
  refine lv_aload_n hx hb dX0_init_55 rfl (lv_at hl 0 rfl) ?_
  refine lv_sipush (v := (nI 1024)) hx hb dX0_init_56 sp_1024 ?_
  refine newA (atype := .int) (ty := .int) (cA0 := cI) (a0 := (1024, .inl (fun _ => (nI 0)))) hx hb (hts (.arrayClass .int) (List.mem_cons_of_mem _ (List.mem_append_left _ (List.mem_append_left _ (List.mem_append_left _ (List.mem_of_getElem? (i := 5) rfl)))))) rfl hK.1 0 rfl hP hD hS hA (fun _ => rfl) (by decide) (by decide) (by decide) (Nat.le_of_ble_eq_true rfl) (Nat.le_of_ble_eq_true rfl) dX0_init_59 (fun n6 H hP hD hS => ?_)
  have hP : va_P D vwCl [(q0, .inr (0, [.int (nI 0), .int (nI 0), .ref n1, .ref n2, .int (nI 0), .ref n4, .ref n5, .null, .null])), (n1, .inl (cI, 10, .inl (fun _ => (nI 0)))), (n2, .inr (3, [.int v_n, .ref (f3 1), .ref (f3 2), .ref (f3 3), .ref (f3 4), .ref (f3 5)])), ((f3 1), .inl (cI, 10, .inl v_L)), ((f3 2), .inl (cI, 10, .inl v_U)), ((f3 3), .inl (cI, 12, .inl v_H)), ((f3 4), .inl (cI, 10, .inl v_O)), ((f3 5), .inl (cI, 10, .inl v_B)), (n4, .inl (cI, 10, .inl (fun _ => (nI 0)))), (n5, .inl (cI, 1024, .inl (fun _ => (nI 0)))), (n6, .inl (cI, 1024, .inl (fun _ => (nI 0))))] H := hP
  have hD : va_D A [(q0, .inr (0, [.int (nI 0), .int (nI 0), .ref n1, .ref n2, .int (nI 0), .ref n4, .ref n5, .null, .null])), (n1, .inl (cI, 10, .inl (fun _ => (nI 0)))), (n2, .inr (3, [.int v_n, .ref (f3 1), .ref (f3 2), .ref (f3 3), .ref (f3 4), .ref (f3 5)])), ((f3 1), .inl (cI, 10, .inl v_L)), ((f3 2), .inl (cI, 10, .inl v_U)), ((f3 3), .inl (cI, 12, .inl v_H)), ((f3 4), .inl (cI, 10, .inl v_O)), ((f3 5), .inl (cI, 10, .inl v_B)), (n4, .inl (cI, 10, .inl (fun _ => (nI 0)))), (n5, .inl (cI, 1024, .inl (fun _ => (nI 0)))), (n6, .inl (cI, 1024, .inl (fun _ => (nI 0))))] := hD
  refine va_putF (D := D) (ci := 0) (v := .ref n6) (ty := (.array .int)) (C := RX0) (T := TX0) (N := 9) hx hb hts hiX0 tyX0 tyX0_ok nmX0 hown hK.1 hP hD hS 0 rfl rfl 7 (by decide) hfl_39 (fun _ h9 => h9) rfl hin rfl (tyX0_ok 7 (by decide)) rfl rfl (Nat.le_of_ble_eq_true rfl) dX0_init_61 (fun H locs hP hD hS => ?_)
  have hP : va_P D vwCl [(q0, .inr (0, [.int (nI 0), .int (nI 0), .ref n1, .ref n2, .int (nI 0), .ref n4, .ref n5, .ref n6, .null])), (n1, .inl (cI, 10, .inl (fun _ => (nI 0)))), (n2, .inr (3, [.int v_n, .ref (f3 1), .ref (f3 2), .ref (f3 3), .ref (f3 4), .ref (f3 5)])), ((f3 1), .inl (cI, 10, .inl v_L)), ((f3 2), .inl (cI, 10, .inl v_U)), ((f3 3), .inl (cI, 12, .inl v_H)), ((f3 4), .inl (cI, 10, .inl v_O)), ((f3 5), .inl (cI, 10, .inl v_B)), (n4, .inl (cI, 10, .inl (fun _ => (nI 0)))), (n5, .inl (cI, 1024, .inl (fun _ => (nI 0)))), (n6, .inl (cI, 1024, .inl (fun _ => (nI 0))))] H := hP
  have hD : va_D A [(q0, .inr (0, [.int (nI 0), .int (nI 0), .ref n1, .ref n2, .int (nI 0), .ref n4, .ref n5, .ref n6, .null])), (n1, .inl (cI, 10, .inl (fun _ => (nI 0)))), (n2, .inr (3, [.int v_n, .ref (f3 1), .ref (f3 2), .ref (f3 3), .ref (f3 4), .ref (f3 5)])), ((f3 1), .inl (cI, 10, .inl v_L)), ((f3 2), .inl (cI, 10, .inl v_U)), ((f3 3), .inl (cI, 12, .inl v_H)), ((f3 4), .inl (cI, 10, .inl v_O)), ((f3 5), .inl (cI, 10, .inl v_B)), (n4, .inl (cI, 10, .inl (fun _ => (nI 0)))), (n5, .inl (cI, 1024, .inl (fun _ => (nI 0)))), (n6, .inl (cI, 1024, .inl (fun _ => (nI 0))))] := hD
  refine lv_aload_n hx hb dX0_init_64 rfl (lv_at hl 0 rfl) ?_
  refine lv_sipush (v := (nI 1024)) hx hb dX0_init_65 sp_1024 ?_
  refine newA (atype := .int) (ty := .int) (cA0 := cI) (a0 := (1024, .inl (fun _ => (nI 0)))) hx hb (hts (.arrayClass .int) (List.mem_cons_of_mem _ (List.mem_append_left _ (List.mem_append_left _ (List.mem_append_left _ (List.mem_of_getElem? (i := 5) rfl)))))) rfl hK.1 0 rfl hP hD hS hA (fun _ => rfl) (by decide) (by decide) (by decide) (Nat.le_of_ble_eq_true rfl) (Nat.le_of_ble_eq_true rfl) dX0_init_68 (fun n7 H hP hD hS => ?_)
  have hP : va_P D vwCl [(q0, .inr (0, [.int (nI 0), .int (nI 0), .ref n1, .ref n2, .int (nI 0), .ref n4, .ref n5, .ref n6, .null])), (n1, .inl (cI, 10, .inl (fun _ => (nI 0)))), (n2, .inr (3, [.int v_n, .ref (f3 1), .ref (f3 2), .ref (f3 3), .ref (f3 4), .ref (f3 5)])), ((f3 1), .inl (cI, 10, .inl v_L)), ((f3 2), .inl (cI, 10, .inl v_U)), ((f3 3), .inl (cI, 12, .inl v_H)), ((f3 4), .inl (cI, 10, .inl v_O)), ((f3 5), .inl (cI, 10, .inl v_B)), (n4, .inl (cI, 10, .inl (fun _ => (nI 0)))), (n5, .inl (cI, 1024, .inl (fun _ => (nI 0)))), (n6, .inl (cI, 1024, .inl (fun _ => (nI 0)))), (n7, .inl (cI, 1024, .inl (fun _ => (nI 0))))] H := hP
  have hD : va_D A [(q0, .inr (0, [.int (nI 0), .int (nI 0), .ref n1, .ref n2, .int (nI 0), .ref n4, .ref n5, .ref n6, .null])), (n1, .inl (cI, 10, .inl (fun _ => (nI 0)))), (n2, .inr (3, [.int v_n, .ref (f3 1), .ref (f3 2), .ref (f3 3), .ref (f3 4), .ref (f3 5)])), ((f3 1), .inl (cI, 10, .inl v_L)), ((f3 2), .inl (cI, 10, .inl v_U)), ((f3 3), .inl (cI, 12, .inl v_H)), ((f3 4), .inl (cI, 10, .inl v_O)), ((f3 5), .inl (cI, 10, .inl v_B)), (n4, .inl (cI, 10, .inl (fun _ => (nI 0)))), (n5, .inl (cI, 1024, .inl (fun _ => (nI 0)))), (n6, .inl (cI, 1024, .inl (fun _ => (nI 0)))), (n7, .inl (cI, 1024, .inl (fun _ => (nI 0))))] := hD
  refine va_putF (D := D) (ci := 0) (v := .ref n7) (ty := (.array .int)) (C := RX0) (T := TX0) (N := 9) hx hb hts hiX0 tyX0 tyX0_ok nmX0 hown hK.1 hP hD hS 0 rfl rfl 8 (by decide) hfl_42 (fun _ h9 => h9) rfl hin rfl (tyX0_ok 8 (by decide)) rfl rfl (Nat.le_of_ble_eq_true rfl) dX0_init_70 (fun H locs hP hD hS => ?_)
  have hP : va_P D vwCl [(q0, .inr (0, [.int (nI 0), .int (nI 0), .ref n1, .ref n2, .int (nI 0), .ref n4, .ref n5, .ref n6, .ref n7])), (n1, .inl (cI, 10, .inl (fun _ => (nI 0)))), (n2, .inr (3, [.int v_n, .ref (f3 1), .ref (f3 2), .ref (f3 3), .ref (f3 4), .ref (f3 5)])), ((f3 1), .inl (cI, 10, .inl v_L)), ((f3 2), .inl (cI, 10, .inl v_U)), ((f3 3), .inl (cI, 12, .inl v_H)), ((f3 4), .inl (cI, 10, .inl v_O)), ((f3 5), .inl (cI, 10, .inl v_B)), (n4, .inl (cI, 10, .inl (fun _ => (nI 0)))), (n5, .inl (cI, 1024, .inl (fun _ => (nI 0)))), (n6, .inl (cI, 1024, .inl (fun _ => (nI 0)))), (n7, .inl (cI, 1024, .inl (fun _ => (nI 0))))] H := hP
  have hD : va_D A [(q0, .inr (0, [.int (nI 0), .int (nI 0), .ref n1, .ref n2, .int (nI 0), .ref n4, .ref n5, .ref n6, .ref n7])), (n1, .inl (cI, 10, .inl (fun _ => (nI 0)))), (n2, .inr (3, [.int v_n, .ref (f3 1), .ref (f3 2), .ref (f3 3), .ref (f3 4), .ref (f3 5)])), ((f3 1), .inl (cI, 10, .inl v_L)), ((f3 2), .inl (cI, 10, .inl v_U)), ((f3 3), .inl (cI, 12, .inl v_H)), ((f3 4), .inl (cI, 10, .inl v_O)), ((f3 5), .inl (cI, 10, .inl v_B)), (n4, .inl (cI, 10, .inl (fun _ => (nI 0)))), (n5, .inl (cI, 1024, .inl (fun _ => (nI 0)))), (n6, .inl (cI, 1024, .inl (fun _ => (nI 0)))), (n7, .inl (cI, 1024, .inl (fun _ => (nI 0))))] := hD
  refine W.widen (k := 11) (n := 3150) (Nat.le_of_ble_eq_true rfl) (Nat.le_of_ble_eq_true rfl) ?_
  exact W.vret hx hb hr (fun t ht _ => ⟨⟨rfl, (fun i => ([0, n1, n4, n5, n6, n7, n2, (f3 1), (f3 2), (f3 3), (f3 4), (f3 5)] : List Nat).getD i 0), by rw [ht]; exact hP.sub [0, 1, 8, 9, 10, 11, 2, 3, 4, 5, 6, 7] rfl, hD.sub [0, 1, 8, 9, 10, 11, 2, 3, 4, 5, 6, 7] (by decide +kernel) rfl⟩, hS.F ht⟩) hS.2.2 dX0_init_73
