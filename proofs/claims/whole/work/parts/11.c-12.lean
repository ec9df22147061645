theorem hdc_X7_readsAll : yX7_readsAll.cls ≠ "java/lang/invoke/MethodHandle" ∧ yX7_readsAll.cls ≠ "java/lang/invoke/VarHandle" ∧ (parseMethodDescriptor yX7_readsAll.desc).map (fun d => d.parameters.length) = some 1 := by decide +kernel
set_option maxHeartbeats 4000000 in
set_option maxRecDepth 100000 in
theorem c_X7_readsAll (l : Launch) (D : va_G) (cI cZ cM : ClassId) (k0 k1 k2 k3 k4 k5 k6 k7 : Nat) (sz : Nat) (k_un : Int32) (k_len : Int32) (k_fi : Int32) (k_be : Int32) (k_to : Int32) (k_cl : Int32) (k_do : Int32) (k_ro : Nat → Int32) (k_ke : Nat → Int32) (k_te : Nat → Int32) (k_nu : Nat → Int32) (k_na : Nat → Int32) (k_no : Nat → Int32) (k_tu : Nat → Int32) (x1 : Int32) (fu : Nat) (r : Int32) (k_fi' : Int32) (k_be' : Int32) (k_to' : Int32) (k_cl' : Int32) (k_do' : Int32) (k_ro' : Nat → Int32) (k_nu' : Nat → Int32) (hf : m_X7_readsAll fu k_len k_ro k_te k_nu k_na x1 = some (r, k_fi', k_be', k_to', k_cl', k_do', k_ro', k_nu')) : Met l yX7_readsAll wsX7_readsAll ({ frames := 8, cells := 0, slots := 0, locals := 180 }) (pM D cI cZ cM sz [(k0, .inr (7, [.ref k1, .int k_un, .ref k2, .ref k3, .int k_len, .int k_fi, .int k_be, .int k_to, .int k_cl, .int k_do, .ref k4, .ref k5, .ref k6, .ref k7])), (k1, .inl (cI, 583, .inl k_ro)), (k2, .inl (cZ, 2, .inl k_ke)), (k3, .inl (cI, 200, .inl k_te)), (k4, .inl (cI, 10, .inl k_nu)), (k5, .inl (cI, 48, .inl k_na)), (k6, .inl (cI, 1024, .inl k_no)), (k7, .inl (cI, 1024, .inl k_tu))] [.ref k0, .int x1]) (qI D r [(k0, .inr (7, [.ref k1, .int k_un, .ref k2, .ref k3, .int k_len, .int k_fi', .int k_be', .int k_to', .int k_cl', .int k_do', .ref k4, .ref k5, .ref k6, .ref k7])), (k1, .inl (cI, 583, .inl k_ro')), (k2, .inl (cZ, 2, .inl k_ke)), (k3, .inl (cI, 200, .inl k_te)), (k4, .inl (cI, 10, .inl k_nu')), (k5, .inl (cI, 48, .inl k_na)), (k6, .inl (cI, 1024, .inl k_no)), (k7, .inl (cI, 1024, .inl k_tu))] (va_A [(k0, .inr (7, [.ref k1, .int k_un, .ref k2, .ref k3, .int k_len, .int k_fi, .int k_be, .int k_to, .int k_cl, .int k_do, .ref k4, .ref k5, .ref k6, .ref k7])), (k1, .inl (cI, 583, .inl k_ro)), (k2, .inl (cZ, 2, .inl k_ke)), (k3, .inl (cI, 200, .inl k_te)), (k4, .inl (cI, 10, .inl k_nu)), (k5, .inl (cI, 48, .inl k_na)), (k6, .inl (cI, 1024, .inl k_no)), (k7, .inl (cI, 1024, .inl k_tu))] sz)) 0 0 (va_A [(k0, .inr (7, [.ref k1, .int k_un, .ref k2, .ref k3, .int k_len, .int k_fi, .int k_be, .int k_to, .int k_cl, .int k_do, .ref k4, .ref k5, .ref k6, .ref k7])), (k1, .inl (cI, 583, .inl k_ro)), (k2, .inl (cZ, 2, .inl k_ke)), (k3, .inl (cI, 200, .inl k_te)), (k4, .inl (cI, 10, .inl k_nu)), (k5, .inl (cI, 48, .inl k_na)), (k6, .inl (cI, 1024, .inl k_no)), (k7, .inl (cI, 1024, .inl k_tu))] sz) := by
  refine Met.ofW (cc := cX7_readsAll) (maxL := 3) (ret := (some .boolean)) (by decide) rfl ?_
  intro p e s m args below meth c s₁ B hml hv
  obtain ⟨rfl, hsz, hP, hK, hD0⟩ := hv
  have hx := B.exec
  have hb := B.bytes
  have hr := B.returns
  have hts := atoms_spec (ws := wsX7_readsAll) B.pre
  have hown : s.vm.findClass RX7 = some m.cls := findClass_of_methodNamed B.named
  have hlocks := B.notSynchronized
  subst hsz
  have hD := hD0.self (sz := s.heap.size)
  generalize hAe : va_A [(k0, .inr (7, [.ref k1, .int k_un, .ref k2, .ref k3, .int k_len, .int k_fi, .int k_be, .int k_to, .int k_cl, .int k_do, .ref k4, .ref k5, .ref k6, .ref k7])), (k1, .inl (cI, 583, .inl k_ro)), (k2, .inl (cZ, 2, .inl k_ke)), (k3, .inl (cI, 200, .inl k_te)), (k4, .inl (cI, 10, .inl k_nu)), (k5, .inl (cI, 48, .inl k_na)), (k6, .inl (cI, 1024, .inl k_no)), (k7, .inl (cI, 1024, .inl k_tu))] s.heap.size = A at hD ⊢
  have hA : ∀ q : Nat, s.heap.size ≤ q → A q := fun q h => by rw [← hAe]; exact Or.inr h
  clear hAe hD0
  have hfl_7 := hts (.fieldLink RX7 7 "TermsFirstModel" "rows" "[I") (List.mem_cons_of_mem _ (List.mem_append_left _ (List.mem_append_left _ (List.mem_of_getElem? (i := 3) rfl))))
  have hfl_17 := hts (.fieldLink RX7 17 "TermsFirstModel" "text" "[I") (List.mem_cons_of_mem _ (List.mem_append_left _ (List.mem_append_left _ (List.mem_of_getElem? (i := 7) rfl))))
  have hfl_44 := hts (.fieldLink RX7 44 "TermsFirstModel" "length" "I") (List.mem_cons_of_mem _ (List.mem_append_left _ (List.mem_append_left _ (List.mem_of_getElem? (i := 6) rfl))))
  have hfl_56 := hts (.fieldLink RX7 56 "TermsFirstModel" "behind" "I") (List.mem_cons_of_mem _ (List.mem_append_left _ (List.mem_append_left _ (List.mem_of_getElem? (i := 1) rfl))))
  have hfl_59 := hts (.fieldLink RX7 59 "TermsFirstModel" "first" "I") (List.mem_cons_of_mem _ (List.mem_append_left _ (List.mem_append_left _ (List.mem_of_getElem? (i := 5) rfl))))
  have hfl_72 := hts (.fieldLink RX7 72 "TermsFirstModel" "told" "I") (List.mem_cons_of_mem _ (List.mem_append_left _ (List.mem_append_left _ (List.mem_of_getElem? (i := 4) rfl))))
  have hfl_89 := hts (.fieldLink RX7 89 "TermsFirstModel" "doing" "Z") (List.mem_cons_of_mem _ (List.mem_append_left _ (List.mem_append_left _ (List.mem_of_getElem? (i := 0) rfl))))
  have hfl_122 := hts (.fieldLink RX7 122 "TermsFirstModel" "clauses" "I") (List.mem_cons_of_mem _ (List.mem_append_left _ (List.mem_append_left _ (List.mem_of_getElem? (i := 2) rfl))))
  have hiX7 : ∀ w ∈ u_ws RX7 TX7 14, w ∈ wsX7_readsAll := fun _ h => (List.mem_cons_of_mem _ (List.mem_append_right _ h))
  have hB_77 : ∀ (s0 : Int32) (k_fi : Int32) (k_be : Int32) (k_to : Int32) (k_cl : Int32) (k_do : Int32) (k_ro : Nat → Int32) (k_nu : Nat → Int32) (kt34 : Int32 → Int32 → Int32 → Int32 → (Nat → Int32) → (Nat → Int32) → Int32 → Option (Int32 × Int32 × Int32 × Int32 × Int32 × Int32 × (Nat → Int32) × (Nat → Int32))) (hkt34 : ∀ (x2 : Int32) (k_fi : Int32) (k_be : Int32) (k_to : Int32) (k_cl : Int32) (k_ro : Nat → Int32) (k_nu : Nat → Int32), kt34 k_fi k_be k_to k_cl k_ro k_nu x2 = some (r, k_fi', k_be', k_to', k_cl', k_do', k_ro', k_nu') → ∀ (H : Heap) (locs : List Loc), va_P D vwCl [(k0, .inr (7, [.ref k1, .int k_un, .ref k2, .ref k3, .int k_len, .int k_fi, .int k_be, .int k_to, .int k_cl, .int k_do, .ref k4, .ref k5, .ref k6, .ref k7])), (k1, .inl (cI, 583, .inl k_ro)), (k2, .inl (cZ, 2, .inl k_ke)), (k3, .inl (cI, 200, .inl k_te)), (k4, .inl (cI, 10, .inl k_nu)), (k5, .inl (cI, 48, .inl k_na)), (k6, .inl (cI, 1024, .inl k_no)), (k7, .inl (cI, 1024, .inl k_tu))] H → va_D A [(k0, .inr (7, [.ref k1, .int k_un, .ref k2, .ref k3, .int k_len, .int k_fi, .int k_be, .int k_to, .int k_cl, .int k_do, .ref k4, .ref k5, .ref k6, .ref k7])), (k1, .inl (cI, 583, .inl k_ro)), (k2, .inl (cZ, 2, .inl k_ke)), (k3, .inl (cI, 200, .inl k_te)), (k4, .inl (cI, 10, .inl k_nu)), (k5, .inl (cI, 48, .inl k_na)), (k6, .inl (cI, 1024, .inl k_no)), (k7, .inl (cI, 1024, .inl k_tu))] → va_S A s.heap H locs → ∀ ls : Array Slot, lv_has ls 3 [(0, .ref k0), (2, .int x2)] → W p l e (headSpec wsX7_readsAll { frames := 8, cells := 0, slots := 0, locals := 180 }).room s m ([.ref k0, .int x1] : List Value).toArray below meth c H locs 0 0 (MQ below (qI D r [(k0, .inr (7, [.ref k1, .int k_un, .ref k2, .ref k3, .int k_len, .int k_fi', .int k_be', .int k_to', .int k_cl', .int k_do', .ref k4, .ref k5, .ref k6, .ref k7])), (k1, .inl (cI, 583, .inl k_ro')), (k2, .inl (cZ, 2, .inl k_ke)), (k3, .inl (cI, 200, .inl k_te)), (k4, .inl (cI, 10, .inl k_nu')), (k5, .inl (cI, 48, .inl k_na)), (k6, .inl (cI, 1024, .inl k_no)), (k7, .inl (cI, 1024, .inl k_tu))] A) ([.ref k0, .int x1] : List Value).toArray s 0 0 A) (F0 m 34 ls [])), m_X7_readsAll_77 fu k_len k_fi k_be k_to k_cl k_do k_ro k_te k_nu k_na s0 kt34 = some (r, k_fi', k_be', k_to', k_cl', k_do', k_ro', k_nu') → ∀ (H : Heap) (locs : List Loc), va_P D vwCl [(k0, .inr (7, [.ref k1, .int k_un, .ref k2, .ref k3, .int k_len, .int k_fi, .int k_be, .int k_to, .int k_cl, .int k_do, .ref k4, .ref k5, .ref k6, .ref k7])), (k1, .inl (cI, 583, .inl k_ro)), (k2, .inl (cZ, 2, .inl k_ke)), (k3, .inl (cI, 200, .inl k_te)), (k4, .inl (cI, 10, .inl k_nu)), (k5, .inl (cI, 48, .inl k_na)), (k6, .inl (cI, 1024, .inl k_no)), (k7, .inl (cI, 1024, .inl k_tu))] H → va_D A [(k0, .inr (7, [.ref k1, .int k_un, .ref k2, .ref k3, .int k_len, .int k_fi, .int k_be, .int k_to, .int k_cl, .int k_do, .ref k4, .ref k5, .ref k6, .ref k7])), (k1, .inl (cI, 583, .inl k_ro)), (k2, .inl (cZ, 2, .inl k_ke)), (k3, .inl (cI, 200, .inl k_te)), (k4, .inl (cI, 10, .inl k_nu)), (k5, .inl (cI, 48, .inl k_na)), (k6, .inl (cI, 1024, .inl k_no)), (k7, .inl (cI, 1024, .inl k_tu))] → va_S A s.heap H locs → ∀ ls : Array Slot, lv_has ls 3 [(0, .ref k0)] → W p l e (headSpec wsX7_readsAll { frames := 8, cells := 0, slots := 0, locals := 180 }).room s m ([.ref k0, .int x1] : List Value).toArray below meth c H locs 0 0 (MQ below (qI D r [(k0, .inr (7, [.ref k1, .int k_un, .ref k2, .ref k3, .int k_len, .int k_fi', .int k_be', .int k_to', .int k_cl', .int k_do', .ref k4, .ref k5, .ref k6, .ref k7])), (k1, .inl (cI, 583, .inl k_ro')), (k2, .inl (cZ, 2, .inl k_ke)), (k3, .inl (cI, 200, .inl k_te)), (k4, .inl (cI, 10, .inl k_nu')), (k5, .inl (cI, 48, .inl k_na)), (k6, .inl (cI, 1024, .inl k_no)), (k7, .inl (cI, 1024, .inl k_tu))] A) ([.ref k0, .int x1] : List Value).toArray s 0 0 A) (F0 m 77 ls [.int s0]) := by
    intro s0 k_fi k_be k_to k_cl k_do k_ro k_nu kt34 hkt34 hf H locs hP hD hS ls hl
    unfold m_X7_readsAll_77 at hf
    refine lv_istore_n (lv' := [(2, .int s0), (0, .ref k0)]) hx hb dX7_readsAll_77 rfl hl (by decide) rfl (fun ls hl => ?_)
    refine lv_iload_n hx hb dX7_readsAll_78 rfl (lv_at hl 0 rfl) ?_
    refine lv_if_eq (tgt := 34) hx hb dX7_readsAll_79 (by decide) (fun hc => ?_) (fun hc => ?_)
    · have hf := ifp hc hf
      exact hkt34 s0 k_fi k_be k_to k_cl k_ro k_nu hf _ _ hP hD hS ls (lv_sub hl [1, 0] rfl)
    · have hf := ifn hc hf
      refine lv_aload_n hx hb dX7_readsAll_82 rfl (lv_at hl 1 rfl) ?_
      obtain ⟨rv3, hrv3, hf⟩ := bd hf
      refine muV0 (wr := []) (va_runV (As := []) (rest := []) ⟨hx, hb, hml, hown, hts⟩ (c_X7_next l D cI cZ cM k0 k1 k2 k3 k4 k5 k6 k7 _ k_un k_len k_fi k_be k_to k_cl k_do k_ro k_ke k_te k_nu k_na k_no k_tu fu rv3.1 rv3.2 hrv3) (cwV 0 hts gX7_readsAll_X7_next rfl rfl rfl ⟨rfl, hdc_X7_next⟩ ⟨Nat.le_of_ble_eq_true rfl, Nat.le_of_ble_eq_true rfl⟩) (pmV hK hP hD [0, 1, 2, 3, 4, 5, 6, 7] (by decide) rfl rfl (ci := 7) (q0 := 0) rfl rfl) rfl rfl hl.1 rfl (lv_room (Nat.le_of_ble_eq_true rfl)) dX7_readsAll_83 ⟨Nat.zero_le _, Nat.zero_le _⟩) hP hD hS hA [0, 1, 2, 3, 4, 5, 6, 7] [] rfl rfl (by decide) (by decide) (fun H locs hP hD hS => ?_)
      have hP : va_P D vwCl [(k0, .inr (7, [.ref k1, .int k_un, .ref k2, .ref k3, .int k_len, .int rv3.1, .int rv3.2, .int k_to, .int k_cl, .int k_do, .ref k4, .ref k5, .ref k6, .ref k7])), (k1, .inl (cI, 583, .inl k_ro)), (k2, .inl (cZ, 2, .inl k_ke)), (k3, .inl (cI, 200, .inl k_te)), (k4, .inl (cI, 10, .inl k_nu)), (k5, .inl (cI, 48, .inl k_na)), (k6, .inl (cI, 1024, .inl k_no)), (k7, .inl (cI, 1024, .inl k_tu))] H := hP
      have hD : va_D A [(k0, .inr (7, [.ref k1, .int k_un, .ref k2, .ref k3, .int k_len, .int rv3.1, .int rv3.2, .int k_to, .int k_cl, .int k_do, .ref k4, .ref k5, .ref k6, .ref k7])), (k1, .inl (cI, 583, .inl k_ro)), (k2, .inl (cZ, 2, .inl k_ke)), (k3, .inl (cI, 200, .inl k_te)), (k4, .inl (cI, 10, .inl k_nu)), (k5, .inl (cI, 48, .inl k_na)), (k6, .inl (cI, 1024, .inl k_no)), (k7, .inl (cI, 1024, .inl k_tu))] := hD
      refine lv_aload_n hx hb dX7_readsAll_86 rfl (lv_at hl 1 rfl) ?_
      obtain ⟨rv4, hrv4, hf⟩ := bd hf
      refine muI0 (wr := []) (va_runV (As := []) (rest := []) ⟨hx, hb, hml, hown, hts⟩ (c_X7_readsClause l D cI cZ cM k0 k1 k2 k3 k4 k5 k6 k7 _ k_un k_len rv3.1 rv3.2 k_to k_cl k_do k_ro k_ke k_te k_nu k_na k_no k_tu fu rv4.1 rv4.2.1 rv4.2.2.1 rv4.2.2.2.1 rv4.2.2.2.2.1 rv4.2.2.2.2.2 hrv4) (cwV 0 hts gX7_readsAll_X7_readsClause rfl rfl rfl ⟨rfl, hdc_X7_readsClause⟩ ⟨Nat.le_of_ble_eq_true rfl, Nat.le_of_ble_eq_true rfl⟩) (pmV hK hP hD [0, 1, 2, 3, 4, 5, 6, 7] (by decide) rfl rfl (ci := 7) (q0 := 0) rfl rfl) rfl rfl hl.1 rfl (lv_room (Nat.le_of_ble_eq_true rfl)) dX7_readsAll_87 ⟨Nat.zero_le _, Nat.zero_le _⟩) hP hD hS hA [0, 1, 2, 3, 4, 5, 6, 7] [] rfl rfl (by decide) (by decide) (fun H locs hP hD hS => ?_)
      have hP : va_P D vwCl [(k0, .inr (7, [.ref k1, .int k_un, .ref k2, .ref k3, .int k_len, .int rv4.2.1, .int rv4.2.2.1, .int rv4.2.2.2.1, .int k_cl, .int k_do, .ref k4, .ref k5, .ref k6, .ref k7])), (k1, .inl (cI, 583, .inl rv4.2.2.2.2.1)), (k2, .inl (cZ, 2, .inl k_ke)), (k3, .inl (cI, 200, .inl k_te)), (k4, .inl (cI, 10, .inl rv4.2.2.2.2.2)), (k5, .inl (cI, 48, .inl k_na)), (k6, .inl (cI, 1024, .inl k_no)), (k7, .inl (cI, 1024, .inl k_tu))] H := hP
      have hD : va_D A [(k0, .inr (7, [.ref k1, .int k_un, .ref k2, .ref k3, .int k_len, .int rv4.2.1, .int rv4.2.2.1, .int rv4.2.2.2.1, .int k_cl, .int k_do, .ref k4, .ref k5, .ref k6, .ref k7])), (k1, .inl (cI, 583, .inl rv4.2.2.2.2.1)), (k2, .inl (cZ, 2, .inl k_ke)), (k3, .inl (cI, 200, .inl k_te)), (k4, .inl (cI, 10, .inl rv4.2.2.2.2.2)), (k5, .inl (cI, 48, .inl k_na)), (k6, .inl (cI, 1024, .inl k_no)), (k7, .inl (cI, 1024, .inl k_tu))] := hD
      refine lv_istore_n (lv' := [(2, .int rv4.1), (0, .ref k0)]) hx hb dX7_readsAll_90 rfl hl (by decide) rfl (fun ls hl => ?_)
      refine lv_aload_n hx hb dX7_readsAll_91 rfl (lv_at hl 1 rfl) ?_
      refine lv_dup hx hb dX7_readsAll_92 rfl ?_
      refine va_get (D := D) (ci := 7) (v := .int k_cl) (C := RX7) (T := TX7) (N := 14) hx hb hts hiX7 hown hK.1 hP 0 rfl rfl 8 (by decide) hfl_122 (fun _ h9 => h9) rfl dX7_readsAll_93 ?_
      refine lv_iconst (v := (nI 1)) hx hb dX7_readsAll_96 ic_1 ?_
      refine lv_iadd hx hb dX7_readsAll_97 ?_
      refine va_put (D := D) (ci := 7) (v := .int (k_cl + (nI 1))) (ty := .int) (C := RX7) (T := TX7) (N := 14) hx hb hts hiX7 tyX7 tyX7_ok nmX7 hown hK.1 hP hD hS 0 rfl rfl 8 (by decide) hfl_122 (fun _ h9 => h9) rfl (tyX7_ok 8 (by decide)) rfl rfl (Nat.le_of_ble_eq_true rfl) dX7_readsAll_98 (fun H locs hP hD hS => ?_)
      have hP : va_P D vwCl [(k0, .inr (7, [.ref k1, .int k_un, .ref k2, .ref k3, .int k_len, .int rv4.2.1, .int rv4.2.2.1, .int rv4.2.2.2.1, .int (k_cl + (nI 1)), .int k_do, .ref k4, .ref k5, .ref k6, .ref k7])), (k1, .inl (cI, 583, .inl rv4.2.2.2.2.1)), (k2, .inl (cZ, 2, .inl k_ke)), (k3, .inl (cI, 200, .inl k_te)), (k4, .inl (cI, 10, .inl rv4.2.2.2.2.2)), (k5, .inl (cI, 48, .inl k_na)), (k6, .inl (cI, 1024, .inl k_no)), (k7, .inl (cI, 1024, .inl k_tu))] H := hP
      have hD : va_D A [(k0, .inr (7, [.ref k1, .int k_un, .ref k2, .ref k3, .int k_len, .int rv4.2.1, .int rv4.2.2.1, .int rv4.2.2.2.1, .int (k_cl + (nI 1)), .int k_do, .ref k4, .ref k5, .ref k6, .ref k7])), (k1, .inl (cI, 583, .inl rv4.2.2.2.2.1)), (k2, .inl (cZ, 2, .inl k_ke)), (k3, .inl (cI, 200, .inl k_te)), (k4, .inl (cI, 10, .inl rv4.2.2.2.2.2)), (k5, .inl (cI, 48, .inl k_na)), (k6, .inl (cI, 1024, .inl k_no)), (k7, .inl (cI, 1024, .inl k_tu))] := hD
      refine lv_goto (tgt := 34) hx hb dX7_readsAll_101 (by decide) ?_
      exact hkt34 rv4.1 rv4.2.1 rv4.2.2.1 rv4.2.2.2.1 (k_cl + (nI 1)) rv4.2.2.2.2.1 rv4.2.2.2.2.2 hf _ _ hP hD hS ls (lv_sub hl [1, 0] rfl)
  have hB_34 : ∀ (k_do : Int32) (fn : Nat) (x2 : Int32) (k_fi : Int32) (k_be : Int32) (k_to : Int32) (k_cl : Int32) (k_ro : Nat → Int32) (k_nu : Nat → Int32), m_X7_readsAll_34 fu k_len k_do k_te k_na fn k_fi k_be k_to k_cl k_ro k_nu x2 = some (r, k_fi', k_be', k_to', k_cl', k_do', k_ro', k_nu') → ∀ (H : Heap) (locs : List Loc), va_P D vwCl [(k0, .inr (7, [.ref k1, .int k_un, .ref k2, .ref k3, .int k_len, .int k_fi, .int k_be, .int k_to, .int k_cl, .int k_do, .ref k4, .ref k5, .ref k6, .ref k7])), (k1, .inl (cI, 583, .inl k_ro)), (k2, .inl (cZ, 2, .inl k_ke)), (k3, .inl (cI, 200, .inl k_te)), (k4, .inl (cI, 10, .inl k_nu)), (k5, .inl (cI, 48, .inl k_na)), (k6, .inl (cI, 1024, .inl k_no)), (k7, .inl (cI, 1024, .inl k_tu))] H → va_D A [(k0, .inr (7, [.ref k1, .int k_un, .ref k2, .ref k3, .int k_len, .int k_fi, .int k_be, .int k_to, .int k_cl, .int k_do, .ref k4, .ref k5, .ref k6, .ref k7])), (k1, .inl (cI, 583, .inl k_ro)), (k2, .inl (cZ, 2, .inl k_ke)), (k3, .inl (cI, 200, .inl k_te)), (k4, .inl (cI, 10, .inl k_nu)), (k5, .inl (cI, 48, .inl k_na)), (k6, .inl (cI, 1024, .inl k_no)), (k7, .inl (cI, 1024, .inl k_tu))] → va_S A s.heap H locs → ∀ ls : Array Slot, lv_has ls 3 [(0, .ref k0), (2, .int x2)] → W p l e (headSpec wsX7_readsAll { frames := 8, cells := 0, slots := 0, locals := 180 }).room s m ([.ref k0, .int x1] : List Value).toArray below meth c H locs 0 0 (MQ below (qI D r [(k0, .inr (7, [.ref k1, .int k_un, .ref k2, .ref k3, .int k_len, .int k_fi', .int k_be', .int k_to', .int k_cl', .int k_do', .ref k4, .ref k5, .ref k6, .ref k7])), (k1, .inl (cI, 583, .inl k_ro')), (k2, .inl (cZ, 2, .inl k_ke)), (k3, .inl (cI, 200, .inl k_te)), (k4, .inl (cI, 10, .inl k_nu')), (k5, .inl (cI, 48, .inl k_na)), (k6, .inl (cI, 1024, .inl k_no)), (k7, .inl (cI, 1024, .inl k_tu))] A) ([.ref k0, .int x1] : List Value).toArray s 0 0 A) (F0 m 34 ls []) := by
    intro k_do fn
    induction fn with
    | zero => intro x2 k_fi k_be k_to k_cl k_ro k_nu hf; rw [m_X7_readsAll_34] at hf; cases hf
    | succ fn ih =>
      intro x2 k_fi k_be k_to k_cl k_ro k_nu hf H locs hP hD hS ls hl
      rw [m_X7_readsAll_34] at hf
      refine lv_iload_n hx hb dX7_readsAll_34 rfl (lv_at hl 1 rfl) ?_
      refine lv_if_eq (tgt := 104) hx hb dX7_readsAll_35 (by decide) (fun hc => ?_) (fun hc => ?_)
      · have hf := ifp hc hf
        refine lv_iload_n hx hb dX7_readsAll_104 rfl (lv_at hl 1 rfl) ?_
        obtain ⟨hz, hf⟩ := zb_some hf
        cases hf
        exact W.zret hx hb hr hz.1 (fun t ht _ => ⟨⟨rfl, by rw [ht]; exact hP, hD⟩, hS.F ht⟩) hS.2.2 dX7_readsAll_105
      · have hf := ifn hc hf
        refine lv_aload_n hx hb dX7_readsAll_38 rfl (lv_at hl 0 rfl) ?_
        refine va_get (D := D) (ci := 7) (v := .int k_fi) (C := RX7) (T := TX7) (N := 14) hx hb hts hiX7 hown hK.1 hP 0 rfl rfl 5 (by decide) hfl_59 (fun _ h9 => h9) rfl dX7_readsAll_39 ?_
        refine lv_aload_n hx hb dX7_readsAll_42 rfl (lv_at hl 0 rfl) ?_
        refine va_get (D := D) (ci := 7) (v := .int k_len) (C := RX7) (T := TX7) (N := 14) hx hb hts hiX7 hown hK.1 hP 0 rfl rfl 4 (by decide) hfl_44 (fun _ h9 => h9) rfl dX7_readsAll_43 ?_
        refine lv_icmp_ge (tgt := 104) hx hb dX7_readsAll_46 (by decide) (fun hc => ?_) (fun hc => ?_)
        · have hf := ifp hc hf
          refine lv_iload_n hx hb dX7_readsAll_104 rfl (lv_at hl 1 rfl) ?_
          obtain ⟨hz, hf⟩ := zb_some hf
          cases hf
          exact W.zret hx hb hr hz.1 (fun t ht _ => ⟨⟨rfl, by rw [ht]; exact hP, hD⟩, hS.F ht⟩) hS.2.2 dX7_readsAll_105
        · have hf := ifn hc hf
          refine lv_aload_n hx hb dX7_readsAll_49 rfl (lv_at hl 0 rfl) ?_
          refine va_get (D := D) (ci := 7) (v := .int k_cl) (C := RX7) (T := TX7) (N := 14) hx hb hts hiX7 hown hK.1 hP 0 rfl rfl 8 (by decide) hfl_122 (fun _ h9 => h9) rfl dX7_readsAll_50 ?_
          refine lv_bipush (v := (nI 24)) hx hb dX7_readsAll_53 bp_24 ?_
          refine lv_icmp_ge (tgt := 76) hx hb dX7_readsAll_55 (by decide) (fun hc => ?_) (fun hc => ?_)
          · have hf := ifp hc hf
            refine lv_iconst (v := (nI 0)) hx hb dX7_readsAll_76 ic_0 ?_
            exact hB_77 (nI 0) k_fi k_be k_to k_cl k_do k_ro k_nu _ ih hf _ _ hP hD hS ls (lv_sub hl [0] rfl)
          · have hf := ifn hc hf
            refine lv_aload_n hx hb dX7_readsAll_58 rfl (lv_at hl 0 rfl) ?_
            refine va_get (D := D) (ci := 7) (v := .ref k3) (C := RX7) (T := TX7) (N := 14) hx hb hts hiX7 hown hK.1 hP 0 rfl rfl 3 (by decide) hfl_17 (fun _ h9 => h9) rfl dX7_readsAll_59 ?_
            refine lv_aload_n hx hb dX7_readsAll_62 rfl (lv_at hl 0 rfl) ?_
            refine va_get (D := D) (ci := 7) (v := .int k_fi) (C := RX7) (T := TX7) (N := 14) hx hb hts hiX7 hown hK.1 hP 0 rfl rfl 5 (by decide) hfl_59 (fun _ h9 => h9) rfl dX7_readsAll_63 ?_
            obtain ⟨hi, hf⟩ := gd_some hf
            refine va_iald hx hb hK.1 hP 3 0 rfl rfl hi dX7_readsAll_66 ?_
            refine lv_bipush (v := (nI 59)) hx hb dX7_readsAll_67 bp_59 ?_
            refine lv_icmp_ne (tgt := 76) hx hb dX7_readsAll_69 (by decide) (fun hc => ?_) (fun hc => ?_)
            · have hf := ifn hc hf
              refine lv_iconst (v := (nI 0)) hx hb dX7_readsAll_76 ic_0 ?_
              exact hB_77 (nI 0) k_fi k_be k_to k_cl k_do k_ro k_nu _ ih hf _ _ hP hD hS ls (lv_sub hl [0] rfl)
            · have hf := ifp hc hf
              refine lv_iconst (v := (nI 1)) hx hb dX7_readsAll_72 ic_1 ?_
              refine lv_goto (tgt := 77) hx hb dX7_readsAll_73 (by decide) ?_
              exact hB_77 (nI 1) k_fi k_be k_to k_cl k_do k_ro k_nu _ ih hf _ _ hP hD hS ls (lv_sub hl [0] rfl)
  have hl := lv_entry ([.ref k0, .int x1]) (n := 3) (Nat.le_of_ble_eq_true rfl)
  rw [lg_entry_eq]
  generalize (lg_sl ([.ref k0, .int x1]) ++ List.replicate (3 - (lg_sl ([.ref k0, .int x1])).length) Slot.unset).toArray = ls at hl ⊢
  have hl : lv_has ls 3 [(0, .ref k0), (1, .int x1)] := hl
  have hS : va_S A s.heap s.heap [] := va_S.rf
  unfold m_X7_readsAll at hf
  refine lv_aload_n hx hb dX7_readsAll_0 rfl (lv_at hl 0 rfl) ?_
  refine lv_iload_n hx hb dX7_readsAll_1 rfl (lv_at hl 1 rfl) ?_
  obtain ⟨hz, hf⟩ := zb_some hf
  refine va_put (D := D) (ci := 7) (v := .int x1) (ty := .boolean) (C := RX7) (T := TX7) (N := 14) hx hb hts hiX7 tyX7 tyX7_ok nmX7 hown hK.1 hP hD hS 0 rfl rfl 9 (by decide) hfl_89 (fun _ h9 => h9) rfl (tyX7_ok 9 (by decide)) hz.1 hz.2.1 (Nat.le_of_ble_eq_true rfl) dX7_readsAll_2 (fun H locs hP hD hS => ?_)
  have hP : va_P D vwCl [(k0, .inr (7, [.ref k1, .int k_un, .ref k2, .ref k3, .int k_len, .int k_fi, .int k_be, .int k_to, .int k_cl, .int x1, .ref k4, .ref k5, .ref k6, .ref k7])), (k1, .inl (cI, 583, .inl k_ro)), (k2, .inl (cZ, 2, .inl k_ke)), (k3, .inl (cI, 200, .inl k_te)), (k4, .inl (cI, 10, .inl k_nu)), (k5, .inl (cI, 48, .inl k_na)), (k6, .inl (cI, 1024, .inl k_no)), (k7, .inl (cI, 1024, .inl k_tu))] H := hP
  have hD : va_D A [(k0, .inr (7, [.ref k1, .int k_un, .ref k2, .ref k3, .int k_len, .int k_fi, .int k_be, .int k_to, .int k_cl, .int x1, .ref k4, .ref k5, .ref k6, .ref k7])), (k1, .inl (cI, 583, .inl k_ro)), (k2, .inl (cZ, 2, .inl k_ke)), (k3, .inl (cI, 200, .inl k_te)), (k4, .inl (cI, 10, .inl k_nu)), (k5, .inl (cI, 48, .inl k_na)), (k6, .inl (cI, 1024, .inl k_no)), (k7, .inl (cI, 1024, .inl k_tu))] := hD
  refine lv_aload_n hx hb dX7_readsAll_5 rfl (lv_at hl 0 rfl) ?_
  refine lv_iconst (v := (nI 0)) hx hb dX7_readsAll_6 ic_0 ?_
  refine va_put (D := D) (ci := 7) (v := .int (nI 0)) (ty := .int) (C := RX7) (T := TX7) (N := 14) hx hb hts hiX7 tyX7 tyX7_ok nmX7 hown hK.1 hP hD hS 0 rfl rfl 6 (by decide) hfl_56 (fun _ h9 => h9) rfl (tyX7_ok 6 (by decide)) rfl rfl (Nat.le_of_ble_eq_true rfl) dX7_readsAll_7 (fun H locs hP hD hS => ?_)
  have hP : va_P D vwCl [(k0, .inr (7, [.ref k1, .int k_un, .ref k2, .ref k3, .int k_len, .int k_fi, .int (nI 0), .int k_to, .int k_cl, .int x1, .ref k4, .ref k5, .ref k6, .ref k7])), (k1, .inl (cI, 583, .inl k_ro)), (k2, .inl (cZ, 2, .inl k_ke)), (k3, .inl (cI, 200, .inl k_te)), (k4, .inl (cI, 10, .inl k_nu)), (k5, .inl (cI, 48, .inl k_na)), (k6, .inl (cI, 1024, .inl k_no)), (k7, .inl (cI, 1024, .inl k_tu))] H := hP
  have hD : va_D A [(k0, .inr (7, [.ref k1, .int k_un, .ref k2, .ref k3, .int k_len, .int k_fi, .int (nI 0), .int k_to, .int k_cl, .int x1, .ref k4, .ref k5, .ref k6, .ref k7])), (k1, .inl (cI, 583, .inl k_ro)), (k2, .inl (cZ, 2, .inl k_ke)), (k3, .inl (cI, 200, .inl k_te)), (k4, .inl (cI, 10, .inl k_nu)), (k5, .inl (cI, 48, .inl k_na)), (k6, .inl (cI, 1024, .inl k_no)), (k7, .inl (cI, 1024, .inl k_tu))] := hD
  refine lv_aload_n hx hb dX7_readsAll_10 rfl (lv_at hl 0 rfl) ?_
  refine lv_iconst (v := (nI 1)) hx hb dX7_readsAll_11 ic_1 ?_
  refine va_put (D := D) (ci := 7) (v := .int (nI 1)) (ty := .int) (C := RX7) (T := TX7) (N := 14) hx hb hts hiX7 tyX7 tyX7_ok nmX7 hown hK.1 hP hD hS 0 rfl rfl 8 (by decide) hfl_122 (fun _ h9 => h9) rfl (tyX7_ok 8 (by decide)) rfl rfl (Nat.le_of_ble_eq_true rfl) dX7_readsAll_12 (fun H locs hP hD hS => ?_)
  have hP : va_P D vwCl [(k0, .inr (7, [.ref k1, .int k_un, .ref k2, .ref k3, .int k_len, .int k_fi, .int (nI 0), .int k_to, .int (nI 1), .int x1, .ref k4, .ref k5, .ref k6, .ref k7])), (k1, .inl (cI, 583, .inl k_ro)), (k2, .inl (cZ, 2, .inl k_ke)), (k3, .inl (cI, 200, .inl k_te)), (k4, .inl (cI, 10, .inl k_nu)), (k5, .inl (cI, 48, .inl k_na)), (k6, .inl (cI, 1024, .inl k_no)), (k7, .inl (cI, 1024, .inl k_tu))] H := hP
  have hD : va_D A [(k0, .inr (7, [.ref k1, .int k_un, .ref k2, .ref k3, .int k_len, .int k_fi, .int (nI 0), .int k_to, .int (nI 1), .int x1, .ref k4, .ref k5, .ref k6, .ref k7])), (k1, .inl (cI, 583, .inl k_ro)), (k2, .inl (cZ, 2, .inl k_ke)), (k3, .inl (cI, 200, .inl k_te)), (k4, .inl (cI, 10, .inl k_nu)), (k5, .inl (cI, 48, .inl k_na)), (k6, .inl (cI, 1024, .inl k_no)), (k7, .inl (cI, 1024, .inl k_tu))] := hD
  refine lv_aload_n hx hb dX7_readsAll_15 rfl (lv_at hl 0 rfl) ?_
  refine lv_aload_n hx hb dX7_readsAll_16 rfl (lv_at hl 0 rfl) ?_
  refine va_get (D := D) (ci := 7) (v := .ref k1) (C := RX7) (T := TX7) (N := 14) hx hb hts hiX7 hown hK.1 hP 0 rfl rfl 0 (by decide) hfl_7 (fun _ h9 => h9) rfl dX7_readsAll_17 ?_
  refine lv_iconst (v := (nI 0)) hx hb dX7_readsAll_20 ic_0 ?_
  obtain ⟨hi, hf⟩ := gd_some hf
  refine va_iald hx hb hK.1 hP 1 0 rfl rfl hi dX7_readsAll_21 ?_
  refine va_put (D := D) (ci := 7) (v := .int (k_ro (nI 0).toNatClampNeg)) (ty := .int) (C := RX7) (T := TX7) (N := 14) hx hb hts hiX7 tyX7 tyX7_ok nmX7 hown hK.1 hP hD hS 0 rfl rfl 7 (by decide) hfl_72 (fun _ h9 => h9) rfl (tyX7_ok 7 (by decide)) rfl rfl (Nat.le_of_ble_eq_true rfl) dX7_readsAll_22 (fun H locs hP hD hS => ?_)
  have hP : va_P D vwCl [(k0, .inr (7, [.ref k1, .int k_un, .ref k2, .ref k3, .int k_len, .int k_fi, .int (nI 0), .int (k_ro (nI 0).toNatClampNeg), .int (nI 1), .int x1, .ref k4, .ref k5, .ref k6, .ref k7])), (k1, .inl (cI, 583, .inl k_ro)), (k2, .inl (cZ, 2, .inl k_ke)), (k3, .inl (cI, 200, .inl k_te)), (k4, .inl (cI, 10, .inl k_nu)), (k5, .inl (cI, 48, .inl k_na)), (k6, .inl (cI, 1024, .inl k_no)), (k7, .inl (cI, 1024, .inl k_tu))] H := hP
  have hD : va_D A [(k0, .inr (7, [.ref k1, .int k_un, .ref k2, .ref k3, .int k_len, .int k_fi, .int (nI 0), .int (k_ro (nI 0).toNatClampNeg), .int (nI 1), .int x1, .ref k4, .ref k5, .ref k6, .ref k7])), (k1, .inl (cI, 583, .inl k_ro)), (k2, .inl (cZ, 2, .inl k_ke)), (k3, .inl (cI, 200, .inl k_te)), (k4, .inl (cI, 10, .inl k_nu)), (k5, .inl (cI, 48, .inl k_na)), (k6, .inl (cI, 1024, .inl k_no)), (k7, .inl (cI, 1024, .inl k_tu))] := hD
  refine lv_aload_n hx hb dX7_readsAll_25 rfl (lv_at hl 0 rfl) ?_
  obtain ⟨rv1, hrv1, hf⟩ := bd hf
  refine muV0 (wr := []) (va_runV (As := []) (rest := []) ⟨hx, hb, hml, hown, hts⟩ (c_X7_next l D cI cZ cM k0 k1 k2 k3 k4 k5 k6 k7 _ k_un k_len k_fi (nI 0) (k_ro (nI 0).toNatClampNeg) (nI 1) x1 k_ro k_ke k_te k_nu k_na k_no k_tu fu rv1.1 rv1.2 hrv1) (cwV 0 hts gX7_readsAll_X7_next rfl rfl rfl ⟨rfl, hdc_X7_next⟩ ⟨Nat.le_of_ble_eq_true rfl, Nat.le_of_ble_eq_true rfl⟩) (pmV hK hP hD [0, 1, 2, 3, 4, 5, 6, 7] (by decide) rfl rfl (ci := 7) (q0 := 0) rfl rfl) rfl rfl hl.1 rfl (lv_room (Nat.le_of_ble_eq_true rfl)) dX7_readsAll_26 ⟨Nat.zero_le _, Nat.zero_le _⟩) hP hD hS hA [0, 1, 2, 3, 4, 5, 6, 7] [] rfl rfl (by decide) (by decide) (fun H locs hP hD hS => ?_)
  have hP : va_P D vwCl [(k0, .inr (7, [.ref k1, .int k_un, .ref k2, .ref k3, .int k_len, .int rv1.1, .int rv1.2, .int (k_ro (nI 0).toNatClampNeg), .int (nI 1), .int x1, .ref k4, .ref k5, .ref k6, .ref k7])), (k1, .inl (cI, 583, .inl k_ro)), (k2, .inl (cZ, 2, .inl k_ke)), (k3, .inl (cI, 200, .inl k_te)), (k4, .inl (cI, 10, .inl k_nu)), (k5, .inl (cI, 48, .inl k_na)), (k6, .inl (cI, 1024, .inl k_no)), (k7, .inl (cI, 1024, .inl k_tu))] H := hP
  have hD : va_D A [(k0, .inr (7, [.ref k1, .int k_un, .ref k2, .ref k3, .int k_len, .int rv1.1, .int rv1.2, .int (k_ro (nI 0).toNatClampNeg), .int (nI 1), .int x1, .ref k4, .ref k5, .ref k6, .ref k7])), (k1, .inl (cI, 583, .inl k_ro)), (k2, .inl (cZ, 2, .inl k_ke)), (k3, .inl (cI, 200, .inl k_te)), (k4, .inl (cI, 10, .inl k_nu)), (k5, .inl (cI, 48, .inl k_na)), (k6, .inl (cI, 1024, .inl k_no)), (k7, .inl (cI, 1024, .inl k_tu))] := hD
  refine lv_aload_n hx hb dX7_readsAll_29 rfl (lv_at hl 0 rfl) ?_
  obtain ⟨rv2, hrv2, hf⟩ := bd hf
  refine muI0 (wr := []) (va_runV (As := []) (rest := []) ⟨hx, hb, hml, hown, hts⟩ (c_X7_readsClause l D cI cZ cM k0 k1 k2 k3 k4 k5 k6 k7 _ k_un k_len rv1.1 rv1.2 (k_ro (nI 0).toNatClampNeg) (nI 1) x1 k_ro k_ke k_te k_nu k_na k_no k_tu fu rv2.1 rv2.2.1 rv2.2.2.1 rv2.2.2.2.1 rv2.2.2.2.2.1 rv2.2.2.2.2.2 hrv2) (cwV 0 hts gX7_readsAll_X7_readsClause rfl rfl rfl ⟨rfl, hdc_X7_readsClause⟩ ⟨Nat.le_of_ble_eq_true rfl, Nat.le_of_ble_eq_true rfl⟩) (pmV hK hP hD [0, 1, 2, 3, 4, 5, 6, 7] (by decide) rfl rfl (ci := 7) (q0 := 0) rfl rfl) rfl rfl hl.1 rfl (lv_room (Nat.le_of_ble_eq_true rfl)) dX7_readsAll_30 ⟨Nat.zero_le _, Nat.zero_le _⟩) hP hD hS hA [0, 1, 2, 3, 4, 5, 6, 7] [] rfl rfl (by decide) (by decide) (fun H locs hP hD hS => ?_)
  have hP : va_P D vwCl [(k0, .inr (7, [.ref k1, .int k_un, .ref k2, .ref k3, .int k_len, .int rv2.2.1, .int rv2.2.2.1, .int rv2.2.2.2.1, .int (nI 1), .int x1, .ref k4, .ref k5, .ref k6, .ref k7])), (k1, .inl (cI, 583, .inl rv2.2.2.2.2.1)), (k2, .inl (cZ, 2, .inl k_ke)), (k3, .inl (cI, 200, .inl k_te)), (k4, .inl (cI, 10, .inl rv2.2.2.2.2.2)), (k5, .inl (cI, 48, .inl k_na)), (k6, .inl (cI, 1024, .inl k_no)), (k7, .inl (cI, 1024, .inl k_tu))] H := hP
  have hD : va_D A [(k0, .inr (7, [.ref k1, .int k_un, .ref k2, .ref k3, .int k_len, .int rv2.2.1, .int rv2.2.2.1, .int rv2.2.2.2.1, .int (nI 1), .int x1, .ref k4, .ref k5, .ref k6, .ref k7])), (k1, .inl (cI, 583, .inl rv2.2.2.2.2.1)), (k2, .inl (cZ, 2, .inl k_ke)), (k3, .inl (cI, 200, .inl k_te)), (k4, .inl (cI, 10, .inl rv2.2.2.2.2.2)), (k5, .inl (cI, 48, .inl k_na)), (k6, .inl (cI, 1024, .inl k_no)), (k7, .inl (cI, 1024, .inl k_tu))] := hD
  refine lv_istore_n (lv' := [(2, .int rv2.1), (0, .ref k0), (1, .int x1)]) hx hb dX7_readsAll_33 rfl hl (by decide) rfl (fun ls hl => ?_)
  exact hB_34 x1 fu rv2.1 rv2.2.1 rv2.2.2.1 rv2.2.2.2.1 (nI 1) rv2.2.2.2.2.1 rv2.2.2.2.2.2 hf _ _ hP hD hS ls (lv_sub hl [1, 0] rfl)
theorem hdc_X7_fault : yX7_fault.cls ≠ "java/lang/invoke/MethodHandle" ∧ yX7_fault.cls ≠ "java/lang/invoke/VarHandle" ∧ (parseMethodDescriptor yX7_fault.desc).map (fun d => d.parameters.length) = some 0 := by decide +kernel
set_option maxHeartbeats 4000000 in
set_option maxRecDepth 100000 in
theorem c_X7_fault (l : Launch) (D : va_G) (cI cZ cM : ClassId) (k0 k1 k2 k3 k4 k5 k6 k7 : Nat) (sz : Nat) (k_un : Int32) (k_len : Int32) (k_fi : Int32) (k_be : Int32) (k_to : Int32) (k_cl : Int32) (k_do : Int32) (k_ro : Nat → Int32) (k_ke : Nat → Int32) (k_te : Nat → Int32) (k_nu : Nat → Int32) (k_na : Nat → Int32) (k_no : Nat → Int32) (k_tu : Nat → Int32) (fu : Nat) (r : Int32) (k_fi' : Int32) (k_be' : Int32) (k_to' : Int32) (k_cl' : Int32) (k_do' : Int32) (k_ro' : Nat → Int32) (k_nu' : Nat → Int32) (hf : m_X7_fault fu k_len k_ro k_te k_nu k_na = some (r, k_fi', k_be', k_to', k_cl', k_do', k_ro', k_nu')) : Met l yX7_fault wsX7_fault ({ frames := 9, cells := 0, slots := 0, locals := 202 }) (pM D cI cZ cM sz [(k0, .inr (7, [.ref k1, .int k_un, .ref k2, .ref k3, .int k_len, .int k_fi, .int k_be, .int k_to, .int k_cl, .int k_do, .ref k4, .ref k5, .ref k6, .ref k7])), (k1, .inl (cI, 583, .inl k_ro)), (k2, .inl (cZ, 2, .inl k_ke)), (k3, .inl (cI, 200, .inl k_te)), (k4, .inl (cI, 10, .inl k_nu)), (k5, .inl (cI, 48, .inl k_na)), (k6, .inl (cI, 1024, .inl k_no)), (k7, .inl (cI, 1024, .inl k_tu))] [.ref k0]) (qI D r [(k0, .inr (7, [.ref k1, .int k_un, .ref k2, .ref k3, .int k_len, .int k_fi', .int k_be', .int k_to', .int k_cl', .int k_do', .ref k4, .ref k5, .ref k6, .ref k7])), (k1, .inl (cI, 583, .inl k_ro')), (k2, .inl (cZ, 2, .inl k_ke)), (k3, .inl (cI, 200, .inl k_te)), (k4, .inl (cI, 10, .inl k_nu')), (k5, .inl (cI, 48, .inl k_na)), (k6, .inl (cI, 1024, .inl k_no)), (k7, .inl (cI, 1024, .inl k_tu))] (va_A [(k0, .inr (7, [.ref k1, .int k_un, .ref k2, .ref k3, .int k_len, .int k_fi, .int k_be, .int k_to, .int k_cl, .int k_do, .ref k4, .ref k5, .ref k6, .ref k7])), (k1, .inl (cI, 583, .inl k_ro)), (k2, .inl (cZ, 2, .inl k_ke)), (k3, .inl (cI, 200, .inl k_te)), (k4, .inl (cI, 10, .inl k_nu)), (k5, .inl (cI, 48, .inl k_na)), (k6, .inl (cI, 1024, .inl k_no)), (k7, .inl (cI, 1024, .inl k_tu))] sz)) 0 0 (va_A [(k0, .inr (7, [.ref k1, .int k_un, .ref k2, .ref k3, .int k_len, .int k_fi, .int k_be, .int k_to, .int k_cl, .int k_do, .ref k4, .ref k5, .ref k6, .ref k7])), (k1, .inl (cI, 583, .inl k_ro)), (k2, .inl (cZ, 2, .inl k_ke)), (k3, .inl (cI, 200, .inl k_te)), (k4, .inl (cI, 10, .inl k_nu)), (k5, .inl (cI, 48, .inl k_na)), (k6, .inl (cI, 1024, .inl k_no)), (k7, .inl (cI, 1024, .inl k_tu))] sz) := by
  refine Met.ofW (cc := cX7_fault) (maxL := 1) (ret := (some .int)) (by decide) rfl ?_
  intro p e s m args below meth c s₁ B hml hv
  obtain ⟨rfl, hsz, hP, hK, hD0⟩ := hv
  have hx := B.exec
  have hb := B.bytes
  have hr := B.returns
  have hts := atoms_spec (ws := wsX7_fault) B.pre
  have hown : s.vm.findClass RX7 = some m.cls := findClass_of_methodNamed B.named
  have hlocks := B.notSynchronized
  subst hsz
  have hD := hD0.self (sz := s.heap.size)
  generalize hAe : va_A [(k0, .inr (7, [.ref k1, .int k_un, .ref k2, .ref k3, .int k_len, .int k_fi, .int k_be, .int k_to, .int k_cl, .int k_do, .ref k4, .ref k5, .ref k6, .ref k7])), (k1, .inl (cI, 583, .inl k_ro)), (k2, .inl (cZ, 2, .inl k_ke)), (k3, .inl (cI, 200, .inl k_te)), (k4, .inl (cI, 10, .inl k_nu)), (k5, .inl (cI, 48, .inl k_na)), (k6, .inl (cI, 1024, .inl k_no)), (k7, .inl (cI, 1024, .inl k_tu))] s.heap.size = A at hD ⊢
  have hA : ∀ q : Nat, s.heap.size ≤ q → A q := fun q h => by rw [← hAe]; exact Or.inr h
  clear hAe hD0
  have hfl_59 := hts (.fieldLink RX7 59 "TermsFirstModel" "first" "I") (List.mem_cons_of_mem _ (List.mem_append_left _ (List.mem_append_left _ (List.mem_of_getElem? (i := 0) rfl))))
  have hiX7 : ∀ w ∈ u_ws RX7 TX7 14, w ∈ wsX7_fault := fun _ h => (List.mem_cons_of_mem _ (List.mem_append_right _ h))
  have hl := lv_entry ([.ref k0]) (n := 1) (Nat.le_of_ble_eq_true rfl)
  rw [lg_entry_eq]
  generalize (lg_sl ([.ref k0]) ++ List.replicate (1 - (lg_sl ([.ref k0])).length) Slot.unset).toArray = ls at hl ⊢
  have hl : lv_has ls 1 [(0, .ref k0)] := hl
  have hS : va_S A s.heap s.heap [] := va_S.rf
  unfold m_X7_fault at hf
  refine lv_aload_n hx hb dX7_fault_0 rfl (lv_at hl 0 rfl) ?_
  refine lv_iconst (v := (nI 0)) hx hb dX7_fault_1 ic_0 ?_
  obtain ⟨rv1, hrv1, hf⟩ := bd hf
  refine muI0 (wr := []) (va_runV (As := [.int (nI 0)]) (rest := []) ⟨hx, hb, hml, hown, hts⟩ (c_X7_readsAll l D cI cZ cM k0 k1 k2 k3 k4 k5 k6 k7 _ k_un k_len k_fi k_be k_to k_cl k_do k_ro k_ke k_te k_nu k_na k_no k_tu (nI 0) fu rv1.1 rv1.2.1 rv1.2.2.1 rv1.2.2.2.1 rv1.2.2.2.2.1 rv1.2.2.2.2.2.1 rv1.2.2.2.2.2.2.1 rv1.2.2.2.2.2.2.2 hrv1) (cwV 1 hts gX7_fault_X7_readsAll rfl rfl rfl ⟨rfl, hdc_X7_readsAll⟩ ⟨Nat.le_of_ble_eq_true rfl, Nat.le_of_ble_eq_true rfl⟩) (pmV hK hP hD [0, 1, 2, 3, 4, 5, 6, 7] (by decide) rfl rfl (ci := 7) (q0 := 0) rfl rfl) rfl rfl hl.1 rfl (lv_room (Nat.le_of_ble_eq_true rfl)) dX7_fault_2 ⟨Nat.zero_le _, Nat.zero_le _⟩) hP hD hS hA [0, 1, 2, 3, 4, 5, 6, 7] [] rfl rfl (by decide) (by decide) (fun H locs hP hD hS => ?_)
  have hP : va_P D vwCl [(k0, .inr (7, [.ref k1, .int k_un, .ref k2, .ref k3, .int k_len, .int rv1.2.1, .int rv1.2.2.1, .int rv1.2.2.2.1, .int rv1.2.2.2.2.1, .int rv1.2.2.2.2.2.1, .ref k4, .ref k5, .ref k6, .ref k7])), (k1, .inl (cI, 583, .inl rv1.2.2.2.2.2.2.1)), (k2, .inl (cZ, 2, .inl k_ke)), (k3, .inl (cI, 200, .inl k_te)), (k4, .inl (cI, 10, .inl rv1.2.2.2.2.2.2.2)), (k5, .inl (cI, 48, .inl k_na)), (k6, .inl (cI, 1024, .inl k_no)), (k7, .inl (cI, 1024, .inl k_tu))] H := hP
  have hD : va_D A [(k0, .inr (7, [.ref k1, .int k_un, .ref k2, .ref k3, .int k_len, .int rv1.2.1, .int rv1.2.2.1, .int rv1.2.2.2.1, .int rv1.2.2.2.2.1, .int rv1.2.2.2.2.2.1, .ref k4, .ref k5, .ref k6, .ref k7])), (k1, .inl (cI, 583, .inl rv1.2.2.2.2.2.2.1)), (k2, .inl (cZ, 2, .inl k_ke)), (k3, .inl (cI, 200, .inl k_te)), (k4, .inl (cI, 10, .inl rv1.2.2.2.2.2.2.2)), (k5, .inl (cI, 48, .inl k_na)), (k6, .inl (cI, 1024, .inl k_no)), (k7, .inl (cI, 1024, .inl k_tu))] := hD
  refine lv_if_eq (tgt := 12) hx hb dX7_fault_5 (by decide) (fun hc => ?_) (fun hc => ?_)
  · have hf := ifp hc hf
    refine lv_aload_n hx hb dX7_fault_12 rfl (lv_at hl 0 rfl) ?_
    refine va_get (D := D) (ci := 7) (v := .int rv1.2.1) (C := RX7) (T := TX7) (N := 14) hx hb hts hiX7 hown hK.1 hP 0 rfl rfl 5 (by decide) hfl_59 (fun _ h9 => h9) rfl dX7_fault_13 ?_
    cases hf
    exact W.iret hx hb hr (fun t ht _ => ⟨⟨rfl, by rw [ht]; exact hP, hD⟩, hS.F ht⟩) hS.2.2 dX7_fault_16
  · have hf := ifn hc hf
    refine lv_iconst (v := (-1 : Int32)) hx hb dX7_fault_8 ic_m1 ?_
    refine lv_goto (tgt := 16) hx hb dX7_fault_9 (by decide) ?_
    cases hf
    exact W.iret hx hb hr (fun t ht _ => ⟨⟨rfl, by rw [ht]; exact hP, hD⟩, hS.F ht⟩) hS.2.2 dX7_fault_16
theorem hdc_X7_tell : yX7_tell.cls ≠ "java/lang/invoke/MethodHandle" ∧ yX7_tell.cls ≠ "java/lang/invoke/VarHandle" ∧ (parseMethodDescriptor yX7_tell.desc).map (fun d => d.parameters.length) = some 0 := by decide +kernel
set_option maxHeartbeats 4000000 in
set_option maxRecDepth 100000 in
theorem c_X7_tell (l : Launch) (D : va_G) (cI cZ cM : ClassId) (k0 k1 k2 k3 k4 k5 k6 k7 : Nat) (sz : Nat) (k_un : Int32) (k_len : Int32) (k_fi : Int32) (k_be : Int32) (k_to : Int32) (k_cl : Int32) (k_do : Int32) (k_ro : Nat → Int32) (k_ke : Nat → Int32) (k_te : Nat → Int32) (k_nu : Nat → Int32) (k_na : Nat → Int32) (k_no : Nat → Int32) (k_tu : Nat → Int32) (fu : Nat) (r : Int32) (k_un' : Int32) (k_len' : Int32) (k_fi' : Int32) (k_be' : Int32) (k_to' : Int32) (k_cl' : Int32) (k_do' : Int32) (k_ro' : Nat → Int32) (k_nu' : Nat → Int32) (hf : m_X7_tell fu k_un k_len k_ro k_te k_nu k_na = some (r, k_un', k_len', k_fi', k_be', k_to', k_cl', k_do', k_ro', k_nu')) : Met l yX7_tell wsX7_tell ({ frames := 9, cells := 0, slots := 0, locals := 202 }) (pM D cI cZ cM sz [(k0, .inr (7, [.ref k1, .int k_un, .ref k2, .ref k3, .int k_len, .int k_fi, .int k_be, .int k_to, .int k_cl, .int k_do, .ref k4, .ref k5, .ref k6, .ref k7])), (k1, .inl (cI, 583, .inl k_ro)), (k2, .inl (cZ, 2, .inl k_ke)), (k3, .inl (cI, 200, .inl k_te)), (k4, .inl (cI, 10, .inl k_nu)), (k5, .inl (cI, 48, .inl k_na)), (k6, .inl (cI, 1024, .inl k_no)), (k7, .inl (cI, 1024, .inl k_tu))] [.ref k0]) (qI D r [(k0, .inr (7, [.ref k1, .int k_un', .ref k2, .ref k3, .int k_len', .int k_fi', .int k_be', .int k_to', .int k_cl', .int k_do', .ref k4, .ref k5, .ref k6, .ref k7])), (k1, .inl (cI, 583, .inl k_ro')), (k2, .inl (cZ, 2, .inl k_ke)), (k3, .inl (cI, 200, .inl k_te)), (k4, .inl (cI, 10, .inl k_nu')), (k5, .inl (cI, 48, .inl k_na)), (k6, .inl (cI, 1024, .inl k_no)), (k7, .inl (cI, 1024, .inl k_tu))] (va_A [(k0, .inr (7, [.ref k1, .int k_un, .ref k2, .ref k3, .int k_len, .int k_fi, .int k_be, .int k_to, .int k_cl, .int k_do, .ref k4, .ref k5, .ref k6, .ref k7])), (k1, .inl (cI, 583, .inl k_ro)), (k2, .inl (cZ, 2, .inl k_ke)), (k3, .inl (cI, 200, .inl k_te)), (k4, .inl (cI, 10, .inl k_nu)), (k5, .inl (cI, 48, .inl k_na)), (k6, .inl (cI, 1024, .inl k_no)), (k7, .inl (cI, 1024, .inl k_tu))] sz)) 0 0 (va_A [(k0, .inr (7, [.ref k1, .int k_un, .ref k2, .ref k3, .int k_len, .int k_fi, .int k_be, .int k_to, .int k_cl, .int k_do, .ref k4, .ref k5, .ref k6, .ref k7])), (k1, .inl (cI, 583, .inl k_ro)), (k2, .inl (cZ, 2, .inl k_ke)), (k3, .inl (cI, 200, .inl k_te)), (k4, .inl (cI, 10, .inl k_nu)), (k5, .inl (cI, 48, .inl k_na)), (k6, .inl (cI, 1024, .inl k_no)), (k7, .inl (cI, 1024, .inl k_tu))] sz) := by
  refine Met.ofW (cc := cX7_tell) (maxL := 1) (ret := (some .int)) (by decide) rfl ?_
  intro p e s m args below meth c s₁ B hml hv
  obtain ⟨rfl, hsz, hP, hK, hD0⟩ := hv
  have hx := B.exec
  have hb := B.bytes
  have hr := B.returns
  have hts := atoms_spec (ws := wsX7_tell) B.pre
  have hown : s.vm.findClass RX7 = some m.cls := findClass_of_methodNamed B.named
  have hlocks := B.notSynchronized
  subst hsz
  have hD := hD0.self (sz := s.heap.size)
  generalize hAe : va_A [(k0, .inr (7, [.ref k1, .int k_un, .ref k2, .ref k3, .int k_len, .int k_fi, .int k_be, .int k_to, .int k_cl, .int k_do, .ref k4, .ref k5, .ref k6, .ref k7])), (k1, .inl (cI, 583, .inl k_ro)), (k2, .inl (cZ, 2, .inl k_ke)), (k3, .inl (cI, 200, .inl k_te)), (k4, .inl (cI, 10, .inl k_nu)), (k5, .inl (cI, 48, .inl k_na)), (k6, .inl (cI, 1024, .inl k_no)), (k7, .inl (cI, 1024, .inl k_tu))] s.heap.size = A at hD ⊢
  have hA : ∀ q : Nat, s.heap.size ≤ q → A q := fun q h => by rw [← hAe]; exact Or.inr h
  clear hAe hD0
  have hfl_44 := hts (.fieldLink RX7 44 "TermsFirstModel" "length" "I") (List.mem_cons_of_mem _ (List.mem_append_left _ (List.mem_append_left _ (List.mem_of_getElem? (i := 0) rfl))))
  have hfl_122 := hts (.fieldLink RX7 122 "TermsFirstModel" "clauses" "I") (List.mem_cons_of_mem _ (List.mem_append_left _ (List.mem_append_left _ (List.mem_of_getElem? (i := 2) rfl))))
  have hfl_132 := hts (.fieldLink RX7 132 "TermsFirstModel" "undos" "I") (List.mem_cons_of_mem _ (List.mem_append_left _ (List.mem_append_left _ (List.mem_of_getElem? (i := 1) rfl))))
  have hiX7 : ∀ w ∈ u_ws RX7 TX7 14, w ∈ wsX7_tell := fun _ h => (List.mem_cons_of_mem _ (List.mem_append_right _ h))
  have hl := lv_entry ([.ref k0]) (n := 1) (Nat.le_of_ble_eq_true rfl)
  rw [lg_entry_eq]
  generalize (lg_sl ([.ref k0]) ++ List.replicate (1 - (lg_sl ([.ref k0])).length) Slot.unset).toArray = ls at hl ⊢
  have hl : lv_has ls 1 [(0, .ref k0)] := hl
  have hS : va_S A s.heap s.heap [] := va_S.rf
  unfold m_X7_tell at hf
  refine lv_aload_n hx hb dX7_tell_0 rfl (lv_at hl 0 rfl) ?_
  refine lv_iconst (v := (nI 0)) hx hb dX7_tell_1 ic_0 ?_
  obtain ⟨rv1, hrv1, hf⟩ := bd hf
  refine muI0 (wr := []) (va_runV (As := [.int (nI 0)]) (rest := []) ⟨hx, hb, hml, hown, hts⟩ (c_X7_readsAll l D cI cZ cM k0 k1 k2 k3 k4 k5 k6 k7 _ k_un k_len k_fi k_be k_to k_cl k_do k_ro k_ke k_te k_nu k_na k_no k_tu (nI 0) fu rv1.1 rv1.2.1 rv1.2.2.1 rv1.2.2.2.1 rv1.2.2.2.2.1 rv1.2.2.2.2.2.1 rv1.2.2.2.2.2.2.1 rv1.2.2.2.2.2.2.2 hrv1) (cwV 1 hts gX7_tell_X7_readsAll rfl rfl rfl ⟨rfl, hdc_X7_readsAll⟩ ⟨Nat.le_of_ble_eq_true rfl, Nat.le_of_ble_eq_true rfl⟩) (pmV hK hP hD [0, 1, 2, 3, 4, 5, 6, 7] (by decide) rfl rfl (ci := 7) (q0 := 0) rfl rfl) rfl rfl hl.1 rfl (lv_room (Nat.le_of_ble_eq_true rfl)) dX7_tell_2 ⟨Nat.zero_le _, Nat.zero_le _⟩) hP hD hS hA [0, 1, 2, 3, 4, 5, 6, 7] [] rfl rfl (by decide) (by decide) (fun H locs hP hD hS => ?_)
  have hP : va_P D vwCl [(k0, .inr (7, [.ref k1, .int k_un, .ref k2, .ref k3, .int k_len, .int rv1.2.1, .int rv1.2.2.1, .int rv1.2.2.2.1, .int rv1.2.2.2.2.1, .int rv1.2.2.2.2.2.1, .ref k4, .ref k5, .ref k6, .ref k7])), (k1, .inl (cI, 583, .inl rv1.2.2.2.2.2.2.1)), (k2, .inl (cZ, 2, .inl k_ke)), (k3, .inl (cI, 200, .inl k_te)), (k4, .inl (cI, 10, .inl rv1.2.2.2.2.2.2.2)), (k5, .inl (cI, 48, .inl k_na)), (k6, .inl (cI, 1024, .inl k_no)), (k7, .inl (cI, 1024, .inl k_tu))] H := hP
  have hD : va_D A [(k0, .inr (7, [.ref k1, .int k_un, .ref k2, .ref k3, .int k_len, .int rv1.2.1, .int rv1.2.2.1, .int rv1.2.2.2.1, .int rv1.2.2.2.2.1, .int rv1.2.2.2.2.2.1, .ref k4, .ref k5, .ref k6, .ref k7])), (k1, .inl (cI, 583, .inl rv1.2.2.2.2.2.2.1)), (k2, .inl (cZ, 2, .inl k_ke)), (k3, .inl (cI, 200, .inl k_te)), (k4, .inl (cI, 10, .inl rv1.2.2.2.2.2.2.2)), (k5, .inl (cI, 48, .inl k_na)), (k6, .inl (cI, 1024, .inl k_no)), (k7, .inl (cI, 1024, .inl k_tu))] := hD
  refine lv_if_ne (tgt := 11) hx hb dX7_tell_5 (by decide) (fun hc => ?_) (fun hc => ?_)
  · have hf := ifn hc hf
    refine lv_aload_n hx hb dX7_tell_11 rfl (lv_at hl 0 rfl) ?_
    refine lv_iconst (v := (nI 1)) hx hb dX7_tell_12 ic_1 ?_
    obtain ⟨rv2, hrv2, hf⟩ := bd hf
    refine muI0 (wr := []) (va_runV (As := [.int (nI 1)]) (rest := []) ⟨hx, hb, hml, hown, hts⟩ (c_X7_readsAll l D cI cZ cM k0 k1 k2 k3 k4 k5 k6 k7 _ k_un k_len rv1.2.1 rv1.2.2.1 rv1.2.2.2.1 rv1.2.2.2.2.1 rv1.2.2.2.2.2.1 rv1.2.2.2.2.2.2.1 k_ke k_te rv1.2.2.2.2.2.2.2 k_na k_no k_tu (nI 1) fu rv2.1 rv2.2.1 rv2.2.2.1 rv2.2.2.2.1 rv2.2.2.2.2.1 rv2.2.2.2.2.2.1 rv2.2.2.2.2.2.2.1 rv2.2.2.2.2.2.2.2 hrv2) (cwV 1 hts gX7_tell_X7_readsAll rfl rfl rfl ⟨rfl, hdc_X7_readsAll⟩ ⟨Nat.le_of_ble_eq_true rfl, Nat.le_of_ble_eq_true rfl⟩) (pmV hK hP hD [0, 1, 2, 3, 4, 5, 6, 7] (by decide) rfl rfl (ci := 7) (q0 := 0) rfl rfl) rfl rfl hl.1 rfl (lv_room (Nat.le_of_ble_eq_true rfl)) dX7_tell_13 ⟨Nat.zero_le _, Nat.zero_le _⟩) hP hD hS hA [0, 1, 2, 3, 4, 5, 6, 7] [] rfl rfl (by decide) (by decide) (fun H locs hP hD hS => ?_)
    have hP : va_P D vwCl [(k0, .inr (7, [.ref k1, .int k_un, .ref k2, .ref k3, .int k_len, .int rv2.2.1, .int rv2.2.2.1, .int rv2.2.2.2.1, .int rv2.2.2.2.2.1, .int rv2.2.2.2.2.2.1, .ref k4, .ref k5, .ref k6, .ref k7])), (k1, .inl (cI, 583, .inl rv2.2.2.2.2.2.2.1)), (k2, .inl (cZ, 2, .inl k_ke)), (k3, .inl (cI, 200, .inl k_te)), (k4, .inl (cI, 10, .inl rv2.2.2.2.2.2.2.2)), (k5, .inl (cI, 48, .inl k_na)), (k6, .inl (cI, 1024, .inl k_no)), (k7, .inl (cI, 1024, .inl k_tu))] H := hP
    have hD : va_D A [(k0, .inr (7, [.ref k1, .int k_un, .ref k2, .ref k3, .int k_len, .int rv2.2.1, .int rv2.2.2.1, .int rv2.2.2.2.1, .int rv2.2.2.2.2.1, .int rv2.2.2.2.2.2.1, .ref k4, .ref k5, .ref k6, .ref k7])), (k1, .inl (cI, 583, .inl rv2.2.2.2.2.2.2.1)), (k2, .inl (cZ, 2, .inl k_ke)), (k3, .inl (cI, 200, .inl k_te)), (k4, .inl (cI, 10, .inl rv2.2.2.2.2.2.2.2)), (k5, .inl (cI, 48, .inl k_na)), (k6, .inl (cI, 1024, .inl k_no)), (k7, .inl (cI, 1024, .inl k_tu))] := hD
    refine lv_pop hx hb dX7_tell_16 rfl ?_
    refine lv_aload_n hx hb dX7_tell_17 rfl (lv_at hl 0 rfl) ?_
    refine lv_iconst (v := (nI 0)) hx hb dX7_tell_18 ic_0 ?_
    refine va_put (D := D) (ci := 7) (v := .int (nI 0)) (ty := .int) (C := RX7) (T := TX7) (N := 14) hx hb hts hiX7 tyX7 tyX7_ok nmX7 hown hK.1 hP hD hS 0 rfl rfl 4 (by decide) hfl_44 (fun _ h9 => h9) rfl (tyX7_ok 4 (by decide)) rfl rfl (Nat.le_of_ble_eq_true rfl) dX7_tell_19 (fun H locs hP hD hS => ?_)
    have hP : va_P D vwCl [(k0, .inr (7, [.ref k1, .int k_un, .ref k2, .ref k3, .int (nI 0), .int rv2.2.1, .int rv2.2.2.1, .int rv2.2.2.2.1, .int rv2.2.2.2.2.1, .int rv2.2.2.2.2.2.1, .ref k4, .ref k5, .ref k6, .ref k7])), (k1, .inl (cI, 583, .inl rv2.2.2.2.2.2.2.1)), (k2, .inl (cZ, 2, .inl k_ke)), (k3, .inl (cI, 200, .inl k_te)), (k4, .inl (cI, 10, .inl rv2.2.2.2.2.2.2.2)), (k5, .inl (cI, 48, .inl k_na)), (k6, .inl (cI, 1024, .inl k_no)), (k7, .inl (cI, 1024, .inl k_tu))] H := hP
    have hD : va_D A [(k0, .inr (7, [.ref k1, .int k_un, .ref k2, .ref k3, .int (nI 0), .int rv2.2.1, .int rv2.2.2.1, .int rv2.2.2.2.1, .int rv2.2.2.2.2.1, .int rv2.2.2.2.2.2.1, .ref k4, .ref k5, .ref k6, .ref k7])), (k1, .inl (cI, 583, .inl rv2.2.2.2.2.2.2.1)), (k2, .inl (cZ, 2, .inl k_ke)), (k3, .inl (cI, 200, .inl k_te)), (k4, .inl (cI, 10, .inl rv2.2.2.2.2.2.2.2)), (k5, .inl (cI, 48, .inl k_na)), (k6, .inl (cI, 1024, .inl k_no)), (k7, .inl (cI, 1024, .inl k_tu))] := hD
    refine lv_aload_n hx hb dX7_tell_22 rfl (lv_at hl 0 rfl) ?_
    refine lv_iconst (v := (nI 0)) hx hb dX7_tell_23 ic_0 ?_
    refine va_put (D := D) (ci := 7) (v := .int (nI 0)) (ty := .int) (C := RX7) (T := TX7) (N := 14) hx hb hts hiX7 tyX7 tyX7_ok nmX7 hown hK.1 hP hD hS 0 rfl rfl 1 (by decide) hfl_132 (fun _ h9 => h9) rfl (tyX7_ok 1 (by decide)) rfl rfl (Nat.le_of_ble_eq_true rfl) dX7_tell_24 (fun H locs hP hD hS => ?_)
    have hP : va_P D vwCl [(k0, .inr (7, [.ref k1, .int (nI 0), .ref k2, .ref k3, .int (nI 0), .int rv2.2.1, .int rv2.2.2.1, .int rv2.2.2.2.1, .int rv2.2.2.2.2.1, .int rv2.2.2.2.2.2.1, .ref k4, .ref k5, .ref k6, .ref k7])), (k1, .inl (cI, 583, .inl rv2.2.2.2.2.2.2.1)), (k2, .inl (cZ, 2, .inl k_ke)), (k3, .inl (cI, 200, .inl k_te)), (k4, .inl (cI, 10, .inl rv2.2.2.2.2.2.2.2)), (k5, .inl (cI, 48, .inl k_na)), (k6, .inl (cI, 1024, .inl k_no)), (k7, .inl (cI, 1024, .inl k_tu))] H := hP
    have hD : va_D A [(k0, .inr (7, [.ref k1, .int (nI 0), .ref k2, .ref k3, .int (nI 0), .int rv2.2.1, .int rv2.2.2.1, .int rv2.2.2.2.1, .int rv2.2.2.2.2.1, .int rv2.2.2.2.2.2.1, .ref k4, .ref k5, .ref k6, .ref k7])), (k1, .inl (cI, 583, .inl rv2.2.2.2.2.2.2.1)), (k2, .inl (cZ, 2, .inl k_ke)), (k3, .inl (cI, 200, .inl k_te)), (k4, .inl (cI, 10, .inl rv2.2.2.2.2.2.2.2)), (k5, .inl (cI, 48, .inl k_na)), (k6, .inl (cI, 1024, .inl k_no)), (k7, .inl (cI, 1024, .inl k_tu))] := hD
    refine lv_aload_n hx hb dX7_tell_27 rfl (lv_at hl 0 rfl) ?_
    refine va_get (D := D) (ci := 7) (v := .int rv2.2.2.2.2.1) (C := RX7) (T := TX7) (N := 14) hx hb hts hiX7 hown hK.1 hP 0 rfl rfl 8 (by decide) hfl_122 (fun _ h9 => h9) rfl dX7_tell_28 ?_
    cases hf
    exact W.iret hx hb hr (fun t ht _ => ⟨⟨rfl, by rw [ht]; exact hP, hD⟩, hS.F ht⟩) hS.2.2 dX7_tell_31
  · have hf := ifp hc hf
    refine lv_bipush (v := (-4 : Int32)) hx hb dX7_tell_8 bp_m4 ?_
    cases hf
    exact W.iret hx hb hr (fun t ht _ => ⟨⟨rfl, by rw [ht]; exact hP, hD⟩, hS.F ht⟩) hS.2.2 dX7_tell_10
theorem hdc_X7_earlyIn : yX7_earlyIn.cls ≠ "java/lang/invoke/MethodHandle" ∧ yX7_earlyIn.cls ≠ "java/lang/invoke/VarHandle" ∧ (parseMethodDescriptor yX7_earlyIn.desc).map (fun d => d.parameters.length) = some 1 := by decide +kernel
set_option maxHeartbeats 4000000 in
set_option maxRecDepth 100000 in
theorem c_X7_earlyIn (l : Launch) (D : va_G) (cI cZ cM : ClassId) (k0 k1 k2 k3 k4 k5 k6 k7 : Nat) (k_un : Int32) (k_len : Int32) (k_fi : Int32) (k_be : Int32) (k_to : Int32) (k_cl : Int32) (k_do : Int32) (k_ro : Nat → Int32) (k_ke : Nat → Int32) (k_te : Nat → Int32) (k_nu : Nat → Int32) (k_na : Nat → Int32) (k_no : Nat → Int32) (k_tu : Nat → Int32) (x1 : Int32) (fu : Nat) (r : Int32) (hf : m_X7_earlyIn fu k_ro x1 = some r) : Met l yX7_earlyIn wsX7_earlyIn ({ frames := 1, cells := 0, slots := 0, locals := 22 }) (pR D cI cZ cM [(k0, .inr (7, [.ref k1, .int k_un, .ref k2, .ref k3, .int k_len, .int k_fi, .int k_be, .int k_to, .int k_cl, .int k_do, .ref k4, .ref k5, .ref k6, .ref k7])), (k1, .inl (cI, 583, .inl k_ro)), (k2, .inl (cZ, 2, .inl k_ke)), (k3, .inl (cI, 200, .inl k_te)), (k4, .inl (cI, 10, .inl k_nu)), (k5, .inl (cI, 48, .inl k_na)), (k6, .inl (cI, 1024, .inl k_no)), (k7, .inl (cI, 1024, .inl k_tu))] [.ref k0, .int x1]) (qR r) 0 0 (fun _ => False) := by
  refine Met.ofW (cc := cX7_earlyIn) (maxL := 5) (ret := (some .int)) (by decide) rfl ?_
  intro p e s m args below meth c s₁ B hml hv
  obtain ⟨rfl, hP, hK⟩ := hv
  have hx := B.exec
  have hb := B.bytes
  have hr := B.returns
  have hts := atoms_spec (ws := wsX7_earlyIn) B.pre
  have hown : s.vm.findClass RX7 = some m.cls := findClass_of_methodNamed B.named
  have hlocks := B.notSynchronized
  have hfl_7 := hts (.fieldLink RX7 7 "TermsFirstModel" "rows" "[I") (List.mem_cons_of_mem _ (List.mem_append_left _ (List.mem_of_getElem? (i := 0) rfl)))
  have hiX7 : ∀ w ∈ u_ws RX7 TX7 14, w ∈ wsX7_earlyIn := fun _ h => (List.mem_cons_of_mem _ (List.mem_append_right _ h))
  have hB_65 : ∀ (x2 : Int32) (x3 : Int32) (s0 : Int32) (kt4 : Int32 → Int32 → Option (Int32)) (hkt4 : ∀ (x2 : Int32) (x3 : Int32), kt4 x2 x3 = some r → ∀ ls : Array Slot, lv_has ls 5 [(0, .ref k0), (1, .int x1), (2, .int x2), (3, .int x3)] → W p l e (headSpec wsX7_earlyIn { frames := 1, cells := 0, slots := 0, locals := 22 }).room s m ([.ref k0, .int x1] : List Value).toArray below meth c s.heap [] 0 0 (MQ below (qR r) ([.ref k0, .int x1] : List Value).toArray s 0 0 (fun _ => False)) (F0 m 4 ls [])), m_X7_earlyIn_65 s0 x2 x3 kt4 = some r → ∀ ls : Array Slot, lv_has ls 5 [(0, .ref k0), (1, .int x1), (2, .int x2), (3, .int x3)] → W p l e (headSpec wsX7_earlyIn { frames := 1, cells := 0, slots := 0, locals := 22 }).room s m ([.ref k0, .int x1] : List Value).toArray below meth c s.heap [] 0 0 (MQ below (qR r) ([.ref k0, .int x1] : List Value).toArray s 0 0 (fun _ => False)) (F0 m 65 ls [.int s0]) := by
    intro x2 x3 s0 kt4 hkt4 hf ls hl
    unfold m_X7_earlyIn_65 at hf
    refine lv_istore (lv' := [(4, .int s0), (0, .ref k0), (1, .int x1), (2, .int x2), (3, .int x3)]) hx hb dX7_earlyIn_65 hl (by decide) rfl (fun ls hl => ?_)
    refine lv_iload_n hx hb dX7_earlyIn_67 rfl (lv_at hl 3 rfl) ?_
    refine lv_iload hx hb dX7_earlyIn_68 (lv_at hl 0 rfl) ?_
    refine lv_if_eq (tgt := 79) hx hb dX7_earlyIn_70 (by decide) (fun hc => ?_) (fun hc => ?_)
    · have hf := ifp hc hf
      refine lv_iconst (v := (nI 0)) hx hb dX7_earlyIn_79 ic_0 ?_
      refine lv_ior hx hb dX7_earlyIn_80 ?_
      refine lv_istore_n (lv' := [(2, .int (x2 ||| (nI 0))), (4, .int s0), (0, .ref k0), (1, .int x1), (3, .int x3)]) hx hb dX7_earlyIn_81 rfl hl (by decide) rfl (fun ls hl => ?_)
      refine lv_iinc (v := (x3 + (nI 1))) (lv' := [(3, .int (x3 + (nI 1))), (2, .int (x2 ||| (nI 0))), (4, .int s0), (0, .ref k0), (1, .int x1)]) hx hb dX7_earlyIn_82 hl (k := 4) rfl (ii_1 _) (by decide) rfl (fun ls hl => ?_)
      refine lv_goto (tgt := 4) hx hb dX7_earlyIn_85 (by decide) ?_
      exact hkt4 (x2 ||| (nI 0)) (x3 + (nI 1)) hf  ls (lv_sub hl [3, 4, 1, 0] rfl)
    · have hf := ifn hc hf
      refine lv_iconst (v := (nI 1)) hx hb dX7_earlyIn_73 ic_1 ?_
      refine lv_iload_n hx hb dX7_earlyIn_74 rfl (lv_at hl 4 rfl) ?_
      refine lv_ishl hx hb dX7_earlyIn_75 ?_
      refine lv_goto (tgt := 80) hx hb dX7_earlyIn_76 (by decide) ?_
      refine lv_ior hx hb dX7_earlyIn_80 ?_
      refine lv_istore_n (lv' := [(2, .int (x2 ||| ((nI 1) <<< (x3 &&& 31)))), (4, .int s0), (0, .ref k0), (1, .int x1), (3, .int x3)]) hx hb dX7_earlyIn_81 rfl hl (by decide) rfl (fun ls hl => ?_)
      refine lv_iinc (v := (x3 + (nI 1))) (lv' := [(3, .int (x3 + (nI 1))), (2, .int (x2 ||| ((nI 1) <<< (x3 &&& 31)))), (4, .int s0), (0, .ref k0), (1, .int x1)]) hx hb dX7_earlyIn_82 hl (k := 4) rfl (ii_1 _) (by decide) rfl (fun ls hl => ?_)
      refine lv_goto (tgt := 4) hx hb dX7_earlyIn_85 (by decide) ?_
      exact hkt4 (x2 ||| ((nI 1) <<< (x3 &&& 31))) (x3 + (nI 1)) hf  ls (lv_sub hl [3, 4, 1, 0] rfl)
  have hB_4 : ∀ (fn : Nat) (x2 : Int32) (x3 : Int32), m_X7_earlyIn_4 fu k_ro x1 fn x2 x3 = some r → ∀ ls : Array Slot, lv_has ls 5 [(0, .ref k0), (1, .int x1), (2, .int x2), (3, .int x3)] → W p l e (headSpec wsX7_earlyIn { frames := 1, cells := 0, slots := 0, locals := 22 }).room s m ([.ref k0, .int x1] : List Value).toArray below meth c s.heap [] 0 0 (MQ below (qR r) ([.ref k0, .int x1] : List Value).toArray s 0 0 (fun _ => False)) (F0 m 4 ls []) := by
    intro fn
    induction fn with
    | zero => intro x2 x3 hf; rw [m_X7_earlyIn_4] at hf; cases hf
    | succ fn ih =>
      intro x2 x3 hf ls hl
      rw [m_X7_earlyIn_4] at hf
      refine lv_iload_n hx hb dX7_earlyIn_4 rfl (lv_at hl 3 rfl) ?_
      refine lv_bipush (v := (nI 12)) hx hb dX7_earlyIn_5 bp_12 ?_
      refine lv_icmp_ge (tgt := 88) hx hb dX7_earlyIn_7 (by decide) (fun hc => ?_) (fun hc => ?_)
      · have hf := ifp hc hf
        refine lv_iload_n hx hb dX7_earlyIn_88 rfl (lv_at hl 2 rfl) ?_
        cases hf
        exact W.iret hx hb hr (fun t ht _ => ⟨rfl, ht⟩) (fun _ h => nomatch h) dX7_earlyIn_89
      · have hf := ifn hc hf
        refine lv_aload_n hx hb dX7_earlyIn_10 rfl (lv_at hl 0 rfl) ?_
        refine va_get (D := D) (ci := 7) (v := .ref k1) (C := RX7) (T := TX7) (N := 14) hx hb hts hiX7 hown hK.1 hP 0 rfl rfl 0 (by decide) hfl_7 (fun _ h9 => h9) rfl dX7_earlyIn_11 ?_
        refine lv_bipush (v := (nI 23)) hx hb dX7_earlyIn_14 bp_23 ?_
        refine lv_iload_n hx hb dX7_earlyIn_16 rfl (lv_at hl 1 rfl) ?_
        refine lv_iadd hx hb dX7_earlyIn_17 ?_
        obtain ⟨hi, hf⟩ := gd_some hf
        refine va_iald hx hb hK.1 hP 1 0 rfl rfl hi dX7_earlyIn_18 ?_
        refine lv_iload_n hx hb dX7_earlyIn_19 rfl (lv_at hl 3 rfl) ?_
        obtain ⟨rv1, hrv1, hf⟩ := bd hf
        refine roI (va_runS (As := [.int (k_ro ((nI 23) + x1).toNatClampNeg), .int x3]) (rest := []) ⟨hx, hb, hml, hown, hts⟩ (c_X7_has l D cI cZ cM (k_ro ((nI 23) + x1).toNatClampNeg) x3 rv1 hrv1) (va_cwS 2 hts gX7_earlyIn_X7_has rfl rfl rfl hdc_X7_has ⟨Nat.le_of_ble_eq_true rfl, Nat.le_of_ble_eq_true rfl⟩) (prS hK hP [] rfl) rfl rfl hl.1 rfl (lv_room (Nat.le_of_ble_eq_true rfl)) dX7_earlyIn_20 ⟨Nat.zero_le _, Nat.zero_le _⟩) ?_
        refine lv_if_eq (tgt := 64) hx hb dX7_earlyIn_23 (by decide) (fun hc => ?_) (fun hc => ?_)
        · have hf := ifp hc hf
          refine lv_iconst (v := (nI 0)) hx hb dX7_earlyIn_64 ic_0 ?_
          exact hB_65 x2 x3 (nI 0) _ ih hf  ls hl
        · have hf := ifn hc hf
          refine lv_aload_n hx hb dX7_earlyIn_26 rfl (lv_at hl 0 rfl) ?_
          refine va_get (D := D) (ci := 7) (v := .ref k1) (C := RX7) (T := TX7) (N := 14) hx hb hts hiX7 hown hK.1 hP 0 rfl rfl 0 (by decide) hfl_7 (fun _ h9 => h9) rfl dX7_earlyIn_27 ?_
          refine lv_bipush (v := (nI 11)) hx hb dX7_earlyIn_30 bp_11 ?_
          refine lv_iload_n hx hb dX7_earlyIn_32 rfl (lv_at hl 3 rfl) ?_
          refine lv_iadd hx hb dX7_earlyIn_33 ?_
          obtain ⟨hi, hf⟩ := gd_some hf
          refine va_iald hx hb hK.1 hP 1 0 rfl rfl hi dX7_earlyIn_34 ?_
          refine lv_iconst (v := (-1 : Int32)) hx hb dX7_earlyIn_35 ic_m1 ?_
          refine lv_icmp_eq (tgt := 64) hx hb dX7_earlyIn_36 (by decide) (fun hc => ?_) (fun hc => ?_)
          · have hf := ifp hc hf
            refine lv_iconst (v := (nI 0)) hx hb dX7_earlyIn_64 ic_0 ?_
            exact hB_65 x2 x3 (nI 0) _ ih hf  ls hl
          · have hf := ifn hc hf
            refine lv_aload_n hx hb dX7_earlyIn_39 rfl (lv_at hl 0 rfl) ?_
            refine lv_aload_n hx hb dX7_earlyIn_40 rfl (lv_at hl 0 rfl) ?_
            refine va_get (D := D) (ci := 7) (v := .ref k1) (C := RX7) (T := TX7) (N := 14) hx hb hts hiX7 hown hK.1 hP 0 rfl rfl 0 (by decide) hfl_7 (fun _ h9 => h9) rfl dX7_earlyIn_41 ?_
            refine lv_bipush (v := (nI 11)) hx hb dX7_earlyIn_44 bp_11 ?_
            refine lv_iload_n hx hb dX7_earlyIn_46 rfl (lv_at hl 3 rfl) ?_
            refine lv_iadd hx hb dX7_earlyIn_47 ?_
            obtain ⟨hi, hf⟩ := gd_some hf
            refine va_iald hx hb hK.1 hP 1 0 rfl rfl hi dX7_earlyIn_48 ?_
            obtain ⟨rv2, hrv2, hf⟩ := bd hf
            refine roI (va_runV (As := [.int (k_ro ((nI 11) + x3).toNatClampNeg)]) (rest := []) ⟨hx, hb, hml, hown, hts⟩ (c_X7_placeOf l D cI cZ cM k0 k1 k2 k3 k4 k5 k6 k7 k_un k_len k_fi k_be k_to k_cl k_do k_ro k_ke k_te k_nu k_na k_no k_tu (k_ro ((nI 11) + x3).toNatClampNeg) fu rv2 hrv2) (cwV 1 hts gX7_earlyIn_X7_placeOf rfl rfl rfl ⟨rfl, hdc_X7_placeOf⟩ ⟨Nat.le_of_ble_eq_true rfl, Nat.le_of_ble_eq_true rfl⟩) (prV hK hP [0, 1, 2, 3, 4, 5, 6, 7] rfl (ci := 7) (q0 := 0) rfl rfl) rfl rfl hl.1 rfl (lv_room (Nat.le_of_ble_eq_true rfl)) dX7_earlyIn_49 ⟨Nat.zero_le _, Nat.zero_le _⟩) ?_
            refine lv_aload_n hx hb dX7_earlyIn_52 rfl (lv_at hl 0 rfl) ?_
            refine lv_iload_n hx hb dX7_earlyIn_53 rfl (lv_at hl 1 rfl) ?_
            obtain ⟨rv3, hrv3, hf⟩ := bd hf
            refine roI (va_runV (As := [.int x1]) (rest := [.int rv2]) ⟨hx, hb, hml, hown, hts⟩ (c_X7_placeOf l D cI cZ cM k0 k1 k2 k3 k4 k5 k6 k7 k_un k_len k_fi k_be k_to k_cl k_do k_ro k_ke k_te k_nu k_na k_no k_tu x1 fu rv3 hrv3) (cwV 1 hts gX7_earlyIn_X7_placeOf rfl rfl rfl ⟨rfl, hdc_X7_placeOf⟩ ⟨Nat.le_of_ble_eq_true rfl, Nat.le_of_ble_eq_true rfl⟩) (prV hK hP [0, 1, 2, 3, 4, 5, 6, 7] rfl (ci := 7) (q0 := 0) rfl rfl) rfl rfl hl.1 rfl (lv_room (Nat.le_of_ble_eq_true rfl)) dX7_earlyIn_54 ⟨Nat.zero_le _, Nat.zero_le _⟩) ?_
            refine lv_icmp_le (tgt := 64) hx hb dX7_earlyIn_57 (by decide) (fun hc => ?_) (fun hc => ?_)
            · have hf := ifp hc hf
              refine lv_iconst (v := (nI 0)) hx hb dX7_earlyIn_64 ic_0 ?_
              exact hB_65 x2 x3 (nI 0) _ ih hf  ls hl
            · have hf := ifn hc hf
              refine lv_iconst (v := (nI 1)) hx hb dX7_earlyIn_60 ic_1 ?_
              refine lv_goto (tgt := 65) hx hb dX7_earlyIn_61 (by decide) ?_
              exact hB_65 x2 x3 (nI 1) _ ih hf  ls hl
  have hl := lv_entry ([.ref k0, .int x1]) (n := 5) (Nat.le_of_ble_eq_true rfl)
  rw [lg_entry_eq]
  generalize (lg_sl ([.ref k0, .int x1]) ++ List.replicate (5 - (lg_sl ([.ref k0, .int x1])).length) Slot.unset).toArray = ls at hl ⊢
  have hl : lv_has ls 5 [(0, .ref k0), (1, .int x1)] := hl
  unfold m_X7_earlyIn at hf
  refine lv_iconst (v := (nI 0)) hx hb dX7_earlyIn_0 ic_0 ?_
  refine lv_istore_n (lv' := [(2, .int (nI 0)), (0, .ref k0), (1, .int x1)]) hx hb dX7_earlyIn_1 rfl hl (by decide) rfl (fun ls hl => ?_)
  refine lv_iconst (v := (nI 0)) hx hb dX7_earlyIn_2 ic_0 ?_
  refine lv_istore_n (lv' := [(3, .int (nI 0)), (2, .int (nI 0)), (0, .ref k0), (1, .int x1)]) hx hb dX7_earlyIn_3 rfl hl (by decide) rfl (fun ls hl => ?_)
  exact hB_4 fu (nI 0) (nI 0) hf  ls (lv_sub hl [2, 3, 1, 0] rfl)
theorem hdc_X7_noteOf : yX7_noteOf.cls ≠ "java/lang/invoke/MethodHandle" ∧ yX7_noteOf.cls ≠ "java/lang/invoke/VarHandle" ∧ (parseMethodDescriptor yX7_noteOf.desc).map (fun d => d.parameters.length) = some 1 := by decide +kernel
set_option maxHeartbeats 4000000 in
set_option maxRecDepth 100000 in
theorem c_X7_noteOf (l : Launch) (D : va_G) (cI cZ cM : ClassId) (k0 k1 k2 k3 k4 k5 k6 k7 : Nat) (k_un : Int32) (k_len : Int32) (k_fi : Int32) (k_be : Int32) (k_to : Int32) (k_cl : Int32) (k_do : Int32) (k_ro : Nat → Int32) (k_ke : Nat → Int32) (k_te : Nat → Int32) (k_nu : Nat → Int32) (k_na : Nat → Int32) (k_no : Nat → Int32) (k_tu : Nat → Int32) (x1 : Int32) (fu : Nat) (r : Int32) (hf : m_X7_noteOf fu k_ro x1 = some r) : Met l yX7_noteOf wsX7_noteOf ({ frames := 2, cells := 0, slots := 0, locals := 46 }) (pR D cI cZ cM [(k0, .inr (7, [.ref k1, .int k_un, .ref k2, .ref k3, .int k_len, .int k_fi, .int k_be, .int k_to, .int k_cl, .int k_do, .ref k4, .ref k5, .ref k6, .ref k7])), (k1, .inl (cI, 583, .inl k_ro)), (k2, .inl (cZ, 2, .inl k_ke)), (k3, .inl (cI, 200, .inl k_te)), (k4, .inl (cI, 10, .inl k_nu)), (k5, .inl (cI, 48, .inl k_na)), (k6, .inl (cI, 1024, .inl k_no)), (k7, .inl (cI, 1024, .inl k_tu))] [.ref k0, .int x1]) (qR r) 0 0 (fun _ => False) := by
  refine Met.ofW (cc := cX7_noteOf) (maxL := 3) (ret := (some .int)) (by decide) rfl ?_
  intro p e s m args below meth c s₁ B hml hv
  obtain ⟨rfl, hP, hK⟩ := hv
  have hx := B.exec
  have hb := B.bytes
  have hr := B.returns
  have hts := atoms_spec (ws := wsX7_noteOf) B.pre
  have hown : s.vm.findClass RX7 = some m.cls := findClass_of_methodNamed B.named
  have hlocks := B.notSynchronized
  have hfl_7 := hts (.fieldLink RX7 7 "TermsFirstModel" "rows" "[I") (List.mem_cons_of_mem _ (List.mem_append_left _ (List.mem_of_getElem? (i := 0) rfl)))
  have hiX7 : ∀ w ∈ u_ws RX7 TX7 14, w ∈ wsX7_noteOf := fun _ h => (List.mem_cons_of_mem _ (List.mem_append_right _ h))
  have hB_2 : ∀ (fn : Nat) (x2 : Int32), m_X7_noteOf_2 fu k_ro x1 fn x2 = some r → ∀ ls : Array Slot, lv_has ls 3 [(0, .ref k0), (1, .int x1), (2, .int x2)] → W p l e (headSpec wsX7_noteOf { frames := 2, cells := 0, slots := 0, locals := 46 }).room s m ([.ref k0, .int x1] : List Value).toArray below meth c s.heap [] 0 0 (MQ below (qR r) ([.ref k0, .int x1] : List Value).toArray s 0 0 (fun _ => False)) (F0 m 2 ls []) := by
    intro fn
    induction fn with
    | zero => intro x2 hf; rw [m_X7_noteOf_2] at hf; cases hf
    | succ fn ih =>
      intro x2 hf ls hl
      rw [m_X7_noteOf_2] at hf
      refine lv_iload_n hx hb dX7_noteOf_2 rfl (lv_at hl 2 rfl) ?_
      refine lv_aload_n hx hb dX7_noteOf_3 rfl (lv_at hl 0 rfl) ?_
      refine va_get (D := D) (ci := 7) (v := .ref k1) (C := RX7) (T := TX7) (N := 14) hx hb hts hiX7 hown hK.1 hP 0 rfl rfl 0 (by decide) hfl_7 (fun _ h9 => h9) rfl dX7_noteOf_4 ?_
      refine lv_iconst (v := (nI 0)) hx hb dX7_noteOf_7 ic_0 ?_
      obtain ⟨hi, hf⟩ := gd_some hf
      refine va_iald hx hb hK.1 hP 1 0 rfl rfl hi dX7_noteOf_8 ?_
      refine lv_icmp_ge (tgt := 48) hx hb dX7_noteOf_9 (by decide) (fun hc => ?_) (fun hc => ?_)
      · have hf := ifp hc hf
        refine lv_iconst (v := (-1 : Int32)) hx hb dX7_noteOf_48 ic_m1 ?_
        cases hf
        exact W.iret hx hb hr (fun t ht _ => ⟨rfl, ht⟩) (fun _ h => nomatch h) dX7_noteOf_49
      · have hf := ifn hc hf
        refine lv_aload_n hx hb dX7_noteOf_12 rfl (lv_at hl 0 rfl) ?_
        refine lv_aload_n hx hb dX7_noteOf_13 rfl (lv_at hl 0 rfl) ?_
        refine va_get (D := D) (ci := 7) (v := .ref k1) (C := RX7) (T := TX7) (N := 14) hx hb hts hiX7 hown hK.1 hP 0 rfl rfl 0 (by decide) hfl_7 (fun _ h9 => h9) rfl dX7_noteOf_14 ?_
        refine lv_bipush (v := (nI 33)) hx hb dX7_noteOf_17 bp_33 ?_
        refine lv_iload_n hx hb dX7_noteOf_19 rfl (lv_at hl 2 rfl) ?_
        refine lv_iadd hx hb dX7_noteOf_20 ?_
        obtain ⟨hi, hf⟩ := gd_some hf
        refine va_iald hx hb hK.1 hP 1 0 rfl rfl hi dX7_noteOf_21 ?_
        obtain ⟨rv1, hrv1, hf⟩ := bd hf
        refine roI (va_runV (As := [.int (k_ro ((nI 33) + x2).toNatClampNeg)]) (rest := []) ⟨hx, hb, hml, hown, hts⟩ (c_X7_earlyIn l D cI cZ cM k0 k1 k2 k3 k4 k5 k6 k7 k_un k_len k_fi k_be k_to k_cl k_do k_ro k_ke k_te k_nu k_na k_no k_tu (k_ro ((nI 33) + x2).toNatClampNeg) fu rv1 hrv1) (cwV 1 hts gX7_noteOf_X7_earlyIn rfl rfl rfl ⟨rfl, hdc_X7_earlyIn⟩ ⟨Nat.le_of_ble_eq_true rfl, Nat.le_of_ble_eq_true rfl⟩) (prV hK hP [0, 1, 2, 3, 4, 5, 6, 7] rfl (ci := 7) (q0 := 0) rfl rfl) rfl rfl hl.1 rfl (lv_room (Nat.le_of_ble_eq_true rfl)) dX7_noteOf_22 ⟨Nat.zero_le _, Nat.zero_le _⟩) ?_
        refine lv_iload_n hx hb dX7_noteOf_25 rfl (lv_at hl 1 rfl) ?_
        obtain ⟨rv2, hrv2, hf⟩ := bd hf
        refine roI (va_runS (As := [.int rv1, .int x1]) (rest := []) ⟨hx, hb, hml, hown, hts⟩ (c_X7_has l D cI cZ cM rv1 x1 rv2 hrv2) (va_cwS 2 hts gX7_noteOf_X7_has rfl rfl rfl hdc_X7_has ⟨Nat.le_of_ble_eq_true rfl, Nat.le_of_ble_eq_true rfl⟩) (prS hK hP [] rfl) rfl rfl hl.1 rfl (lv_room (Nat.le_of_ble_eq_true rfl)) dX7_noteOf_26 ⟨Nat.zero_le _, Nat.zero_le _⟩) ?_
        refine lv_if_eq (tgt := 42) hx hb dX7_noteOf_29 (by decide) (fun hc => ?_) (fun hc => ?_)
        · have hf := ifp hc hf
          refine lv_iinc (v := (x2 + (nI 1))) (lv' := [(2, .int (x2 + (nI 1))), (0, .ref k0), (1, .int x1)]) hx hb dX7_noteOf_42 hl (k := 2) rfl (ii_1 _) (by decide) rfl (fun ls hl => ?_)
          refine lv_goto (tgt := 2) hx hb dX7_noteOf_45 (by decide) ?_
          exact ih (x2 + (nI 1)) hf  ls (lv_sub hl [1, 2, 0] rfl)
        · have hf := ifn hc hf
          refine lv_aload_n hx hb dX7_noteOf_32 rfl (lv_at hl 0 rfl) ?_
          refine va_get (D := D) (ci := 7) (v := .ref k1) (C := RX7) (T := TX7) (N := 14) hx hb hts hiX7 hown hK.1 hP 0 rfl rfl 0 (by decide) hfl_7 (fun _ h9 => h9) rfl dX7_noteOf_33 ?_
          refine lv_bipush (v := (nI 33)) hx hb dX7_noteOf_36 bp_33 ?_
          refine lv_iload_n hx hb dX7_noteOf_38 rfl (lv_at hl 2 rfl) ?_
          refine lv_iadd hx hb dX7_noteOf_39 ?_
          obtain ⟨hi, hf⟩ := gd_some hf
          refine va_iald hx hb hK.1 hP 1 0 rfl rfl hi dX7_noteOf_40 ?_
          cases hf
          exact W.iret hx hb hr (fun t ht _ => ⟨rfl, ht⟩) (fun _ h => nomatch h) dX7_noteOf_41
  have hl := lv_entry ([.ref k0, .int x1]) (n := 3) (Nat.le_of_ble_eq_true rfl)
  rw [lg_entry_eq]
  generalize (lg_sl ([.ref k0, .int x1]) ++ List.replicate (3 - (lg_sl ([.ref k0, .int x1])).length) Slot.unset).toArray = ls at hl ⊢
  have hl : lv_has ls 3 [(0, .ref k0), (1, .int x1)] := hl
  unfold m_X7_noteOf at hf
  refine lv_iconst (v := (nI 0)) hx hb dX7_noteOf_0 ic_0 ?_
  refine lv_istore_n (lv' := [(2, .int (nI 0)), (0, .ref k0), (1, .int x1)]) hx hb dX7_noteOf_1 rfl hl (by decide) rfl (fun ls hl => ?_)
  exact hB_2 fu (nI 0) hf  ls (lv_sub hl [1, 2, 0] rfl)
theorem hdc_X7_notesMany : yX7_notesMany.cls ≠ "java/lang/invoke/MethodHandle" ∧ yX7_notesMany.cls ≠ "java/lang/invoke/VarHandle" ∧ (parseMethodDescriptor yX7_notesMany.desc).map (fun d => d.parameters.length) = some 0 := by decide +kernel
set_option maxHeartbeats 4000000 in
set_option maxRecDepth 100000 in
theorem c_X7_notesMany (l : Launch) (D : va_G) (cI cZ cM : ClassId) (k0 k1 k2 k3 k4 k5 k6 k7 : Nat) (k_un : Int32) (k_len : Int32) (k_fi : Int32) (k_be : Int32) (k_to : Int32) (k_cl : Int32) (k_do : Int32) (k_ro : Nat → Int32) (k_ke : Nat → Int32) (k_te : Nat → Int32) (k_nu : Nat → Int32) (k_na : Nat → Int32) (k_no : Nat → Int32) (k_tu : Nat → Int32) (fu : Nat) (r : Int32) (hf : m_X7_notesMany fu k_ro = some r) : Met l yX7_notesMany wsX7_notesMany ({ frames := 3, cells := 0, slots := 0, locals := 68 }) (pR D cI cZ cM [(k0, .inr (7, [.ref k1, .int k_un, .ref k2, .ref k3, .int k_len, .int k_fi, .int k_be, .int k_to, .int k_cl, .int k_do, .ref k4, .ref k5, .ref k6, .ref k7])), (k1, .inl (cI, 583, .inl k_ro)), (k2, .inl (cZ, 2, .inl k_ke)), (k3, .inl (cI, 200, .inl k_te)), (k4, .inl (cI, 10, .inl k_nu)), (k5, .inl (cI, 48, .inl k_na)), (k6, .inl (cI, 1024, .inl k_no)), (k7, .inl (cI, 1024, .inl k_tu))] [.ref k0]) (qR r) 0 0 (fun _ => False) := by
  refine Met.ofW (cc := cX7_notesMany) (maxL := 3) (ret := (some .int)) (by decide) rfl ?_
  intro p e s m args below meth c s₁ B hml hv
  obtain ⟨rfl, hP, hK⟩ := hv
  have hx := B.exec
  have hb := B.bytes
  have hr := B.returns
  have hts := atoms_spec (ws := wsX7_notesMany) B.pre
  have hown : s.vm.findClass RX7 = some m.cls := findClass_of_methodNamed B.named
  have hlocks := B.notSynchronized
  have hB_4 : ∀ (fn : Nat) (x1 : Int32) (x2 : Int32), m_X7_notesMany_4 fu k_ro fn x1 x2 = some r → ∀ ls : Array Slot, lv_has ls 3 [(0, .ref k0), (1, .int x1), (2, .int x2)] → W p l e (headSpec wsX7_notesMany { frames := 3, cells := 0, slots := 0, locals := 68 }).room s m ([.ref k0] : List Value).toArray below meth c s.heap [] 0 0 (MQ below (qR r) ([.ref k0] : List Value).toArray s 0 0 (fun _ => False)) (F0 m 4 ls []) := by
    intro fn
    induction fn with
    | zero => intro x1 x2 hf; rw [m_X7_notesMany_4] at hf; cases hf
    | succ fn ih =>
      intro x1 x2 hf ls hl
      rw [m_X7_notesMany_4] at hf
      refine lv_iload_n hx hb dX7_notesMany_4 rfl (lv_at hl 2 rfl) ?_
      refine lv_bipush (v := (nI 12)) hx hb dX7_notesMany_5 bp_12 ?_
      refine lv_icmp_ge (tgt := 33) hx hb dX7_notesMany_7 (by decide) (fun hc => ?_) (fun hc => ?_)
      · have hf := ifp hc hf
        refine lv_iload_n hx hb dX7_notesMany_33 rfl (lv_at hl 1 rfl) ?_
        cases hf
        exact W.iret hx hb hr (fun t ht _ => ⟨rfl, ht⟩) (fun _ h => nomatch h) dX7_notesMany_34
      · have hf := ifn hc hf
        refine lv_iload_n hx hb dX7_notesMany_10 rfl (lv_at hl 1 rfl) ?_
        refine lv_aload_n hx hb dX7_notesMany_11 rfl (lv_at hl 0 rfl) ?_
        refine lv_iload_n hx hb dX7_notesMany_12 rfl (lv_at hl 2 rfl) ?_
        obtain ⟨rv1, hrv1, hf⟩ := bd hf
        refine roI (va_runV (As := [.int x2]) (rest := [.int x1]) ⟨hx, hb, hml, hown, hts⟩ (c_X7_noteOf l D cI cZ cM k0 k1 k2 k3 k4 k5 k6 k7 k_un k_len k_fi k_be k_to k_cl k_do k_ro k_ke k_te k_nu k_na k_no k_tu x2 fu rv1 hrv1) (cwV 1 hts gX7_notesMany_X7_noteOf rfl rfl rfl ⟨rfl, hdc_X7_noteOf⟩ ⟨Nat.le_of_ble_eq_true rfl, Nat.le_of_ble_eq_true rfl⟩) (prV hK hP [0, 1, 2, 3, 4, 5, 6, 7] rfl (ci := 7) (q0 := 0) rfl rfl) rfl rfl hl.1 rfl (lv_room (Nat.le_of_ble_eq_true rfl)) dX7_notesMany_13 ⟨Nat.zero_le _, Nat.zero_le _⟩) ?_
        refine lv_iconst (v := (-1 : Int32)) hx hb dX7_notesMany_16 ic_m1 ?_
        refine lv_icmp_eq (tgt := 24) hx hb dX7_notesMany_17 (by decide) (fun hc => ?_) (fun hc => ?_)
        · have hf := ifp hc hf
          refine lv_iconst (v := (nI 0)) hx hb dX7_notesMany_24 ic_0 ?_
          refine lv_iadd hx hb dX7_notesMany_25 ?_
          refine lv_istore_n (lv' := [(1, .int (x1 + (nI 0))), (0, .ref k0), (2, .int x2)]) hx hb dX7_notesMany_26 rfl hl (by decide) rfl (fun ls hl => ?_)
          refine lv_iinc (v := (x2 + (nI 1))) (lv' := [(2, .int (x2 + (nI 1))), (1, .int (x1 + (nI 0))), (0, .ref k0)]) hx hb dX7_notesMany_27 hl (k := 2) rfl (ii_1 _) (by decide) rfl (fun ls hl => ?_)
          refine lv_goto (tgt := 4) hx hb dX7_notesMany_30 (by decide) ?_
          exact ih (x1 + (nI 0)) (x2 + (nI 1)) hf  ls (lv_sub hl [2, 1, 0] rfl)
        · have hf := ifn hc hf
          refine lv_iconst (v := (nI 1)) hx hb dX7_notesMany_20 ic_1 ?_
          refine lv_goto (tgt := 25) hx hb dX7_notesMany_21 (by decide) ?_
          refine lv_iadd hx hb dX7_notesMany_25 ?_
          refine lv_istore_n (lv' := [(1, .int (x1 + (nI 1))), (0, .ref k0), (2, .int x2)]) hx hb dX7_notesMany_26 rfl hl (by decide) rfl (fun ls hl => ?_)
          refine lv_iinc (v := (x2 + (nI 1))) (lv' := [(2, .int (x2 + (nI 1))), (1, .int (x1 + (nI 1))), (0, .ref k0)]) hx hb dX7_notesMany_27 hl (k := 2) rfl (ii_1 _) (by decide) rfl (fun ls hl => ?_)
          refine lv_goto (tgt := 4) hx hb dX7_notesMany_30 (by decide) ?_
          exact ih (x1 + (nI 1)) (x2 + (nI 1)) hf  ls (lv_sub hl [2, 1, 0] rfl)
  have hl := lv_entry ([.ref k0]) (n := 3) (Nat.le_of_ble_eq_true rfl)
  rw [lg_entry_eq]
  generalize (lg_sl ([.ref k0]) ++ List.replicate (3 - (lg_sl ([.ref k0])).length) Slot.unset).toArray = ls at hl ⊢
  have hl : lv_has ls 3 [(0, .ref k0)] := hl
  unfold m_X7_notesMany at hf
  refine lv_iconst (v := (nI 0)) hx hb dX7_notesMany_0 ic_0 ?_
  refine lv_istore_n (lv' := [(1, .int (nI 0)), (0, .ref k0)]) hx hb dX7_notesMany_1 rfl hl (by decide) rfl (fun ls hl => ?_)
  refine lv_iconst (v := (nI 0)) hx hb dX7_notesMany_2 ic_0 ?_
  refine lv_istore_n (lv' := [(2, .int (nI 0)), (1, .int (nI 0)), (0, .ref k0)]) hx hb dX7_notesMany_3 rfl hl (by decide) rfl (fun ls hl => ?_)
  exact hB_4 fu (nI 0) (nI 0) hf  ls (lv_sub hl [2, 1, 0] rfl)
theorem hdc_X7_lasts : yX7_lasts.cls ≠ "java/lang/invoke/MethodHandle" ∧ yX7_lasts.cls ≠ "java/lang/invoke/VarHandle" ∧ (parseMethodDescriptor yX7_lasts.desc).map (fun d => d.parameters.length) = some 1 := by decide +kernel
set_option maxHeartbeats 4000000 in
set_option maxRecDepth 100000 in
theorem c_X7_lasts (l : Launch) (D : va_G) (cI cZ cM : ClassId) (k0 k1 k2 k3 k4 k5 k6 k7 : Nat) (k_un : Int32) (k_len : Int32) (k_fi : Int32) (k_be : Int32) (k_to : Int32) (k_cl : Int32) (k_do : Int32) (k_ro : Nat → Int32) (k_ke : Nat → Int32) (k_te : Nat → Int32) (k_nu : Nat → Int32) (k_na : Nat → Int32) (k_no : Nat → Int32) (k_tu : Nat → Int32) (x1 : Int32) (fu : Nat) (r : Int32) (hf : m_X7_lasts fu k_ro x1 = some r) : Met l yX7_lasts wsX7_lasts ({ frames := 3, cells := 0, slots := 0, locals := 68 }) (pR D cI cZ cM [(k0, .inr (7, [.ref k1, .int k_un, .ref k2, .ref k3, .int k_len, .int k_fi, .int k_be, .int k_to, .int k_cl, .int k_do, .ref k4, .ref k5, .ref k6, .ref k7])), (k1, .inl (cI, 583, .inl k_ro)), (k2, .inl (cZ, 2, .inl k_ke)), (k3, .inl (cI, 200, .inl k_te)), (k4, .inl (cI, 10, .inl k_nu)), (k5, .inl (cI, 48, .inl k_na)), (k6, .inl (cI, 1024, .inl k_no)), (k7, .inl (cI, 1024, .inl k_tu))] [.ref k0, .int x1]) (qR r) 0 0 (fun _ => False) := by
  refine Met.ofW (cc := cX7_lasts) (maxL := 5) (ret := (some .int)) (by decide) rfl ?_
  intro p e s m args below meth c s₁ B hml hv
  obtain ⟨rfl, hP, hK⟩ := hv
  have hx := B.exec
  have hb := B.bytes
  have hr := B.returns
  have hts := atoms_spec (ws := wsX7_lasts) B.pre
  have hown : s.vm.findClass RX7 = some m.cls := findClass_of_methodNamed B.named
  have hlocks := B.notSynchronized
  have hfl_7 := hts (.fieldLink RX7 7 "TermsFirstModel" "rows" "[I") (List.mem_cons_of_mem _ (List.mem_append_left _ (List.mem_of_getElem? (i := 0) rfl)))
  have hiX7 : ∀ w ∈ u_ws RX7 TX7 14, w ∈ wsX7_lasts := fun _ h => (List.mem_cons_of_mem _ (List.mem_append_right _ h))
  have hB_29 : ∀ (fn : Nat) (x3 : Int32) (x4 : Int32), m_X7_lasts_29 k_ro x1 fn x3 x4 = some r → ∀ ls : Array Slot, lv_has ls 5 [(0, .ref k0), (1, .int x1), (3, .int x3), (4, .int x4)] → W p l e (headSpec wsX7_lasts { frames := 3, cells := 0, slots := 0, locals := 68 }).room s m ([.ref k0, .int x1] : List Value).toArray below meth c s.heap [] 0 0 (MQ below (qR r) ([.ref k0, .int x1] : List Value).toArray s 0 0 (fun _ => False)) (F0 m 29 ls []) := by
    intro fn
    induction fn with
    | zero => intro x3 x4 hf; rw [m_X7_lasts_29] at hf; cases hf
    | succ fn ih =>
      intro x3 x4 hf ls hl
      rw [m_X7_lasts_29] at hf
      refine lv_iload hx hb dX7_lasts_29 (lv_at hl 3 rfl) ?_
      refine lv_aload_n hx hb dX7_lasts_31 rfl (lv_at hl 0 rfl) ?_
      refine va_get (D := D) (ci := 7) (v := .ref k1) (C := RX7) (T := TX7) (N := 14) hx hb hts hiX7 hown hK.1 hP 0 rfl rfl 0 (by decide) hfl_7 (fun _ h9 => h9) rfl dX7_lasts_32 ?_
      refine lv_iconst (v := (nI 0)) hx hb dX7_lasts_35 ic_0 ?_
      obtain ⟨hi, hf⟩ := gd_some hf
      refine va_iald hx hb hK.1 hP 1 0 rfl rfl hi dX7_lasts_36 ?_
      refine lv_icmp_ge (tgt := 88) hx hb dX7_lasts_37 (by decide) (fun hc => ?_) (fun hc => ?_)
      · have hf := ifp hc hf
        refine lv_iload_n hx hb dX7_lasts_88 rfl (lv_at hl 2 rfl) ?_
        cases hf
        exact W.iret hx hb hr (fun t ht _ => ⟨rfl, ht⟩) (fun _ h => nomatch h) dX7_lasts_89
      · have hf := ifn hc hf
        refine lv_aload_n hx hb dX7_lasts_40 rfl (lv_at hl 0 rfl) ?_
        refine va_get (D := D) (ci := 7) (v := .ref k1) (C := RX7) (T := TX7) (N := 14) hx hb hts hiX7 hown hK.1 hP 0 rfl rfl 0 (by decide) hfl_7 (fun _ h9 => h9) rfl dX7_lasts_41 ?_
        refine lv_bipush (v := (nI 33)) hx hb dX7_lasts_44 bp_33 ?_
        refine lv_iload hx hb dX7_lasts_46 (lv_at hl 3 rfl) ?_
        refine lv_iadd hx hb dX7_lasts_48 ?_
        obtain ⟨hi, hf⟩ := gd_some hf
        refine va_iald hx hb hK.1 hP 1 0 rfl rfl hi dX7_lasts_49 ?_
        refine lv_aload_n hx hb dX7_lasts_50 rfl (lv_at hl 0 rfl) ?_
        refine va_get (D := D) (ci := 7) (v := .ref k1) (C := RX7) (T := TX7) (N := 14) hx hb hts hiX7 hown hK.1 hP 0 rfl rfl 0 (by decide) hfl_7 (fun _ h9 => h9) rfl dX7_lasts_51 ?_
        refine lv_bipush (v := (nI 11)) hx hb dX7_lasts_54 bp_11 ?_
        refine lv_iload_n hx hb dX7_lasts_56 rfl (lv_at hl 1 rfl) ?_
        refine lv_iadd hx hb dX7_lasts_57 ?_
        obtain ⟨hi, hf⟩ := gd_some hf
        refine va_iald hx hb hK.1 hP 1 0 rfl rfl hi dX7_lasts_58 ?_
        refine lv_icmp_eq (tgt := 88) hx hb dX7_lasts_59 (by decide) (fun hc => ?_) (fun hc => ?_)
        · have hf := ifp hc hf
          refine lv_iload_n hx hb dX7_lasts_88 rfl (lv_at hl 2 rfl) ?_
          cases hf
          exact W.iret hx hb hr (fun t ht _ => ⟨rfl, ht⟩) (fun _ h => nomatch h) dX7_lasts_89
        · have hf := ifn hc hf
          refine lv_iload_n hx hb dX7_lasts_62 rfl (lv_at hl 2 rfl) ?_
          refine lv_aload_n hx hb dX7_lasts_63 rfl (lv_at hl 0 rfl) ?_
          refine va_get (D := D) (ci := 7) (v := .ref k1) (C := RX7) (T := TX7) (N := 14) hx hb hts hiX7 hown hK.1 hP 0 rfl rfl 0 (by decide) hfl_7 (fun _ h9 => h9) rfl dX7_lasts_64 ?_
          refine lv_iconst (v := (nI 1)) hx hb dX7_lasts_67 ic_1 ?_
          refine lv_aload_n hx hb dX7_lasts_68 rfl (lv_at hl 0 rfl) ?_
          refine va_get (D := D) (ci := 7) (v := .ref k1) (C := RX7) (T := TX7) (N := 14) hx hb hts hiX7 hown hK.1 hP 0 rfl rfl 0 (by decide) hfl_7 (fun _ h9 => h9) rfl dX7_lasts_69 ?_
          refine lv_bipush (v := (nI 33)) hx hb dX7_lasts_72 bp_33 ?_
          refine lv_iload hx hb dX7_lasts_74 (lv_at hl 3 rfl) ?_
          refine lv_iadd hx hb dX7_lasts_76 ?_
          obtain ⟨hi, hf⟩ := gd_some hf
          refine va_iald hx hb hK.1 hP 1 0 rfl rfl hi dX7_lasts_77 ?_
          refine lv_iadd hx hb dX7_lasts_78 ?_
          obtain ⟨hi, hf⟩ := gd_some hf
          refine va_iald hx hb hK.1 hP 1 0 rfl rfl hi dX7_lasts_79 ?_
          refine lv_iadd hx hb dX7_lasts_80 ?_
          refine lv_istore_n (lv' := [(3, .int (x3 + (k_ro ((nI 1) + (k_ro ((nI 33) + x4).toNatClampNeg)).toNatClampNeg))), (0, .ref k0), (1, .int x1), (4, .int x4)]) hx hb dX7_lasts_81 rfl hl (by decide) rfl (fun ls hl => ?_)
          refine lv_iinc (v := (x4 + (nI 1))) (lv' := [(4, .int (x4 + (nI 1))), (3, .int (x3 + (k_ro ((nI 1) + (k_ro ((nI 33) + x4).toNatClampNeg)).toNatClampNeg))), (0, .ref k0), (1, .int x1)]) hx hb dX7_lasts_82 hl (k := 3) rfl (ii_1 _) (by decide) rfl (fun ls hl => ?_)
          refine lv_goto (tgt := 29) hx hb dX7_lasts_85 (by decide) ?_
          exact ih (x3 + (k_ro ((nI 1) + (k_ro ((nI 33) + x4).toNatClampNeg)).toNatClampNeg)) (x4 + (nI 1)) hf  ls (lv_sub hl [2, 3, 1, 0] rfl)
  have hl := lv_entry ([.ref k0, .int x1]) (n := 5) (Nat.le_of_ble_eq_true rfl)
  rw [lg_entry_eq]
  generalize (lg_sl ([.ref k0, .int x1]) ++ List.replicate (5 - (lg_sl ([.ref k0, .int x1])).length) Slot.unset).toArray = ls at hl ⊢
  have hl : lv_has ls 5 [(0, .ref k0), (1, .int x1)] := hl
  unfold m_X7_lasts at hf
  refine lv_aload_n hx hb dX7_lasts_0 rfl (lv_at hl 0 rfl) ?_
  refine lv_iload_n hx hb dX7_lasts_1 rfl (lv_at hl 1 rfl) ?_
  obtain ⟨rv1, hrv1, hf⟩ := bd hf
  refine roI (va_runV (As := [.int x1]) (rest := []) ⟨hx, hb, hml, hown, hts⟩ (c_X7_noteOf l D cI cZ cM k0 k1 k2 k3 k4 k5 k6 k7 k_un k_len k_fi k_be k_to k_cl k_do k_ro k_ke k_te k_nu k_na k_no k_tu x1 fu rv1 hrv1) (cwV 1 hts gX7_lasts_X7_noteOf rfl rfl rfl ⟨rfl, hdc_X7_noteOf⟩ ⟨Nat.le_of_ble_eq_true rfl, Nat.le_of_ble_eq_true rfl⟩) (prV hK hP [0, 1, 2, 3, 4, 5, 6, 7] rfl (ci := 7) (q0 := 0) rfl rfl) rfl rfl hl.1 rfl (lv_room (Nat.le_of_ble_eq_true rfl)) dX7_lasts_2 ⟨Nat.zero_le _, Nat.zero_le _⟩) ?_
  refine lv_istore_n (lv' := [(2, .int rv1), (0, .ref k0), (1, .int x1)]) hx hb dX7_lasts_5 rfl hl (by decide) rfl (fun ls hl => ?_)
  refine lv_iconst (v := (nI 0)) hx hb dX7_lasts_6 ic_0 ?_
  refine lv_istore_n (lv' := [(3, .int (nI 0)), (2, .int rv1), (0, .ref k0), (1, .int x1)]) hx hb dX7_lasts_7 rfl hl (by decide) rfl (fun ls hl => ?_)
  refine lv_iload_n hx hb dX7_lasts_8 rfl (lv_at hl 1 rfl) ?_
  refine lv_iconst (v := (-1 : Int32)) hx hb dX7_lasts_9 ic_m1 ?_
  refine lv_icmp_ne (tgt := 22) hx hb dX7_lasts_10 (by decide) (fun hc => ?_) (fun hc => ?_)
  · have hf := ifn hc hf
    refine lv_aload_n hx hb dX7_lasts_22 rfl (lv_at hl 2 rfl) ?_
    refine lv_iload_n hx hb dX7_lasts_23 rfl (lv_at hl 1 rfl) ?_
    obtain ⟨rv2, hrv2, hf⟩ := bd hf
    refine roI (va_runV (As := [.int rv1]) (rest := []) ⟨hx, hb, hml, hown, hts⟩ (c_X7_placeOf l D cI cZ cM k0 k1 k2 k3 k4 k5 k6 k7 k_un k_len k_fi k_be k_to k_cl k_do k_ro k_ke k_te k_nu k_na k_no k_tu rv1 fu rv2 hrv2) (cwV 1 hts gX7_lasts_X7_placeOf rfl rfl rfl ⟨rfl, hdc_X7_placeOf⟩ ⟨Nat.le_of_ble_eq_true rfl, Nat.le_of_ble_eq_true rfl⟩) (prV hK hP [0, 1, 2, 3, 4, 5, 6, 7] rfl (ci := 7) (q0 := 0) rfl rfl) rfl rfl hl.1 rfl (lv_room (Nat.le_of_ble_eq_true rfl)) dX7_lasts_24 ⟨Nat.zero_le _, Nat.zero_le _⟩) ?_
    refine lv_istore (lv' := [(4, .int rv2), (3, .int (nI 0)), (2, .int rv1), (0, .ref k0), (1, .int x1)]) hx hb dX7_lasts_27 hl (by decide) rfl (fun ls hl => ?_)
    exact hB_29 fu (nI 0) rv2 hf  ls (lv_sub hl [3, 4, 1, 0] rfl)
  · have hf := ifp hc hf
    refine lv_aload_n hx hb dX7_lasts_13 rfl (lv_at hl 2 rfl) ?_
    refine va_get (D := D) (ci := 7) (v := .ref k1) (C := RX7) (T := TX7) (N := 14) hx hb hts hiX7 hown hK.1 hP 0 rfl rfl 0 (by decide) hfl_7 (fun _ h9 => h9) rfl dX7_lasts_14 ?_
    refine lv_iconst (v := (nI 0)) hx hb dX7_lasts_17 ic_0 ?_
    obtain ⟨hi, hf⟩ := gd_some hf
    refine va_iald hx hb hK.1 hP 1 0 rfl rfl hi dX7_lasts_18 ?_
    refine lv_goto (tgt := 27) hx hb dX7_lasts_19 (by decide) ?_
    refine lv_istore (lv' := [(4, .int (k_ro (nI 0).toNatClampNeg)), (3, .int (nI 0)), (2, .int rv1), (0, .ref k0), (1, .int x1)]) hx hb dX7_lasts_27 hl (by decide) rfl (fun ls hl => ?_)
    exact hB_29 fu (nI 0) (k_ro (nI 0).toNatClampNeg) hf  ls (lv_sub hl [3, 4, 1, 0] rfl)
theorem hdc_X7_lastsAll : yX7_lastsAll.cls ≠ "java/lang/invoke/MethodHandle" ∧ yX7_lastsAll.cls ≠ "java/lang/invoke/VarHandle" ∧ (parseMethodDescriptor yX7_lastsAll.desc).map (fun d => d.parameters.length) = some 0 := by decide +kernel
set_option maxHeartbeats 4000000 in
set_option maxRecDepth 100000 in
theorem c_X7_lastsAll (l : Launch) (D : va_G) (cI cZ cM : ClassId) (k0 k1 k2 k3 k4 k5 k6 k7 : Nat) (k_un : Int32) (k_len : Int32) (k_fi : Int32) (k_be : Int32) (k_to : Int32) (k_cl : Int32) (k_do : Int32) (k_ro : Nat → Int32) (k_ke : Nat → Int32) (k_te : Nat → Int32) (k_nu : Nat → Int32) (k_na : Nat → Int32) (k_no : Nat → Int32) (k_tu : Nat → Int32) (fu : Nat) (r : Int32) (hf : m_X7_lastsAll fu k_ro = some r) : Met l yX7_lastsAll wsX7_lastsAll ({ frames := 4, cells := 0, slots := 0, locals := 92 }) (pR D cI cZ cM [(k0, .inr (7, [.ref k1, .int k_un, .ref k2, .ref k3, .int k_len, .int k_fi, .int k_be, .int k_to, .int k_cl, .int k_do, .ref k4, .ref k5, .ref k6, .ref k7])), (k1, .inl (cI, 583, .inl k_ro)), (k2, .inl (cZ, 2, .inl k_ke)), (k3, .inl (cI, 200, .inl k_te)), (k4, .inl (cI, 10, .inl k_nu)), (k5, .inl (cI, 48, .inl k_na)), (k6, .inl (cI, 1024, .inl k_no)), (k7, .inl (cI, 1024, .inl k_tu))] [.ref k0]) (qR r) 0 0 (fun _ => False) := by
  refine Met.ofW (cc := cX7_lastsAll) (maxL := 3) (ret := (some .int)) (by decide) rfl ?_
  intro p e s m args below meth c s₁ B hml hv
  obtain ⟨rfl, hP, hK⟩ := hv
  have hx := B.exec
  have hb := B.bytes
  have hr := B.returns
  have hts := atoms_spec (ws := wsX7_lastsAll) B.pre
  have hown : s.vm.findClass RX7 = some m.cls := findClass_of_methodNamed B.named
  have hlocks := B.notSynchronized
  have hB_4 : ∀ (fn : Nat) (x1 : Int32) (x2 : Int32), m_X7_lastsAll_4 fu k_ro fn x1 x2 = some r → ∀ ls : Array Slot, lv_has ls 3 [(0, .ref k0), (1, .int x1), (2, .int x2)] → W p l e (headSpec wsX7_lastsAll { frames := 4, cells := 0, slots := 0, locals := 92 }).room s m ([.ref k0] : List Value).toArray below meth c s.heap [] 0 0 (MQ below (qR r) ([.ref k0] : List Value).toArray s 0 0 (fun _ => False)) (F0 m 4 ls []) := by
    intro fn
    induction fn with
    | zero => intro x1 x2 hf; rw [m_X7_lastsAll_4] at hf; cases hf
    | succ fn ih =>
      intro x1 x2 hf ls hl
      rw [m_X7_lastsAll_4] at hf
      refine lv_iload_n hx hb dX7_lastsAll_4 rfl (lv_at hl 2 rfl) ?_
      refine lv_bipush (v := (nI 12)) hx hb dX7_lastsAll_5 bp_12 ?_
      refine lv_icmp_ge (tgt := 24) hx hb dX7_lastsAll_7 (by decide) (fun hc => ?_) (fun hc => ?_)
      · have hf := ifp hc hf
        refine lv_iload_n hx hb dX7_lastsAll_24 rfl (lv_at hl 1 rfl) ?_
        cases hf
        exact W.iret hx hb hr (fun t ht _ => ⟨rfl, ht⟩) (fun _ h => nomatch h) dX7_lastsAll_25
      · have hf := ifn hc hf
        refine lv_iload_n hx hb dX7_lastsAll_10 rfl (lv_at hl 1 rfl) ?_
        refine lv_aload_n hx hb dX7_lastsAll_11 rfl (lv_at hl 0 rfl) ?_
        refine lv_iload_n hx hb dX7_lastsAll_12 rfl (lv_at hl 2 rfl) ?_
        obtain ⟨rv1, hrv1, hf⟩ := bd hf
        refine roI (va_runV (As := [.int x2]) (rest := [.int x1]) ⟨hx, hb, hml, hown, hts⟩ (c_X7_lasts l D cI cZ cM k0 k1 k2 k3 k4 k5 k6 k7 k_un k_len k_fi k_be k_to k_cl k_do k_ro k_ke k_te k_nu k_na k_no k_tu x2 fu rv1 hrv1) (cwV 1 hts gX7_lastsAll_X7_lasts rfl rfl rfl ⟨rfl, hdc_X7_lasts⟩ ⟨Nat.le_of_ble_eq_true rfl, Nat.le_of_ble_eq_true rfl⟩) (prV hK hP [0, 1, 2, 3, 4, 5, 6, 7] rfl (ci := 7) (q0 := 0) rfl rfl) rfl rfl hl.1 rfl (lv_room (Nat.le_of_ble_eq_true rfl)) dX7_lastsAll_13 ⟨Nat.zero_le _, Nat.zero_le _⟩) ?_
        refine lv_iadd hx hb dX7_lastsAll_16 ?_
        refine lv_istore_n (lv' := [(1, .int (x1 + rv1)), (0, .ref k0), (2, .int x2)]) hx hb dX7_lastsAll_17 rfl hl (by decide) rfl (fun ls hl => ?_)
        refine lv_iinc (v := (x2 + (nI 1))) (lv' := [(2, .int (x2 + (nI 1))), (1, .int (x1 + rv1)), (0, .ref k0)]) hx hb dX7_lastsAll_18 hl (k := 2) rfl (ii_1 _) (by decide) rfl (fun ls hl => ?_)
        refine lv_goto (tgt := 4) hx hb dX7_lastsAll_21 (by decide) ?_
        exact ih (x1 + rv1) (x2 + (nI 1)) hf  ls (lv_sub hl [2, 1, 0] rfl)
  have hl := lv_entry ([.ref k0]) (n := 3) (Nat.le_of_ble_eq_true rfl)
  rw [lg_entry_eq]
  generalize (lg_sl ([.ref k0]) ++ List.replicate (3 - (lg_sl ([.ref k0])).length) Slot.unset).toArray = ls at hl ⊢
  have hl : lv_has ls 3 [(0, .ref k0)] := hl
  unfold m_X7_lastsAll at hf
  refine lv_iconst (v := (nI 0)) hx hb dX7_lastsAll_0 ic_0 ?_
  refine lv_istore_n (lv' := [(1, .int (nI 0)), (0, .ref k0)]) hx hb dX7_lastsAll_1 rfl hl (by decide) rfl (fun ls hl => ?_)
  refine lv_iconst (v := (nI 0)) hx hb dX7_lastsAll_2 ic_0 ?_
  refine lv_istore_n (lv' := [(2, .int (nI 0)), (1, .int (nI 0)), (0, .ref k0)]) hx hb dX7_lastsAll_3 rfl hl (by decide) rfl (fun ls hl => ?_)
  exact hB_4 fu (nI 0) (nI 0) hf  ls (lv_sub hl [2, 1, 0] rfl)
theorem hdc_X7_usedBy : yX7_usedBy.cls ≠ "java/lang/invoke/MethodHandle" ∧ yX7_usedBy.cls ≠ "java/lang/invoke/VarHandle" ∧ (parseMethodDescriptor yX7_usedBy.desc).map (fun d => d.parameters.length) = some 1 := by decide +kernel
set_option maxHeartbeats 4000000 in
set_option maxRecDepth 100000 in
theorem c_X7_usedBy (l : Launch) (D : va_G) (cI cZ cM : ClassId) (k0 k1 k2 k3 k4 k5 k6 k7 : Nat) (k_un : Int32) (k_len : Int32) (k_fi : Int32) (k_be : Int32) (k_to : Int32) (k_cl : Int32) (k_do : Int32) (k_ro : Nat → Int32) (k_ke : Nat → Int32) (k_te : Nat → Int32) (k_nu : Nat → Int32) (k_na : Nat → Int32) (k_no : Nat → Int32) (k_tu : Nat → Int32) (x1 : Int32) (fu : Nat) (r : Int32) (hf : m_X7_usedBy fu k_ro x1 = some r) : Met l yX7_usedBy wsX7_usedBy ({ frames := 1, cells := 0, slots := 0, locals := 21 }) (pR D cI cZ cM [(k0, .inr (7, [.ref k1, .int k_un, .ref k2, .ref k3, .int k_len, .int k_fi, .int k_be, .int k_to, .int k_cl, .int k_do, .ref k4, .ref k5, .ref k6, .ref k7])), (k1, .inl (cI, 583, .inl k_ro)), (k2, .inl (cZ, 2, .inl k_ke)), (k3, .inl (cI, 200, .inl k_te)), (k4, .inl (cI, 10, .inl k_nu)), (k5, .inl (cI, 48, .inl k_na)), (k6, .inl (cI, 1024, .inl k_no)), (k7, .inl (cI, 1024, .inl k_tu))] [.ref k0, .int x1]) (qR r) 0 0 (fun _ => False) := by
  refine Met.ofW (cc := cX7_usedBy) (maxL := 4) (ret := (some .int)) (by decide) rfl ?_
  intro p e s m args below meth c s₁ B hml hv
  obtain ⟨rfl, hP, hK⟩ := hv
  have hx := B.exec
  have hb := B.bytes
  have hr := B.returns
  have hts := atoms_spec (ws := wsX7_usedBy) B.pre
  have hown : s.vm.findClass RX7 = some m.cls := findClass_of_methodNamed B.named
  have hlocks := B.notSynchronized
  have hfl_7 := hts (.fieldLink RX7 7 "TermsFirstModel" "rows" "[I") (List.mem_cons_of_mem _ (List.mem_append_left _ (List.mem_of_getElem? (i := 0) rfl)))
  have hiX7 : ∀ w ∈ u_ws RX7 TX7 14, w ∈ wsX7_usedBy := fun _ h => (List.mem_cons_of_mem _ (List.mem_append_right _ h))
  have hB_4 : ∀ (fn : Nat) (x2 : Int32) (x3 : Int32), m_X7_usedBy_4 k_ro x1 fn x2 x3 = some r → ∀ ls : Array Slot, lv_has ls 4 [(0, .ref k0), (1, .int x1), (2, .int x2), (3, .int x3)] → W p l e (headSpec wsX7_usedBy { frames := 1, cells := 0, slots := 0, locals := 21 }).room s m ([.ref k0, .int x1] : List Value).toArray below meth c s.heap [] 0 0 (MQ below (qR r) ([.ref k0, .int x1] : List Value).toArray s 0 0 (fun _ => False)) (F0 m 4 ls []) := by
    intro fn
    induction fn with
    | zero => intro x2 x3 hf; rw [m_X7_usedBy_4] at hf; cases hf
    | succ fn ih =>
      intro x2 x3 hf ls hl
      rw [m_X7_usedBy_4] at hf
      refine lv_iload_n hx hb dX7_usedBy_4 rfl (lv_at hl 3 rfl) ?_
      refine lv_aload_n hx hb dX7_usedBy_5 rfl (lv_at hl 0 rfl) ?_
      refine va_get (D := D) (ci := 7) (v := .ref k1) (C := RX7) (T := TX7) (N := 14) hx hb hts hiX7 hown hK.1 hP 0 rfl rfl 0 (by decide) hfl_7 (fun _ h9 => h9) rfl dX7_usedBy_6 ?_
      refine lv_iconst (v := (nI 0)) hx hb dX7_usedBy_9 ic_0 ?_
      obtain ⟨hi, hf⟩ := gd_some hf
      refine va_iald hx hb hK.1 hP 1 0 rfl rfl hi dX7_usedBy_10 ?_
      refine lv_icmp_ge (tgt := 46) hx hb dX7_usedBy_11 (by decide) (fun hc => ?_) (fun hc => ?_)
      · have hf := ifp hc hf
        refine lv_iload_n hx hb dX7_usedBy_46 rfl (lv_at hl 2 rfl) ?_
        cases hf
        exact W.iret hx hb hr (fun t ht _ => ⟨rfl, ht⟩) (fun _ h => nomatch h) dX7_usedBy_47
      · have hf := ifn hc hf
        refine lv_iload_n hx hb dX7_usedBy_14 rfl (lv_at hl 2 rfl) ?_
        refine lv_aload_n hx hb dX7_usedBy_15 rfl (lv_at hl 0 rfl) ?_
        refine va_get (D := D) (ci := 7) (v := .ref k1) (C := RX7) (T := TX7) (N := 14) hx hb hts hiX7 hown hK.1 hP 0 rfl rfl 0 (by decide) hfl_7 (fun _ h9 => h9) rfl dX7_usedBy_16 ?_
        refine lv_bipush (v := (nI 23)) hx hb dX7_usedBy_19 bp_23 ?_
        refine lv_iload_n hx hb dX7_usedBy_21 rfl (lv_at hl 3 rfl) ?_
        refine lv_iadd hx hb dX7_usedBy_22 ?_
        obtain ⟨hi, hf⟩ := gd_some hf
        refine va_iald hx hb hK.1 hP 1 0 rfl rfl hi dX7_usedBy_23 ?_
        refine lv_iload_n hx hb dX7_usedBy_24 rfl (lv_at hl 1 rfl) ?_
        obtain ⟨rv1, hrv1, hf⟩ := bd hf
        refine roI (va_runS (As := [.int (k_ro ((nI 23) + x3).toNatClampNeg), .int x1]) (rest := [.int x2]) ⟨hx, hb, hml, hown, hts⟩ (c_X7_has l D cI cZ cM (k_ro ((nI 23) + x3).toNatClampNeg) x1 rv1 hrv1) (va_cwS 2 hts gX7_usedBy_X7_has rfl rfl rfl hdc_X7_has ⟨Nat.le_of_ble_eq_true rfl, Nat.le_of_ble_eq_true rfl⟩) (prS hK hP [] rfl) rfl rfl hl.1 rfl (lv_room (Nat.le_of_ble_eq_true rfl)) dX7_usedBy_25 ⟨Nat.zero_le _, Nat.zero_le _⟩) ?_
        refine lv_if_eq (tgt := 37) hx hb dX7_usedBy_28 (by decide) (fun hc => ?_) (fun hc => ?_)
        · have hf := ifp hc hf
          refine lv_iconst (v := (nI 0)) hx hb dX7_usedBy_37 ic_0 ?_
          refine lv_ior hx hb dX7_usedBy_38 ?_
          refine lv_istore_n (lv' := [(2, .int (x2 ||| (nI 0))), (0, .ref k0), (1, .int x1), (3, .int x3)]) hx hb dX7_usedBy_39 rfl hl (by decide) rfl (fun ls hl => ?_)
          refine lv_iinc (v := (x3 + (nI 1))) (lv' := [(3, .int (x3 + (nI 1))), (2, .int (x2 ||| (nI 0))), (0, .ref k0), (1, .int x1)]) hx hb dX7_usedBy_40 hl (k := 3) rfl (ii_1 _) (by decide) rfl (fun ls hl => ?_)
          refine lv_goto (tgt := 4) hx hb dX7_usedBy_43 (by decide) ?_
          exact ih (x2 ||| (nI 0)) (x3 + (nI 1)) hf  ls (lv_sub hl [2, 3, 1, 0] rfl)
        · have hf := ifn hc hf
          refine lv_iconst (v := (nI 1)) hx hb dX7_usedBy_31 ic_1 ?_
          refine lv_iload_n hx hb dX7_usedBy_32 rfl (lv_at hl 3 rfl) ?_
          refine lv_ishl hx hb dX7_usedBy_33 ?_
          refine lv_goto (tgt := 38) hx hb dX7_usedBy_34 (by decide) ?_
          refine lv_ior hx hb dX7_usedBy_38 ?_
          refine lv_istore_n (lv' := [(2, .int (x2 ||| ((nI 1) <<< (x3 &&& 31)))), (0, .ref k0), (1, .int x1), (3, .int x3)]) hx hb dX7_usedBy_39 rfl hl (by decide) rfl (fun ls hl => ?_)
          refine lv_iinc (v := (x3 + (nI 1))) (lv' := [(3, .int (x3 + (nI 1))), (2, .int (x2 ||| ((nI 1) <<< (x3 &&& 31)))), (0, .ref k0), (1, .int x1)]) hx hb dX7_usedBy_40 hl (k := 3) rfl (ii_1 _) (by decide) rfl (fun ls hl => ?_)
          refine lv_goto (tgt := 4) hx hb dX7_usedBy_43 (by decide) ?_
          exact ih (x2 ||| ((nI 1) <<< (x3 &&& 31))) (x3 + (nI 1)) hf  ls (lv_sub hl [2, 3, 1, 0] rfl)
  have hl := lv_entry ([.ref k0, .int x1]) (n := 4) (Nat.le_of_ble_eq_true rfl)
  rw [lg_entry_eq]
  generalize (lg_sl ([.ref k0, .int x1]) ++ List.replicate (4 - (lg_sl ([.ref k0, .int x1])).length) Slot.unset).toArray = ls at hl ⊢
  have hl : lv_has ls 4 [(0, .ref k0), (1, .int x1)] := hl
  unfold m_X7_usedBy at hf
  refine lv_iconst (v := (nI 0)) hx hb dX7_usedBy_0 ic_0 ?_
  refine lv_istore_n (lv' := [(2, .int (nI 0)), (0, .ref k0), (1, .int x1)]) hx hb dX7_usedBy_1 rfl hl (by decide) rfl (fun ls hl => ?_)
  refine lv_iconst (v := (nI 0)) hx hb dX7_usedBy_2 ic_0 ?_
  refine lv_istore_n (lv' := [(3, .int (nI 0)), (2, .int (nI 0)), (0, .ref k0), (1, .int x1)]) hx hb dX7_usedBy_3 rfl hl (by decide) rfl (fun ls hl => ?_)
  exact hB_4 fu (nI 0) (nI 0) hf  ls (lv_sub hl [2, 3, 1, 0] rfl)
theorem hdc_X7_loose : yX7_loose.cls ≠ "java/lang/invoke/MethodHandle" ∧ yX7_loose.cls ≠ "java/lang/invoke/VarHandle" ∧ (parseMethodDescriptor yX7_loose.desc).map (fun d => d.parameters.length) = some 0 := by decide +kernel
set_option maxHeartbeats 4000000 in
set_option maxRecDepth 100000 in
theorem c_X7_loose (l : Launch) (D : va_G) (cI cZ cM : ClassId) (k0 k1 k2 k3 k4 k5 k6 k7 : Nat) (k_un : Int32) (k_len : Int32) (k_fi : Int32) (k_be : Int32) (k_to : Int32) (k_cl : Int32) (k_do : Int32) (k_ro : Nat → Int32) (k_ke : Nat → Int32) (k_te : Nat → Int32) (k_nu : Nat → Int32) (k_na : Nat → Int32) (k_no : Nat → Int32) (k_tu : Nat → Int32) (fu : Nat) (r : Int32) (hf : m_X7_loose fu k_ro = some r) : Met l yX7_loose wsX7_loose ({ frames := 2, cells := 0, slots := 0, locals := 44 }) (pR D cI cZ cM [(k0, .inr (7, [.ref k1, .int k_un, .ref k2, .ref k3, .int k_len, .int k_fi, .int k_be, .int k_to, .int k_cl, .int k_do, .ref k4, .ref k5, .ref k6, .ref k7])), (k1, .inl (cI, 583, .inl k_ro)), (k2, .inl (cZ, 2, .inl k_ke)), (k3, .inl (cI, 200, .inl k_te)), (k4, .inl (cI, 10, .inl k_nu)), (k5, .inl (cI, 48, .inl k_na)), (k6, .inl (cI, 1024, .inl k_no)), (k7, .inl (cI, 1024, .inl k_tu))] [.ref k0]) (qR r) 0 0 (fun _ => False) := by
  refine Met.ofW (cc := cX7_loose) (maxL := 3) (ret := (some .int)) (by decide) rfl ?_
  intro p e s m args below meth c s₁ B hml hv
  obtain ⟨rfl, hP, hK⟩ := hv
  have hx := B.exec
  have hb := B.bytes
  have hr := B.returns
  have hts := atoms_spec (ws := wsX7_loose) B.pre
  have hown : s.vm.findClass RX7 = some m.cls := findClass_of_methodNamed B.named
  have hlocks := B.notSynchronized
  have hfl_7 := hts (.fieldLink RX7 7 "TermsFirstModel" "rows" "[I") (List.mem_cons_of_mem _ (List.mem_append_left _ (List.mem_of_getElem? (i := 0) rfl)))
  have hiX7 : ∀ w ∈ u_ws RX7 TX7 14, w ∈ wsX7_loose := fun _ h => (List.mem_cons_of_mem _ (List.mem_append_right _ h))
  have hB_4 : ∀ (fn : Nat) (x1 : Int32) (x2 : Int32), m_X7_loose_4 fu k_ro fn x1 x2 = some r → ∀ ls : Array Slot, lv_has ls 3 [(0, .ref k0), (1, .int x1), (2, .int x2)] → W p l e (headSpec wsX7_loose { frames := 2, cells := 0, slots := 0, locals := 44 }).room s m ([.ref k0] : List Value).toArray below meth c s.heap [] 0 0 (MQ below (qR r) ([.ref k0] : List Value).toArray s 0 0 (fun _ => False)) (F0 m 4 ls []) := by
    intro fn
    induction fn with
    | zero => intro x1 x2 hf; rw [m_X7_loose_4] at hf; cases hf
    | succ fn ih =>
      intro x1 x2 hf ls hl
      rw [m_X7_loose_4] at hf
      refine lv_iload_n hx hb dX7_loose_4 rfl (lv_at hl 2 rfl) ?_
      refine lv_bipush (v := (nI 12)) hx hb dX7_loose_5 bp_12 ?_
      refine lv_icmp_ge (tgt := 45) hx hb dX7_loose_7 (by decide) (fun hc => ?_) (fun hc => ?_)
      · have hf := ifp hc hf
        refine lv_iload_n hx hb dX7_loose_45 rfl (lv_at hl 1 rfl) ?_
        cases hf
        exact W.iret hx hb hr (fun t ht _ => ⟨rfl, ht⟩) (fun _ h => nomatch h) dX7_loose_46
      · have hf := ifn hc hf
        refine lv_iload_n hx hb dX7_loose_10 rfl (lv_at hl 1 rfl) ?_
        refine lv_aload_n hx hb dX7_loose_11 rfl (lv_at hl 0 rfl) ?_
        refine va_get (D := D) (ci := 7) (v := .ref k1) (C := RX7) (T := TX7) (N := 14) hx hb hts hiX7 hown hK.1 hP 0 rfl rfl 0 (by decide) hfl_7 (fun _ h9 => h9) rfl dX7_loose_12 ?_
        refine lv_bipush (v := (nI 11)) hx hb dX7_loose_15 bp_11 ?_
        refine lv_iload_n hx hb dX7_loose_17 rfl (lv_at hl 2 rfl) ?_
        refine lv_iadd hx hb dX7_loose_18 ?_
        obtain ⟨hi, hf⟩ := gd_some hf
        refine va_iald hx hb hK.1 hP 1 0 rfl rfl hi dX7_loose_19 ?_
        refine lv_iconst (v := (-1 : Int32)) hx hb dX7_loose_20 ic_m1 ?_
        refine lv_icmp_ne (tgt := 36) hx hb dX7_loose_21 (by decide) (fun hc => ?_) (fun hc => ?_)
        · have hf := ifn hc hf
          refine lv_iconst (v := (nI 0)) hx hb dX7_loose_36 ic_0 ?_
          refine lv_iadd hx hb dX7_loose_37 ?_
          refine lv_istore_n (lv' := [(1, .int (x1 + (nI 0))), (0, .ref k0), (2, .int x2)]) hx hb dX7_loose_38 rfl hl (by decide) rfl (fun ls hl => ?_)
          refine lv_iinc (v := (x2 + (nI 1))) (lv' := [(2, .int (x2 + (nI 1))), (1, .int (x1 + (nI 0))), (0, .ref k0)]) hx hb dX7_loose_39 hl (k := 2) rfl (ii_1 _) (by decide) rfl (fun ls hl => ?_)
          refine lv_goto (tgt := 4) hx hb dX7_loose_42 (by decide) ?_
          exact ih (x1 + (nI 0)) (x2 + (nI 1)) hf  ls (lv_sub hl [2, 1, 0] rfl)
        · have hf := ifp hc hf
          refine lv_aload_n hx hb dX7_loose_24 rfl (lv_at hl 0 rfl) ?_
          refine lv_iload_n hx hb dX7_loose_25 rfl (lv_at hl 2 rfl) ?_
          obtain ⟨rv1, hrv1, hf⟩ := bd hf
          refine roI (va_runV (As := [.int x2]) (rest := [.int x1]) ⟨hx, hb, hml, hown, hts⟩ (c_X7_usedBy l D cI cZ cM k0 k1 k2 k3 k4 k5 k6 k7 k_un k_len k_fi k_be k_to k_cl k_do k_ro k_ke k_te k_nu k_na k_no k_tu x2 fu rv1 hrv1) (cwV 1 hts gX7_loose_X7_usedBy rfl rfl rfl ⟨rfl, hdc_X7_usedBy⟩ ⟨Nat.le_of_ble_eq_true rfl, Nat.le_of_ble_eq_true rfl⟩) (prV hK hP [0, 1, 2, 3, 4, 5, 6, 7] rfl (ci := 7) (q0 := 0) rfl rfl) rfl rfl hl.1 rfl (lv_room (Nat.le_of_ble_eq_true rfl)) dX7_loose_26 ⟨Nat.zero_le _, Nat.zero_le _⟩) ?_
          refine lv_if_eq (tgt := 36) hx hb dX7_loose_29 (by decide) (fun hc => ?_) (fun hc => ?_)
          · have hf := ifp hc hf
            refine lv_iconst (v := (nI 0)) hx hb dX7_loose_36 ic_0 ?_
            refine lv_iadd hx hb dX7_loose_37 ?_
            refine lv_istore_n (lv' := [(1, .int (x1 + (nI 0))), (0, .ref k0), (2, .int x2)]) hx hb dX7_loose_38 rfl hl (by decide) rfl (fun ls hl => ?_)
            refine lv_iinc (v := (x2 + (nI 1))) (lv' := [(2, .int (x2 + (nI 1))), (1, .int (x1 + (nI 0))), (0, .ref k0)]) hx hb dX7_loose_39 hl (k := 2) rfl (ii_1 _) (by decide) rfl (fun ls hl => ?_)
            refine lv_goto (tgt := 4) hx hb dX7_loose_42 (by decide) ?_
            exact ih (x1 + (nI 0)) (x2 + (nI 1)) hf  ls (lv_sub hl [2, 1, 0] rfl)
          · have hf := ifn hc hf
            refine lv_iconst (v := (nI 1)) hx hb dX7_loose_32 ic_1 ?_
            refine lv_goto (tgt := 37) hx hb dX7_loose_33 (by decide) ?_
            refine lv_iadd hx hb dX7_loose_37 ?_
            refine lv_istore_n (lv' := [(1, .int (x1 + (nI 1))), (0, .ref k0), (2, .int x2)]) hx hb dX7_loose_38 rfl hl (by decide) rfl (fun ls hl => ?_)
            refine lv_iinc (v := (x2 + (nI 1))) (lv' := [(2, .int (x2 + (nI 1))), (1, .int (x1 + (nI 1))), (0, .ref k0)]) hx hb dX7_loose_39 hl (k := 2) rfl (ii_1 _) (by decide) rfl (fun ls hl => ?_)
            refine lv_goto (tgt := 4) hx hb dX7_loose_42 (by decide) ?_
            exact ih (x1 + (nI 1)) (x2 + (nI 1)) hf  ls (lv_sub hl [2, 1, 0] rfl)
  have hl := lv_entry ([.ref k0]) (n := 3) (Nat.le_of_ble_eq_true rfl)
  rw [lg_entry_eq]
  generalize (lg_sl ([.ref k0]) ++ List.replicate (3 - (lg_sl ([.ref k0])).length) Slot.unset).toArray = ls at hl ⊢
  have hl : lv_has ls 3 [(0, .ref k0)] := hl
  unfold m_X7_loose at hf
  refine lv_iconst (v := (nI 0)) hx hb dX7_loose_0 ic_0 ?_
  refine lv_istore_n (lv' := [(1, .int (nI 0)), (0, .ref k0)]) hx hb dX7_loose_1 rfl hl (by decide) rfl (fun ls hl => ?_)
  refine lv_iconst (v := (nI 0)) hx hb dX7_loose_2 ic_0 ?_
  refine lv_istore_n (lv' := [(2, .int (nI 0)), (1, .int (nI 0)), (0, .ref k0)]) hx hb dX7_loose_3 rfl hl (by decide) rfl (fun ls hl => ?_)
  exact hB_4 fu (nI 0) (nI 0) hf  ls (lv_sub hl [2, 1, 0] rfl)
theorem hdc_X7_needs : yX7_needs.cls ≠ "java/lang/invoke/MethodHandle" ∧ yX7_needs.cls ≠ "java/lang/invoke/VarHandle" ∧ (parseMethodDescriptor yX7_needs.desc).map (fun d => d.parameters.length) = some 1 := by decide +kernel
set_option maxHeartbeats 4000000 in
set_option maxRecDepth 100000 in
theorem c_X7_needs (l : Launch) (D : va_G) (cI cZ cM : ClassId) (k0 k1 k2 k3 k4 k5 k6 k7 : Nat) (k_un : Int32) (k_len : Int32) (k_fi : Int32) (k_be : Int32) (k_to : Int32) (k_cl : Int32) (k_do : Int32) (k_ro : Nat → Int32) (k_ke : Nat → Int32) (k_te : Nat → Int32) (k_nu : Nat → Int32) (k_na : Nat → Int32) (k_no : Nat → Int32) (k_tu : Nat → Int32) (x1 : Int32) (fu : Nat) (r : Int32) (hf : m_X7_needs fu k_ro x1 = some r) : Met l yX7_needs wsX7_needs ({ frames := 1, cells := 0, slots := 0, locals := 21 }) (pR D cI cZ cM [(k0, .inr (7, [.ref k1, .int k_un, .ref k2, .ref k3, .int k_len, .int k_fi, .int k_be, .int k_to, .int k_cl, .int k_do, .ref k4, .ref k5, .ref k6, .ref k7])), (k1, .inl (cI, 583, .inl k_ro)), (k2, .inl (cZ, 2, .inl k_ke)), (k3, .inl (cI, 200, .inl k_te)), (k4, .inl (cI, 10, .inl k_nu)), (k5, .inl (cI, 48, .inl k_na)), (k6, .inl (cI, 1024, .inl k_no)), (k7, .inl (cI, 1024, .inl k_tu))] [.ref k0, .int x1]) (qR r) 0 0 (fun _ => False) := by
  refine Met.ofW (cc := cX7_needs) (maxL := 4) (ret := (some .int)) (by decide) rfl ?_
  intro p e s m args below meth c s₁ B hml hv
  obtain ⟨rfl, hP, hK⟩ := hv
  have hx := B.exec
  have hb := B.bytes
  have hr := B.returns
  have hts := atoms_spec (ws := wsX7_needs) B.pre
  have hown : s.vm.findClass RX7 = some m.cls := findClass_of_methodNamed B.named
  have hlocks := B.notSynchronized
  have hfl_7 := hts (.fieldLink RX7 7 "TermsFirstModel" "rows" "[I") (List.mem_cons_of_mem _ (List.mem_append_left _ (List.mem_of_getElem? (i := 0) rfl)))
  have hiX7 : ∀ w ∈ u_ws RX7 TX7 14, w ∈ wsX7_needs := fun _ h => (List.mem_cons_of_mem _ (List.mem_append_right _ h))
  have hB_4 : ∀ (fn : Nat) (x2 : Int32) (x3 : Int32), m_X7_needs_4 k_ro x1 fn x2 x3 = some r → ∀ ls : Array Slot, lv_has ls 4 [(0, .ref k0), (1, .int x1), (2, .int x2), (3, .int x3)] → W p l e (headSpec wsX7_needs { frames := 1, cells := 0, slots := 0, locals := 21 }).room s m ([.ref k0, .int x1] : List Value).toArray below meth c s.heap [] 0 0 (MQ below (qR r) ([.ref k0, .int x1] : List Value).toArray s 0 0 (fun _ => False)) (F0 m 4 ls []) := by
    intro fn
    induction fn with
    | zero => intro x2 x3 hf; rw [m_X7_needs_4] at hf; cases hf
    | succ fn ih =>
      intro x2 x3 hf ls hl
      rw [m_X7_needs_4] at hf
      refine lv_iload_n hx hb dX7_needs_4 rfl (lv_at hl 3 rfl) ?_
      refine lv_bipush (v := (nI 12)) hx hb dX7_needs_5 bp_12 ?_
      refine lv_icmp_ge (tgt := 63) hx hb dX7_needs_7 (by decide) (fun hc => ?_) (fun hc => ?_)
      · have hf := ifp hc hf
        refine lv_iload_n hx hb dX7_needs_63 rfl (lv_at hl 2 rfl) ?_
        refine lv_iconst (v := (nI 1)) hx hb dX7_needs_64 ic_1 ?_
        refine lv_iload_n hx hb dX7_needs_65 rfl (lv_at hl 1 rfl) ?_
        refine lv_ishl hx hb dX7_needs_66 ?_
        refine lv_iconst (v := (-1 : Int32)) hx hb dX7_needs_67 ic_m1 ?_
        refine lv_ixor hx hb dX7_needs_68 ?_
        refine lv_iand hx hb dX7_needs_69 ?_
        cases hf
        exact W.iret hx hb hr (fun t ht _ => ⟨rfl, ht⟩) (fun _ h => nomatch h) dX7_needs_70
      · have hf := ifn hc hf
        refine lv_iload_n hx hb dX7_needs_10 rfl (lv_at hl 2 rfl) ?_
        refine lv_aload_n hx hb dX7_needs_11 rfl (lv_at hl 0 rfl) ?_
        refine va_get (D := D) (ci := 7) (v := .ref k1) (C := RX7) (T := TX7) (N := 14) hx hb hts hiX7 hown hK.1 hP 0 rfl rfl 0 (by decide) hfl_7 (fun _ h9 => h9) rfl dX7_needs_12 ?_
        refine lv_bipush (v := (nI 23)) hx hb dX7_needs_15 bp_23 ?_
        refine lv_iload_n hx hb dX7_needs_17 rfl (lv_at hl 1 rfl) ?_
        refine lv_iadd hx hb dX7_needs_18 ?_
        obtain ⟨hi, hf⟩ := gd_some hf
        refine va_iald hx hb hK.1 hP 1 0 rfl rfl hi dX7_needs_19 ?_
        refine lv_iload_n hx hb dX7_needs_20 rfl (lv_at hl 3 rfl) ?_
        obtain ⟨rv1, hrv1, hf⟩ := bd hf
        refine roI (va_runS (As := [.int (k_ro ((nI 23) + x1).toNatClampNeg), .int x3]) (rest := [.int x2]) ⟨hx, hb, hml, hown, hts⟩ (c_X7_has l D cI cZ cM (k_ro ((nI 23) + x1).toNatClampNeg) x3 rv1 hrv1) (va_cwS 2 hts gX7_needs_X7_has rfl rfl rfl hdc_X7_has ⟨Nat.le_of_ble_eq_true rfl, Nat.le_of_ble_eq_true rfl⟩) (prS hK hP [] rfl) rfl rfl hl.1 rfl (lv_room (Nat.le_of_ble_eq_true rfl)) dX7_needs_21 ⟨Nat.zero_le _, Nat.zero_le _⟩) ?_
        refine lv_if_eq (tgt := 54) hx hb dX7_needs_24 (by decide) (fun hc => ?_) (fun hc => ?_)
        · have hf := ifp hc hf
          refine lv_iconst (v := (nI 0)) hx hb dX7_needs_54 ic_0 ?_
          refine lv_ior hx hb dX7_needs_55 ?_
          refine lv_istore_n (lv' := [(2, .int (x2 ||| (nI 0))), (0, .ref k0), (1, .int x1), (3, .int x3)]) hx hb dX7_needs_56 rfl hl (by decide) rfl (fun ls hl => ?_)
          refine lv_iinc (v := (x3 + (nI 1))) (lv' := [(3, .int (x3 + (nI 1))), (2, .int (x2 ||| (nI 0))), (0, .ref k0), (1, .int x1)]) hx hb dX7_needs_57 hl (k := 3) rfl (ii_1 _) (by decide) rfl (fun ls hl => ?_)
          refine lv_goto (tgt := 4) hx hb dX7_needs_60 (by decide) ?_
          exact ih (x2 ||| (nI 0)) (x3 + (nI 1)) hf  ls (lv_sub hl [2, 3, 1, 0] rfl)
        · have hf := ifn hc hf
          refine lv_aload_n hx hb dX7_needs_27 rfl (lv_at hl 0 rfl) ?_
          refine va_get (D := D) (ci := 7) (v := .ref k1) (C := RX7) (T := TX7) (N := 14) hx hb hts hiX7 hown hK.1 hP 0 rfl rfl 0 (by decide) hfl_7 (fun _ h9 => h9) rfl dX7_needs_28 ?_
          refine lv_bipush (v := (nI 11)) hx hb dX7_needs_31 bp_11 ?_
          refine lv_iload_n hx hb dX7_needs_33 rfl (lv_at hl 3 rfl) ?_
          refine lv_iadd hx hb dX7_needs_34 ?_
          obtain ⟨hi, hf⟩ := gd_some hf
          refine va_iald hx hb hK.1 hP 1 0 rfl rfl hi dX7_needs_35 ?_
          refine lv_iconst (v := (-1 : Int32)) hx hb dX7_needs_36 ic_m1 ?_
          refine lv_icmp_eq (tgt := 54) hx hb dX7_needs_37 (by decide) (fun hc => ?_) (fun hc => ?_)
          · have hf := ifp hc hf
            refine lv_iconst (v := (nI 0)) hx hb dX7_needs_54 ic_0 ?_
            refine lv_ior hx hb dX7_needs_55 ?_
            refine lv_istore_n (lv' := [(2, .int (x2 ||| (nI 0))), (0, .ref k0), (1, .int x1), (3, .int x3)]) hx hb dX7_needs_56 rfl hl (by decide) rfl (fun ls hl => ?_)
            refine lv_iinc (v := (x3 + (nI 1))) (lv' := [(3, .int (x3 + (nI 1))), (2, .int (x2 ||| (nI 0))), (0, .ref k0), (1, .int x1)]) hx hb dX7_needs_57 hl (k := 3) rfl (ii_1 _) (by decide) rfl (fun ls hl => ?_)
            refine lv_goto (tgt := 4) hx hb dX7_needs_60 (by decide) ?_
            exact ih (x2 ||| (nI 0)) (x3 + (nI 1)) hf  ls (lv_sub hl [2, 3, 1, 0] rfl)
          · have hf := ifn hc hf
            refine lv_iconst (v := (nI 1)) hx hb dX7_needs_40 ic_1 ?_
            refine lv_aload_n hx hb dX7_needs_41 rfl (lv_at hl 0 rfl) ?_
            refine va_get (D := D) (ci := 7) (v := .ref k1) (C := RX7) (T := TX7) (N := 14) hx hb hts hiX7 hown hK.1 hP 0 rfl rfl 0 (by decide) hfl_7 (fun _ h9 => h9) rfl dX7_needs_42 ?_
            refine lv_bipush (v := (nI 11)) hx hb dX7_needs_45 bp_11 ?_
            refine lv_iload_n hx hb dX7_needs_47 rfl (lv_at hl 3 rfl) ?_
            refine lv_iadd hx hb dX7_needs_48 ?_
            obtain ⟨hi, hf⟩ := gd_some hf
            refine va_iald hx hb hK.1 hP 1 0 rfl rfl hi dX7_needs_49 ?_
            refine lv_ishl hx hb dX7_needs_50 ?_
            refine lv_goto (tgt := 55) hx hb dX7_needs_51 (by decide) ?_
            refine lv_ior hx hb dX7_needs_55 ?_
            refine lv_istore_n (lv' := [(2, .int (x2 ||| ((nI 1) <<< ((k_ro ((nI 11) + x3).toNatClampNeg) &&& 31)))), (0, .ref k0), (1, .int x1), (3, .int x3)]) hx hb dX7_needs_56 rfl hl (by decide) rfl (fun ls hl => ?_)
            refine lv_iinc (v := (x3 + (nI 1))) (lv' := [(3, .int (x3 + (nI 1))), (2, .int (x2 ||| ((nI 1) <<< ((k_ro ((nI 11) + x3).toNatClampNeg) &&& 31)))), (0, .ref k0), (1, .int x1)]) hx hb dX7_needs_57 hl (k := 3) rfl (ii_1 _) (by decide) rfl (fun ls hl => ?_)
            refine lv_goto (tgt := 4) hx hb dX7_needs_60 (by decide) ?_
            exact ih (x2 ||| ((nI 1) <<< ((k_ro ((nI 11) + x3).toNatClampNeg) &&& 31))) (x3 + (nI 1)) hf  ls (lv_sub hl [2, 3, 1, 0] rfl)
  have hl := lv_entry ([.ref k0, .int x1]) (n := 4) (Nat.le_of_ble_eq_true rfl)
  rw [lg_entry_eq]
  generalize (lg_sl ([.ref k0, .int x1]) ++ List.replicate (4 - (lg_sl ([.ref k0, .int x1])).length) Slot.unset).toArray = ls at hl ⊢
  have hl : lv_has ls 4 [(0, .ref k0), (1, .int x1)] := hl
  unfold m_X7_needs at hf
  refine lv_iconst (v := (nI 0)) hx hb dX7_needs_0 ic_0 ?_
  refine lv_istore_n (lv' := [(2, .int (nI 0)), (0, .ref k0), (1, .int x1)]) hx hb dX7_needs_1 rfl hl (by decide) rfl (fun ls hl => ?_)
  refine lv_iconst (v := (nI 0)) hx hb dX7_needs_2 ic_0 ?_
  refine lv_istore_n (lv' := [(3, .int (nI 0)), (2, .int (nI 0)), (0, .ref k0), (1, .int x1)]) hx hb dX7_needs_3 rfl hl (by decide) rfl (fun ls hl => ?_)
  exact hB_4 fu (nI 0) (nI 0) hf  ls (lv_sub hl [2, 3, 1, 0] rfl)
