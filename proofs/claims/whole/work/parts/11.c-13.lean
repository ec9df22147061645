theorem hdc_X7_leads : yX7_leads.cls ≠ "java/lang/invoke/MethodHandle" ∧ yX7_leads.cls ≠ "java/lang/invoke/VarHandle" ∧ (parseMethodDescriptor yX7_leads.desc).map (fun d => d.parameters.length) = some 1 := by decide +kernel
set_option maxHeartbeats 4000000 in
set_option maxRecDepth 100000 in
theorem c_X7_leads (l : Launch) (D : va_G) (cI cZ cM : ClassId) (k0 k1 k2 k3 k4 k5 k6 k7 : Nat) (k_un : Int32) (k_len : Int32) (k_fi : Int32) (k_be : Int32) (k_to : Int32) (k_cl : Int32) (k_do : Int32) (k_ro : Nat → Int32) (k_ke : Nat → Int32) (k_te : Nat → Int32) (k_nu : Nat → Int32) (k_na : Nat → Int32) (k_no : Nat → Int32) (k_tu : Nat → Int32) (x1 : Int32) (fu : Nat) (r : Int32) (hf : m_X7_leads fu k_ro x1 = some r) : Met l yX7_leads wsX7_leads ({ frames := 2, cells := 0, slots := 0, locals := 44 }) (pR D cI cZ cM [(k0, .inr (7, [.ref k1, .int k_un, .ref k2, .ref k3, .int k_len, .int k_fi, .int k_be, .int k_to, .int k_cl, .int k_do, .ref k4, .ref k5, .ref k6, .ref k7])), (k1, .inl (cI, 583, .inl k_ro)), (k2, .inl (cZ, 2, .inl k_ke)), (k3, .inl (cI, 200, .inl k_te)), (k4, .inl (cI, 10, .inl k_nu)), (k5, .inl (cI, 48, .inl k_na)), (k6, .inl (cI, 1024, .inl k_no)), (k7, .inl (cI, 1024, .inl k_tu))] [.ref k0, .int x1]) (qR r) 0 0 (fun _ => False) := by
  refine Met.ofW (cc := cX7_leads) (maxL := 5) (ret := (some .int)) (by decide) rfl ?_
  intro p e s m args below meth c s₁ B hml hv
  obtain ⟨rfl, hP, hK⟩ := hv
  have hx := B.exec
  have hb := B.bytes
  have hr := B.returns
  have hts := atoms_spec (ws := wsX7_leads) B.pre
  have hown : s.vm.findClass RX7 = some m.cls := findClass_of_methodNamed B.named
  have hlocks := B.notSynchronized
  have hfl_7 := hts (.fieldLink RX7 7 "TermsFirstModel" "rows" "[I") (List.mem_cons_of_mem _ (List.mem_append_left _ (List.mem_of_getElem? (i := 0) rfl)))
  have hiX7 : ∀ w ∈ u_ws RX7 TX7 14, w ∈ wsX7_leads := fun _ h => (List.mem_cons_of_mem _ (List.mem_append_right _ h))
  have hB_21 : ∀ (x3 : Int32) (kt8 : Int32 → Int32 → Option (Int32)) (hkt8 : ∀ (x2 : Int32) (x3 : Int32), kt8 x2 x3 = some r → ∀ ls : Array Slot, lv_has ls 5 [(0, .ref k0), (2, .int x2), (3, .int x3)] → W p l e (headSpec wsX7_leads { frames := 2, cells := 0, slots := 0, locals := 44 }).room s m ([.ref k0, .int x1] : List Value).toArray below meth c s.heap [] 0 0 (MQ below (qR r) ([.ref k0, .int x1] : List Value).toArray s 0 0 (fun _ => False)) (F0 m 8 ls [])) (fn : Nat) (x2 : Int32) (x4 : Int32), m_X7_leads_21 fu k_ro x3 kt8 fn x2 x4 = some r → ∀ ls : Array Slot, lv_has ls 5 [(0, .ref k0), (2, .int x2), (3, .int x3), (4, .int x4)] → W p l e (headSpec wsX7_leads { frames := 2, cells := 0, slots := 0, locals := 44 }).room s m ([.ref k0, .int x1] : List Value).toArray below meth c s.heap [] 0 0 (MQ below (qR r) ([.ref k0, .int x1] : List Value).toArray s 0 0 (fun _ => False)) (F0 m 21 ls []) := by
    intro x3 kt8 hkt8 fn
    induction fn with
    | zero => intro x2 x4 hf; rw [m_X7_leads_21] at hf; cases hf
    | succ fn ih =>
      intro x2 x4 hf ls hl
      rw [m_X7_leads_21] at hf
      refine lv_iload hx hb dX7_leads_21 (lv_at hl 3 rfl) ?_
      refine lv_aload_n hx hb dX7_leads_23 rfl (lv_at hl 0 rfl) ?_
      refine va_get (D := D) (ci := 7) (v := .ref k1) (C := RX7) (T := TX7) (N := 14) hx hb hts hiX7 hown hK.1 hP 0 rfl rfl 0 (by decide) hfl_7 (fun _ h9 => h9) rfl dX7_leads_24 ?_
      refine lv_iconst (v := (nI 0)) hx hb dX7_leads_27 ic_0 ?_
      obtain ⟨hi, hf⟩ := gd_some hf
      refine va_iald hx hb hK.1 hP 1 0 rfl rfl hi dX7_leads_28 ?_
      refine lv_icmp_ge (tgt := 60) hx hb dX7_leads_29 (by decide) (fun hc => ?_) (fun hc => ?_)
      · have hf := ifp hc hf
        refine lv_iinc (v := (x3 + (nI 1))) (lv' := [(3, .int (x3 + (nI 1))), (0, .ref k0), (2, .int x2), (4, .int x4)]) hx hb dX7_leads_60 hl (k := 2) rfl (ii_1 _) (by decide) rfl (fun ls hl => ?_)
        refine lv_goto (tgt := 8) hx hb dX7_leads_63 (by decide) ?_
        exact hkt8 x2 (x3 + (nI 1)) hf  ls (lv_sub hl [1, 2, 0] rfl)
      · have hf := ifn hc hf
        refine lv_iload_n hx hb dX7_leads_32 rfl (lv_at hl 1 rfl) ?_
        refine lv_iload_n hx hb dX7_leads_33 rfl (lv_at hl 1 rfl) ?_
        refine lv_iload hx hb dX7_leads_34 (lv_at hl 3 rfl) ?_
        obtain ⟨rv2, hrv2, hf⟩ := bd hf
        refine roI (va_runS (As := [.int x2, .int x4]) (rest := [.int x2]) ⟨hx, hb, hml, hown, hts⟩ (c_X7_has l D cI cZ cM x2 x4 rv2 hrv2) (va_cwS 2 hts gX7_leads_X7_has rfl rfl rfl hdc_X7_has ⟨Nat.le_of_ble_eq_true rfl, Nat.le_of_ble_eq_true rfl⟩) (prS hK hP [] rfl) rfl rfl hl.1 rfl (lv_room (Nat.le_of_ble_eq_true rfl)) dX7_leads_36 ⟨Nat.zero_le _, Nat.zero_le _⟩) ?_
        refine lv_if_eq (tgt := 51) hx hb dX7_leads_39 (by decide) (fun hc => ?_) (fun hc => ?_)
        · have hf := ifp hc hf
          refine lv_iconst (v := (nI 0)) hx hb dX7_leads_51 ic_0 ?_
          refine lv_ior hx hb dX7_leads_52 ?_
          refine lv_istore_n (lv' := [(2, .int (x2 ||| (nI 0))), (0, .ref k0), (3, .int x3), (4, .int x4)]) hx hb dX7_leads_53 rfl hl (by decide) rfl (fun ls hl => ?_)
          refine lv_iinc (v := (x4 + (nI 1))) (lv' := [(4, .int (x4 + (nI 1))), (2, .int (x2 ||| (nI 0))), (0, .ref k0), (3, .int x3)]) hx hb dX7_leads_54 hl (k := 3) rfl (ii_1 _) (by decide) rfl (fun ls hl => ?_)
          refine lv_goto (tgt := 21) hx hb dX7_leads_57 (by decide) ?_
          exact ih (x2 ||| (nI 0)) (x4 + (nI 1)) hf  ls (lv_sub hl [2, 1, 3, 0] rfl)
        · have hf := ifn hc hf
          refine lv_aload_n hx hb dX7_leads_42 rfl (lv_at hl 0 rfl) ?_
          refine lv_iload hx hb dX7_leads_43 (lv_at hl 3 rfl) ?_
          obtain ⟨rv3, hrv3, hf⟩ := bd hf
          refine roI (va_runV (As := [.int x4]) (rest := [.int x2]) ⟨hx, hb, hml, hown, hts⟩ (c_X7_needs l D cI cZ cM k0 k1 k2 k3 k4 k5 k6 k7 k_un k_len k_fi k_be k_to k_cl k_do k_ro k_ke k_te k_nu k_na k_no k_tu x4 fu rv3 hrv3) (cwV 1 hts gX7_leads_X7_needs rfl rfl rfl ⟨rfl, hdc_X7_needs⟩ ⟨Nat.le_of_ble_eq_true rfl, Nat.le_of_ble_eq_true rfl⟩) (prV hK hP [0, 1, 2, 3, 4, 5, 6, 7] rfl (ci := 7) (q0 := 0) rfl rfl) rfl rfl hl.1 rfl (lv_room (Nat.le_of_ble_eq_true rfl)) dX7_leads_45 ⟨Nat.zero_le _, Nat.zero_le _⟩) ?_
          refine lv_goto (tgt := 52) hx hb dX7_leads_48 (by decide) ?_
          refine lv_ior hx hb dX7_leads_52 ?_
          refine lv_istore_n (lv' := [(2, .int (x2 ||| rv3)), (0, .ref k0), (3, .int x3), (4, .int x4)]) hx hb dX7_leads_53 rfl hl (by decide) rfl (fun ls hl => ?_)
          refine lv_iinc (v := (x4 + (nI 1))) (lv' := [(4, .int (x4 + (nI 1))), (2, .int (x2 ||| rv3)), (0, .ref k0), (3, .int x3)]) hx hb dX7_leads_54 hl (k := 3) rfl (ii_1 _) (by decide) rfl (fun ls hl => ?_)
          refine lv_goto (tgt := 21) hx hb dX7_leads_57 (by decide) ?_
          exact ih (x2 ||| rv3) (x4 + (nI 1)) hf  ls (lv_sub hl [2, 1, 3, 0] rfl)
  have hB_8 : ∀ (fn : Nat) (x2 : Int32) (x3 : Int32), m_X7_leads_8 fu k_ro fn x2 x3 = some r → ∀ ls : Array Slot, lv_has ls 5 [(0, .ref k0), (2, .int x2), (3, .int x3)] → W p l e (headSpec wsX7_leads { frames := 2, cells := 0, slots := 0, locals := 44 }).room s m ([.ref k0, .int x1] : List Value).toArray below meth c s.heap [] 0 0 (MQ below (qR r) ([.ref k0, .int x1] : List Value).toArray s 0 0 (fun _ => False)) (F0 m 8 ls []) := by
    intro fn
    induction fn with
    | zero => intro x2 x3 hf; rw [m_X7_leads_8] at hf; cases hf
    | succ fn ih =>
      intro x2 x3 hf ls hl
      rw [m_X7_leads_8] at hf
      refine lv_iload_n hx hb dX7_leads_8 rfl (lv_at hl 2 rfl) ?_
      refine lv_aload_n hx hb dX7_leads_9 rfl (lv_at hl 0 rfl) ?_
      refine va_get (D := D) (ci := 7) (v := .ref k1) (C := RX7) (T := TX7) (N := 14) hx hb hts hiX7 hown hK.1 hP 0 rfl rfl 0 (by decide) hfl_7 (fun _ h9 => h9) rfl dX7_leads_10 ?_
      refine lv_iconst (v := (nI 0)) hx hb dX7_leads_13 ic_0 ?_
      obtain ⟨hi, hf⟩ := gd_some hf
      refine va_iald hx hb hK.1 hP 1 0 rfl rfl hi dX7_leads_14 ?_
      refine lv_icmp_ge (tgt := 66) hx hb dX7_leads_15 (by decide) (fun hc => ?_) (fun hc => ?_)
      · have hf := ifp hc hf
        refine lv_iload_n hx hb dX7_leads_66 rfl (lv_at hl 1 rfl) ?_
        cases hf
        exact W.iret hx hb hr (fun t ht _ => ⟨rfl, ht⟩) (fun _ h => nomatch h) dX7_leads_67
      · have hf := ifn hc hf
        refine lv_iconst (v := (nI 0)) hx hb dX7_leads_18 ic_0 ?_
        refine lv_istore (lv' := [(4, .int (nI 0)), (0, .ref k0), (2, .int x2), (3, .int x3)]) hx hb dX7_leads_19 hl (by decide) rfl (fun ls hl => ?_)
        exact hB_21 x3 _ ih fu x2 (nI 0) hf  ls (lv_sub hl [1, 2, 3, 0] rfl)
  have hl := lv_entry ([.ref k0, .int x1]) (n := 5) (Nat.le_of_ble_eq_true rfl)
  rw [lg_entry_eq]
  generalize (lg_sl ([.ref k0, .int x1]) ++ List.replicate (5 - (lg_sl ([.ref k0, .int x1])).length) Slot.unset).toArray = ls at hl ⊢
  have hl : lv_has ls 5 [(0, .ref k0), (1, .int x1)] := hl
  unfold m_X7_leads at hf
  refine lv_aload_n hx hb dX7_leads_0 rfl (lv_at hl 0 rfl) ?_
  refine lv_iload_n hx hb dX7_leads_1 rfl (lv_at hl 1 rfl) ?_
  obtain ⟨rv1, hrv1, hf⟩ := bd hf
  refine roI (va_runV (As := [.int x1]) (rest := []) ⟨hx, hb, hml, hown, hts⟩ (c_X7_needs l D cI cZ cM k0 k1 k2 k3 k4 k5 k6 k7 k_un k_len k_fi k_be k_to k_cl k_do k_ro k_ke k_te k_nu k_na k_no k_tu x1 fu rv1 hrv1) (cwV 1 hts gX7_leads_X7_needs rfl rfl rfl ⟨rfl, hdc_X7_needs⟩ ⟨Nat.le_of_ble_eq_true rfl, Nat.le_of_ble_eq_true rfl⟩) (prV hK hP [0, 1, 2, 3, 4, 5, 6, 7] rfl (ci := 7) (q0 := 0) rfl rfl) rfl rfl hl.1 rfl (lv_room (Nat.le_of_ble_eq_true rfl)) dX7_leads_2 ⟨Nat.zero_le _, Nat.zero_le _⟩) ?_
  refine lv_istore_n (lv' := [(2, .int rv1), (0, .ref k0), (1, .int x1)]) hx hb dX7_leads_5 rfl hl (by decide) rfl (fun ls hl => ?_)
  refine lv_iconst (v := (nI 0)) hx hb dX7_leads_6 ic_0 ?_
  refine lv_istore_n (lv' := [(3, .int (nI 0)), (2, .int rv1), (0, .ref k0), (1, .int x1)]) hx hb dX7_leads_7 rfl hl (by decide) rfl (fun ls hl => ?_)
  exact hB_8 fu rv1 (nI 0) hf  ls (lv_sub hl [2, 1, 0] rfl)
theorem hdc_X7_knotOf : yX7_knotOf.cls ≠ "java/lang/invoke/MethodHandle" ∧ yX7_knotOf.cls ≠ "java/lang/invoke/VarHandle" ∧ (parseMethodDescriptor yX7_knotOf.desc).map (fun d => d.parameters.length) = some 1 := by decide +kernel
set_option maxHeartbeats 4000000 in
set_option maxRecDepth 100000 in
theorem c_X7_knotOf (l : Launch) (D : va_G) (cI cZ cM : ClassId) (k0 k1 k2 k3 k4 k5 k6 k7 : Nat) (k_un : Int32) (k_len : Int32) (k_fi : Int32) (k_be : Int32) (k_to : Int32) (k_cl : Int32) (k_do : Int32) (k_ro : Nat → Int32) (k_ke : Nat → Int32) (k_te : Nat → Int32) (k_nu : Nat → Int32) (k_na : Nat → Int32) (k_no : Nat → Int32) (k_tu : Nat → Int32) (x1 : Int32) (fu : Nat) (r : Int32) (hf : m_X7_knotOf fu k_ro x1 = some r) : Met l yX7_knotOf wsX7_knotOf ({ frames := 3, cells := 0, slots := 0, locals := 68 }) (pR D cI cZ cM [(k0, .inr (7, [.ref k1, .int k_un, .ref k2, .ref k3, .int k_len, .int k_fi, .int k_be, .int k_to, .int k_cl, .int k_do, .ref k4, .ref k5, .ref k6, .ref k7])), (k1, .inl (cI, 583, .inl k_ro)), (k2, .inl (cZ, 2, .inl k_ke)), (k3, .inl (cI, 200, .inl k_te)), (k4, .inl (cI, 10, .inl k_nu)), (k5, .inl (cI, 48, .inl k_na)), (k6, .inl (cI, 1024, .inl k_no)), (k7, .inl (cI, 1024, .inl k_tu))] [.ref k0, .int x1]) (qR r) 0 0 (fun _ => False) := by
  refine Met.ofW (cc := cX7_knotOf) (maxL := 5) (ret := (some .int)) (by decide) rfl ?_
  intro p e s m args below meth c s₁ B hml hv
  obtain ⟨rfl, hP, hK⟩ := hv
  have hx := B.exec
  have hb := B.bytes
  have hr := B.returns
  have hts := atoms_spec (ws := wsX7_knotOf) B.pre
  have hown : s.vm.findClass RX7 = some m.cls := findClass_of_methodNamed B.named
  have hlocks := B.notSynchronized
  have hfl_7 := hts (.fieldLink RX7 7 "TermsFirstModel" "rows" "[I") (List.mem_cons_of_mem _ (List.mem_append_left _ (List.mem_of_getElem? (i := 0) rfl)))
  have hiX7 : ∀ w ∈ u_ws RX7 TX7 14, w ∈ wsX7_knotOf := fun _ h => (List.mem_cons_of_mem _ (List.mem_append_right _ h))
  have hB_13 : ∀ (x2 : Int32) (fn : Nat) (x3 : Int32) (x4 : Int32), m_X7_knotOf_13 fu k_ro x1 x2 fn x3 x4 = some r → ∀ ls : Array Slot, lv_has ls 5 [(0, .ref k0), (1, .int x1), (2, .int x2), (3, .int x3), (4, .int x4)] → W p l e (headSpec wsX7_knotOf { frames := 3, cells := 0, slots := 0, locals := 68 }).room s m ([.ref k0, .int x1] : List Value).toArray below meth c s.heap [] 0 0 (MQ below (qR r) ([.ref k0, .int x1] : List Value).toArray s 0 0 (fun _ => False)) (F0 m 13 ls []) := by
    intro x2 fn
    induction fn with
    | zero => intro x3 x4 hf; rw [m_X7_knotOf_13] at hf; cases hf
    | succ fn ih =>
      intro x3 x4 hf ls hl
      rw [m_X7_knotOf_13] at hf
      refine lv_iload hx hb dX7_knotOf_13 (lv_at hl 4 rfl) ?_
      refine lv_aload_n hx hb dX7_knotOf_15 rfl (lv_at hl 0 rfl) ?_
      refine va_get (D := D) (ci := 7) (v := .ref k1) (C := RX7) (T := TX7) (N := 14) hx hb hts hiX7 hown hK.1 hP 0 rfl rfl 0 (by decide) hfl_7 (fun _ h9 => h9) rfl dX7_knotOf_16 ?_
      refine lv_iconst (v := (nI 0)) hx hb dX7_knotOf_19 ic_0 ?_
      obtain ⟨hi, hf⟩ := gd_some hf
      refine va_iald hx hb hK.1 hP 1 0 rfl rfl hi dX7_knotOf_20 ?_
      refine lv_icmp_ge (tgt := 63) hx hb dX7_knotOf_21 (by decide) (fun hc => ?_) (fun hc => ?_)
      · have hf := ifp hc hf
        refine lv_iload_n hx hb dX7_knotOf_63 rfl (lv_at hl 3 rfl) ?_
        cases hf
        exact W.iret hx hb hr (fun t ht _ => ⟨rfl, ht⟩) (fun _ h => nomatch h) dX7_knotOf_64
      · have hf := ifn hc hf
        refine lv_iload_n hx hb dX7_knotOf_24 rfl (lv_at hl 3 rfl) ?_
        refine lv_iload_n hx hb dX7_knotOf_25 rfl (lv_at hl 2 rfl) ?_
        refine lv_iload hx hb dX7_knotOf_26 (lv_at hl 4 rfl) ?_
        obtain ⟨rv2, hrv2, hf⟩ := bd hf
        refine roI (va_runS (As := [.int x2, .int x4]) (rest := [.int x3]) ⟨hx, hb, hml, hown, hts⟩ (c_X7_has l D cI cZ cM x2 x4 rv2 hrv2) (va_cwS 2 hts gX7_knotOf_X7_has rfl rfl rfl hdc_X7_has ⟨Nat.le_of_ble_eq_true rfl, Nat.le_of_ble_eq_true rfl⟩) (prS hK hP [] rfl) rfl rfl hl.1 rfl (lv_room (Nat.le_of_ble_eq_true rfl)) dX7_knotOf_28 ⟨Nat.zero_le _, Nat.zero_le _⟩) ?_
        refine lv_if_eq (tgt := 54) hx hb dX7_knotOf_31 (by decide) (fun hc => ?_) (fun hc => ?_)
        · have hf := ifp hc hf
          refine lv_iconst (v := (nI 0)) hx hb dX7_knotOf_54 ic_0 ?_
          refine lv_ior hx hb dX7_knotOf_55 ?_
          refine lv_istore_n (lv' := [(3, .int (x3 ||| (nI 0))), (0, .ref k0), (1, .int x1), (2, .int x2), (4, .int x4)]) hx hb dX7_knotOf_56 rfl hl (by decide) rfl (fun ls hl => ?_)
          refine lv_iinc (v := (x4 + (nI 1))) (lv' := [(4, .int (x4 + (nI 1))), (3, .int (x3 ||| (nI 0))), (0, .ref k0), (1, .int x1), (2, .int x2)]) hx hb dX7_knotOf_57 hl (k := 4) rfl (ii_1 _) (by decide) rfl (fun ls hl => ?_)
          refine lv_goto (tgt := 13) hx hb dX7_knotOf_60 (by decide) ?_
          exact ih (x3 ||| (nI 0)) (x4 + (nI 1)) hf  ls (lv_sub hl [2, 3, 4, 1, 0] rfl)
        · have hf := ifn hc hf
          refine lv_aload_n hx hb dX7_knotOf_34 rfl (lv_at hl 0 rfl) ?_
          refine lv_iload hx hb dX7_knotOf_35 (lv_at hl 4 rfl) ?_
          obtain ⟨rv3, hrv3, hf⟩ := bd hf
          refine roI (va_runV (As := [.int x4]) (rest := [.int x3]) ⟨hx, hb, hml, hown, hts⟩ (c_X7_leads l D cI cZ cM k0 k1 k2 k3 k4 k5 k6 k7 k_un k_len k_fi k_be k_to k_cl k_do k_ro k_ke k_te k_nu k_na k_no k_tu x4 fu rv3 hrv3) (cwV 1 hts gX7_knotOf_X7_leads rfl rfl rfl ⟨rfl, hdc_X7_leads⟩ ⟨Nat.le_of_ble_eq_true rfl, Nat.le_of_ble_eq_true rfl⟩) (prV hK hP [0, 1, 2, 3, 4, 5, 6, 7] rfl (ci := 7) (q0 := 0) rfl rfl) rfl rfl hl.1 rfl (lv_room (Nat.le_of_ble_eq_true rfl)) dX7_knotOf_37 ⟨Nat.zero_le _, Nat.zero_le _⟩) ?_
          refine lv_iload_n hx hb dX7_knotOf_40 rfl (lv_at hl 1 rfl) ?_
          obtain ⟨rv4, hrv4, hf⟩ := bd hf
          refine roI (va_runS (As := [.int rv3, .int x1]) (rest := [.int x3]) ⟨hx, hb, hml, hown, hts⟩ (c_X7_has l D cI cZ cM rv3 x1 rv4 hrv4) (va_cwS 2 hts gX7_knotOf_X7_has rfl rfl rfl hdc_X7_has ⟨Nat.le_of_ble_eq_true rfl, Nat.le_of_ble_eq_true rfl⟩) (prS hK hP [] rfl) rfl rfl hl.1 rfl (lv_room (Nat.le_of_ble_eq_true rfl)) dX7_knotOf_41 ⟨Nat.zero_le _, Nat.zero_le _⟩) ?_
          refine lv_if_eq (tgt := 54) hx hb dX7_knotOf_44 (by decide) (fun hc => ?_) (fun hc => ?_)
          · have hf := ifp hc hf
            refine lv_iconst (v := (nI 0)) hx hb dX7_knotOf_54 ic_0 ?_
            refine lv_ior hx hb dX7_knotOf_55 ?_
            refine lv_istore_n (lv' := [(3, .int (x3 ||| (nI 0))), (0, .ref k0), (1, .int x1), (2, .int x2), (4, .int x4)]) hx hb dX7_knotOf_56 rfl hl (by decide) rfl (fun ls hl => ?_)
            refine lv_iinc (v := (x4 + (nI 1))) (lv' := [(4, .int (x4 + (nI 1))), (3, .int (x3 ||| (nI 0))), (0, .ref k0), (1, .int x1), (2, .int x2)]) hx hb dX7_knotOf_57 hl (k := 4) rfl (ii_1 _) (by decide) rfl (fun ls hl => ?_)
            refine lv_goto (tgt := 13) hx hb dX7_knotOf_60 (by decide) ?_
            exact ih (x3 ||| (nI 0)) (x4 + (nI 1)) hf  ls (lv_sub hl [2, 3, 4, 1, 0] rfl)
          · have hf := ifn hc hf
            refine lv_iconst (v := (nI 1)) hx hb dX7_knotOf_47 ic_1 ?_
            refine lv_iload hx hb dX7_knotOf_48 (lv_at hl 4 rfl) ?_
            refine lv_ishl hx hb dX7_knotOf_50 ?_
            refine lv_goto (tgt := 55) hx hb dX7_knotOf_51 (by decide) ?_
            refine lv_ior hx hb dX7_knotOf_55 ?_
            refine lv_istore_n (lv' := [(3, .int (x3 ||| ((nI 1) <<< (x4 &&& 31)))), (0, .ref k0), (1, .int x1), (2, .int x2), (4, .int x4)]) hx hb dX7_knotOf_56 rfl hl (by decide) rfl (fun ls hl => ?_)
            refine lv_iinc (v := (x4 + (nI 1))) (lv' := [(4, .int (x4 + (nI 1))), (3, .int (x3 ||| ((nI 1) <<< (x4 &&& 31)))), (0, .ref k0), (1, .int x1), (2, .int x2)]) hx hb dX7_knotOf_57 hl (k := 4) rfl (ii_1 _) (by decide) rfl (fun ls hl => ?_)
            refine lv_goto (tgt := 13) hx hb dX7_knotOf_60 (by decide) ?_
            exact ih (x3 ||| ((nI 1) <<< (x4 &&& 31))) (x4 + (nI 1)) hf  ls (lv_sub hl [2, 3, 4, 1, 0] rfl)
  have hl := lv_entry ([.ref k0, .int x1]) (n := 5) (Nat.le_of_ble_eq_true rfl)
  rw [lg_entry_eq]
  generalize (lg_sl ([.ref k0, .int x1]) ++ List.replicate (5 - (lg_sl ([.ref k0, .int x1])).length) Slot.unset).toArray = ls at hl ⊢
  have hl : lv_has ls 5 [(0, .ref k0), (1, .int x1)] := hl
  unfold m_X7_knotOf at hf
  refine lv_aload_n hx hb dX7_knotOf_0 rfl (lv_at hl 0 rfl) ?_
  refine lv_iload_n hx hb dX7_knotOf_1 rfl (lv_at hl 1 rfl) ?_
  obtain ⟨rv1, hrv1, hf⟩ := bd hf
  refine roI (va_runV (As := [.int x1]) (rest := []) ⟨hx, hb, hml, hown, hts⟩ (c_X7_leads l D cI cZ cM k0 k1 k2 k3 k4 k5 k6 k7 k_un k_len k_fi k_be k_to k_cl k_do k_ro k_ke k_te k_nu k_na k_no k_tu x1 fu rv1 hrv1) (cwV 1 hts gX7_knotOf_X7_leads rfl rfl rfl ⟨rfl, hdc_X7_leads⟩ ⟨Nat.le_of_ble_eq_true rfl, Nat.le_of_ble_eq_true rfl⟩) (prV hK hP [0, 1, 2, 3, 4, 5, 6, 7] rfl (ci := 7) (q0 := 0) rfl rfl) rfl rfl hl.1 rfl (lv_room (Nat.le_of_ble_eq_true rfl)) dX7_knotOf_2 ⟨Nat.zero_le _, Nat.zero_le _⟩) ?_
  refine lv_istore_n (lv' := [(2, .int rv1), (0, .ref k0), (1, .int x1)]) hx hb dX7_knotOf_5 rfl hl (by decide) rfl (fun ls hl => ?_)
  refine lv_iconst (v := (nI 1)) hx hb dX7_knotOf_6 ic_1 ?_
  refine lv_iload_n hx hb dX7_knotOf_7 rfl (lv_at hl 2 rfl) ?_
  refine lv_ishl hx hb dX7_knotOf_8 ?_
  refine lv_istore_n (lv' := [(3, .int ((nI 1) <<< (x1 &&& 31))), (2, .int rv1), (0, .ref k0), (1, .int x1)]) hx hb dX7_knotOf_9 rfl hl (by decide) rfl (fun ls hl => ?_)
  refine lv_iconst (v := (nI 0)) hx hb dX7_knotOf_10 ic_0 ?_
  refine lv_istore (lv' := [(4, .int (nI 0)), (3, .int ((nI 1) <<< (x1 &&& 31))), (2, .int rv1), (0, .ref k0), (1, .int x1)]) hx hb dX7_knotOf_11 hl (by decide) rfl (fun ls hl => ?_)
  exact hB_13 rv1 fu ((nI 1) <<< (x1 &&& 31)) (nI 0) hf  ls (lv_sub hl [3, 4, 2, 1, 0] rfl)
theorem hdc_X7_knots : yX7_knots.cls ≠ "java/lang/invoke/MethodHandle" ∧ yX7_knots.cls ≠ "java/lang/invoke/VarHandle" ∧ (parseMethodDescriptor yX7_knots.desc).map (fun d => d.parameters.length) = some 0 := by decide +kernel
set_option maxHeartbeats 4000000 in
set_option maxRecDepth 100000 in
theorem c_X7_knots (l : Launch) (D : va_G) (cI cZ cM : ClassId) (k0 k1 k2 k3 k4 k5 k6 k7 : Nat) (k_un : Int32) (k_len : Int32) (k_fi : Int32) (k_be : Int32) (k_to : Int32) (k_cl : Int32) (k_do : Int32) (k_ro : Nat → Int32) (k_ke : Nat → Int32) (k_te : Nat → Int32) (k_nu : Nat → Int32) (k_na : Nat → Int32) (k_no : Nat → Int32) (k_tu : Nat → Int32) (fu : Nat) (r : Int32) (hf : m_X7_knots fu k_ro = some r) : Met l yX7_knots wsX7_knots ({ frames := 4, cells := 0, slots := 0, locals := 92 }) (pR D cI cZ cM [(k0, .inr (7, [.ref k1, .int k_un, .ref k2, .ref k3, .int k_len, .int k_fi, .int k_be, .int k_to, .int k_cl, .int k_do, .ref k4, .ref k5, .ref k6, .ref k7])), (k1, .inl (cI, 583, .inl k_ro)), (k2, .inl (cZ, 2, .inl k_ke)), (k3, .inl (cI, 200, .inl k_te)), (k4, .inl (cI, 10, .inl k_nu)), (k5, .inl (cI, 48, .inl k_na)), (k6, .inl (cI, 1024, .inl k_no)), (k7, .inl (cI, 1024, .inl k_tu))] [.ref k0]) (qR r) 0 0 (fun _ => False) := by
  refine Met.ofW (cc := cX7_knots) (maxL := 4) (ret := (some .int)) (by decide) rfl ?_
  intro p e s m args below meth c s₁ B hml hv
  obtain ⟨rfl, hP, hK⟩ := hv
  have hx := B.exec
  have hb := B.bytes
  have hr := B.returns
  have hts := atoms_spec (ws := wsX7_knots) B.pre
  have hown : s.vm.findClass RX7 = some m.cls := findClass_of_methodNamed B.named
  have hlocks := B.notSynchronized
  have hfl_7 := hts (.fieldLink RX7 7 "TermsFirstModel" "rows" "[I") (List.mem_cons_of_mem _ (List.mem_append_left _ (List.mem_of_getElem? (i := 0) rfl)))
  have hiX7 : ∀ w ∈ u_ws RX7 TX7 14, w ∈ wsX7_knots := fun _ h => (List.mem_cons_of_mem _ (List.mem_append_right _ h))
  have hB_4 : ∀ (fn : Nat) (x1 : Int32) (x2 : Int32), m_X7_knots_4 fu k_ro fn x1 x2 = some r → ∀ ls : Array Slot, lv_has ls 4 [(0, .ref k0), (1, .int x1), (2, .int x2)] → W p l e (headSpec wsX7_knots { frames := 4, cells := 0, slots := 0, locals := 92 }).room s m ([.ref k0] : List Value).toArray below meth c s.heap [] 0 0 (MQ below (qR r) ([.ref k0] : List Value).toArray s 0 0 (fun _ => False)) (F0 m 4 ls []) := by
    intro fn
    induction fn with
    | zero => intro x1 x2 hf; rw [m_X7_knots_4] at hf; cases hf
    | succ fn ih =>
      intro x1 x2 hf ls hl
      rw [m_X7_knots_4] at hf
      refine lv_iload_n hx hb dX7_knots_4 rfl (lv_at hl 2 rfl) ?_
      refine lv_aload_n hx hb dX7_knots_5 rfl (lv_at hl 0 rfl) ?_
      refine va_get (D := D) (ci := 7) (v := .ref k1) (C := RX7) (T := TX7) (N := 14) hx hb hts hiX7 hown hK.1 hP 0 rfl rfl 0 (by decide) hfl_7 (fun _ h9 => h9) rfl dX7_knots_6 ?_
      refine lv_iconst (v := (nI 0)) hx hb dX7_knots_9 ic_0 ?_
      obtain ⟨hi, hf⟩ := gd_some hf
      refine va_iald hx hb hK.1 hP 1 0 rfl rfl hi dX7_knots_10 ?_
      refine lv_icmp_ge (tgt := 52) hx hb dX7_knots_11 (by decide) (fun hc => ?_) (fun hc => ?_)
      · have hf := ifp hc hf
        refine lv_iload_n hx hb dX7_knots_52 rfl (lv_at hl 1 rfl) ?_
        cases hf
        exact W.iret hx hb hr (fun t ht _ => ⟨rfl, ht⟩) (fun _ h => nomatch h) dX7_knots_53
      · have hf := ifn hc hf
        refine lv_aload_n hx hb dX7_knots_14 rfl (lv_at hl 0 rfl) ?_
        refine lv_iload_n hx hb dX7_knots_15 rfl (lv_at hl 2 rfl) ?_
        obtain ⟨rv1, hrv1, hf⟩ := bd hf
        refine roI (va_runV (As := [.int x2]) (rest := []) ⟨hx, hb, hml, hown, hts⟩ (c_X7_knotOf l D cI cZ cM k0 k1 k2 k3 k4 k5 k6 k7 k_un k_len k_fi k_be k_to k_cl k_do k_ro k_ke k_te k_nu k_na k_no k_tu x2 fu rv1 hrv1) (cwV 1 hts gX7_knots_X7_knotOf rfl rfl rfl ⟨rfl, hdc_X7_knotOf⟩ ⟨Nat.le_of_ble_eq_true rfl, Nat.le_of_ble_eq_true rfl⟩) (prV hK hP [0, 1, 2, 3, 4, 5, 6, 7] rfl (ci := 7) (q0 := 0) rfl rfl) rfl rfl hl.1 rfl (lv_room (Nat.le_of_ble_eq_true rfl)) dX7_knots_16 ⟨Nat.zero_le _, Nat.zero_le _⟩) ?_
        refine lv_istore_n (lv' := [(3, .int rv1), (0, .ref k0), (1, .int x1), (2, .int x2)]) hx hb dX7_knots_19 rfl hl (by decide) rfl (fun ls hl => ?_)
        refine lv_iload_n hx hb dX7_knots_20 rfl (lv_at hl 2 rfl) ?_
        refine lv_iload_n hx hb dX7_knots_21 rfl (lv_at hl 0 rfl) ?_
        obtain ⟨rv2, hrv2, hf⟩ := bd hf
        refine roI (va_runS (As := [.int rv1]) (rest := [.int x1]) ⟨hx, hb, hml, hown, hts⟩ (c_X7_ones l D cI cZ cM rv1 fu rv2 hrv2) (va_cwS 1 hts gX7_knots_X7_ones rfl rfl rfl hdc_X7_ones ⟨Nat.le_of_ble_eq_true rfl, Nat.le_of_ble_eq_true rfl⟩) (prS hK hP [] rfl) rfl rfl hl.1 rfl (lv_room (Nat.le_of_ble_eq_true rfl)) dX7_knots_22 ⟨Nat.zero_le _, Nat.zero_le _⟩) ?_
        refine lv_iconst (v := (nI 1)) hx hb dX7_knots_25 ic_1 ?_
        refine lv_icmp_le (tgt := 43) hx hb dX7_knots_26 (by decide) (fun hc => ?_) (fun hc => ?_)
        · have hf := ifp hc hf
          refine lv_iconst (v := (nI 0)) hx hb dX7_knots_43 ic_0 ?_
          refine lv_iadd hx hb dX7_knots_44 ?_
          refine lv_istore_n (lv' := [(1, .int (x1 + (nI 0))), (3, .int rv1), (0, .ref k0), (2, .int x2)]) hx hb dX7_knots_45 rfl hl (by decide) rfl (fun ls hl => ?_)
          refine lv_iinc (v := (x2 + (nI 1))) (lv' := [(2, .int (x2 + (nI 1))), (1, .int (x1 + (nI 0))), (3, .int rv1), (0, .ref k0)]) hx hb dX7_knots_46 hl (k := 3) rfl (ii_1 _) (by decide) rfl (fun ls hl => ?_)
          refine lv_goto (tgt := 4) hx hb dX7_knots_49 (by decide) ?_
          exact ih (x1 + (nI 0)) (x2 + (nI 1)) hf  ls (lv_sub hl [3, 1, 0] rfl)
        · have hf := ifn hc hf
          refine lv_iload_n hx hb dX7_knots_29 rfl (lv_at hl 0 rfl) ?_
          refine lv_iload_n hx hb dX7_knots_30 rfl (lv_at hl 0 rfl) ?_
          refine lv_ineg hx hb dX7_knots_31 ?_
          refine lv_iand hx hb dX7_knots_32 ?_
          refine lv_iconst (v := (nI 1)) hx hb dX7_knots_33 ic_1 ?_
          refine lv_iload_n hx hb dX7_knots_34 rfl (lv_at hl 3 rfl) ?_
          refine lv_ishl hx hb dX7_knots_35 ?_
          refine lv_icmp_ne (tgt := 43) hx hb dX7_knots_36 (by decide) (fun hc => ?_) (fun hc => ?_)
          · have hf := ifn hc hf
            refine lv_iconst (v := (nI 0)) hx hb dX7_knots_43 ic_0 ?_
            refine lv_iadd hx hb dX7_knots_44 ?_
            refine lv_istore_n (lv' := [(1, .int (x1 + (nI 0))), (3, .int rv1), (0, .ref k0), (2, .int x2)]) hx hb dX7_knots_45 rfl hl (by decide) rfl (fun ls hl => ?_)
            refine lv_iinc (v := (x2 + (nI 1))) (lv' := [(2, .int (x2 + (nI 1))), (1, .int (x1 + (nI 0))), (3, .int rv1), (0, .ref k0)]) hx hb dX7_knots_46 hl (k := 3) rfl (ii_1 _) (by decide) rfl (fun ls hl => ?_)
            refine lv_goto (tgt := 4) hx hb dX7_knots_49 (by decide) ?_
            exact ih (x1 + (nI 0)) (x2 + (nI 1)) hf  ls (lv_sub hl [3, 1, 0] rfl)
          · have hf := ifp hc hf
            refine lv_iconst (v := (nI 1)) hx hb dX7_knots_39 ic_1 ?_
            refine lv_goto (tgt := 44) hx hb dX7_knots_40 (by decide) ?_
            refine lv_iadd hx hb dX7_knots_44 ?_
            refine lv_istore_n (lv' := [(1, .int (x1 + (nI 1))), (3, .int rv1), (0, .ref k0), (2, .int x2)]) hx hb dX7_knots_45 rfl hl (by decide) rfl (fun ls hl => ?_)
            refine lv_iinc (v := (x2 + (nI 1))) (lv' := [(2, .int (x2 + (nI 1))), (1, .int (x1 + (nI 1))), (3, .int rv1), (0, .ref k0)]) hx hb dX7_knots_46 hl (k := 3) rfl (ii_1 _) (by decide) rfl (fun ls hl => ?_)
            refine lv_goto (tgt := 4) hx hb dX7_knots_49 (by decide) ?_
            exact ih (x1 + (nI 1)) (x2 + (nI 1)) hf  ls (lv_sub hl [3, 1, 0] rfl)
  have hl := lv_entry ([.ref k0]) (n := 4) (Nat.le_of_ble_eq_true rfl)
  rw [lg_entry_eq]
  generalize (lg_sl ([.ref k0]) ++ List.replicate (4 - (lg_sl ([.ref k0])).length) Slot.unset).toArray = ls at hl ⊢
  have hl : lv_has ls 4 [(0, .ref k0)] := hl
  unfold m_X7_knots at hf
  refine lv_iconst (v := (nI 0)) hx hb dX7_knots_0 ic_0 ?_
  refine lv_istore_n (lv' := [(1, .int (nI 0)), (0, .ref k0)]) hx hb dX7_knots_1 rfl hl (by decide) rfl (fun ls hl => ?_)
  refine lv_iconst (v := (nI 0)) hx hb dX7_knots_2 ic_0 ?_
  refine lv_istore_n (lv' := [(2, .int (nI 0)), (1, .int (nI 0)), (0, .ref k0)]) hx hb dX7_knots_3 rfl hl (by decide) rfl (fun ls hl => ?_)
  exact hB_4 fu (nI 0) (nI 0) hf  ls (lv_sub hl [2, 1, 0] rfl)
theorem hdc_X7_stepsTo : yX7_stepsTo.cls ≠ "java/lang/invoke/MethodHandle" ∧ yX7_stepsTo.cls ≠ "java/lang/invoke/VarHandle" ∧ (parseMethodDescriptor yX7_stepsTo.desc).map (fun d => d.parameters.length) = some 2 := by decide +kernel
set_option maxHeartbeats 4000000 in
set_option maxRecDepth 100000 in
theorem c_X7_stepsTo (l : Launch) (D : va_G) (cI cZ cM : ClassId) (k0 k1 k2 k3 k4 k5 k6 k7 : Nat) (k_un : Int32) (k_len : Int32) (k_fi : Int32) (k_be : Int32) (k_to : Int32) (k_cl : Int32) (k_do : Int32) (k_ro : Nat → Int32) (k_ke : Nat → Int32) (k_te : Nat → Int32) (k_nu : Nat → Int32) (k_na : Nat → Int32) (k_no : Nat → Int32) (k_tu : Nat → Int32) (x1 : Int32) (x2 : Int32) (fu : Nat) (r : Int32) (hf : m_X7_stepsTo fu k_ro x1 x2 = some r) : Met l yX7_stepsTo wsX7_stepsTo ({ frames := 2, cells := 0, slots := 0, locals := 44 }) (pR D cI cZ cM [(k0, .inr (7, [.ref k1, .int k_un, .ref k2, .ref k3, .int k_len, .int k_fi, .int k_be, .int k_to, .int k_cl, .int k_do, .ref k4, .ref k5, .ref k6, .ref k7])), (k1, .inl (cI, 583, .inl k_ro)), (k2, .inl (cZ, 2, .inl k_ke)), (k3, .inl (cI, 200, .inl k_te)), (k4, .inl (cI, 10, .inl k_nu)), (k5, .inl (cI, 48, .inl k_na)), (k6, .inl (cI, 1024, .inl k_no)), (k7, .inl (cI, 1024, .inl k_tu))] [.ref k0, .int x1, .int x2]) (qR r) 0 0 (fun _ => False) := by
  refine Met.ofW (cc := cX7_stepsTo) (maxL := 7) (ret := (some .int)) (by decide) rfl ?_
  intro p e s m args below meth c s₁ B hml hv
  obtain ⟨rfl, hP, hK⟩ := hv
  have hx := B.exec
  have hb := B.bytes
  have hr := B.returns
  have hts := atoms_spec (ws := wsX7_stepsTo) B.pre
  have hown : s.vm.findClass RX7 = some m.cls := findClass_of_methodNamed B.named
  have hlocks := B.notSynchronized
  have hfl_7 := hts (.fieldLink RX7 7 "TermsFirstModel" "rows" "[I") (List.mem_cons_of_mem _ (List.mem_append_left _ (List.mem_of_getElem? (i := 0) rfl)))
  have hiX7 : ∀ w ∈ u_ws RX7 TX7 14, w ∈ wsX7_stepsTo := fun _ h => (List.mem_cons_of_mem _ (List.mem_append_right _ h))
  have hB_37 : ∀ (x3 : Int32) (x4 : Int32) (kt9 : Int32 → Int32 → Option (Int32)) (hkt9 : ∀ (x3 : Int32) (x4 : Int32), kt9 x3 x4 = some r → ∀ ls : Array Slot, lv_has ls 7 [(0, .ref k0), (2, .int x2), (3, .int x3), (4, .int x4)] → W p l e (headSpec wsX7_stepsTo { frames := 2, cells := 0, slots := 0, locals := 44 }).room s m ([.ref k0, .int x1, .int x2] : List Value).toArray below meth c s.heap [] 0 0 (MQ below (qR r) ([.ref k0, .int x1, .int x2] : List Value).toArray s 0 0 (fun _ => False)) (F0 m 9 ls [])) (fn : Nat) (x5 : Int32) (x6 : Int32), m_X7_stepsTo_37 fu k_ro x3 x4 kt9 fn x5 x6 = some r → ∀ ls : Array Slot, lv_has ls 7 [(0, .ref k0), (2, .int x2), (3, .int x3), (4, .int x4), (5, .int x5), (6, .int x6)] → W p l e (headSpec wsX7_stepsTo { frames := 2, cells := 0, slots := 0, locals := 44 }).room s m ([.ref k0, .int x1, .int x2] : List Value).toArray below meth c s.heap [] 0 0 (MQ below (qR r) ([.ref k0, .int x1, .int x2] : List Value).toArray s 0 0 (fun _ => False)) (F0 m 37 ls []) := by
    intro x3 x4 kt9 hkt9 fn
    induction fn with
    | zero => intro x5 x6 hf; rw [m_X7_stepsTo_37] at hf; cases hf
    | succ fn ih =>
      intro x5 x6 hf ls hl
      rw [m_X7_stepsTo_37] at hf
      refine lv_iload hx hb dX7_stepsTo_37 (lv_at hl 5 rfl) ?_
      refine lv_aload_n hx hb dX7_stepsTo_39 rfl (lv_at hl 0 rfl) ?_
      refine va_get (D := D) (ci := 7) (v := .ref k1) (C := RX7) (T := TX7) (N := 14) hx hb hts hiX7 hown hK.1 hP 0 rfl rfl 0 (by decide) hfl_7 (fun _ h9 => h9) rfl dX7_stepsTo_40 ?_
      refine lv_iconst (v := (nI 0)) hx hb dX7_stepsTo_43 ic_0 ?_
      obtain ⟨hi, hf⟩ := gd_some hf
      refine va_iald hx hb hK.1 hP 1 0 rfl rfl hi dX7_stepsTo_44 ?_
      refine lv_icmp_ge (tgt := 78) hx hb dX7_stepsTo_45 (by decide) (fun hc => ?_) (fun hc => ?_)
      · have hf := ifp hc hf
        refine lv_iload hx hb dX7_stepsTo_78 (lv_at hl 4 rfl) ?_
        refine lv_istore_n (lv' := [(3, .int x5), (0, .ref k0), (2, .int x2), (4, .int x4), (5, .int x5), (6, .int x6)]) hx hb dX7_stepsTo_80 rfl hl (by decide) rfl (fun ls hl => ?_)
        refine lv_iinc (v := (x4 + (nI 1))) (lv' := [(4, .int (x4 + (nI 1))), (3, .int x5), (0, .ref k0), (2, .int x2), (5, .int x5), (6, .int x6)]) hx hb dX7_stepsTo_81 hl (k := 3) rfl (ii_1 _) (by decide) rfl (fun ls hl => ?_)
        refine lv_goto (tgt := 9) hx hb dX7_stepsTo_84 (by decide) ?_
        exact hkt9 x5 (x4 + (nI 1)) hf  ls (lv_sub hl [2, 3, 1, 0] rfl)
      · have hf := ifn hc hf
        refine lv_iload hx hb dX7_stepsTo_48 (lv_at hl 4 rfl) ?_
        refine lv_iload_n hx hb dX7_stepsTo_50 rfl (lv_at hl 2 rfl) ?_
        refine lv_iload hx hb dX7_stepsTo_51 (lv_at hl 5 rfl) ?_
        obtain ⟨rv3, hrv3, hf⟩ := bd hf
        refine roI (va_runS (As := [.int x3, .int x6]) (rest := [.int x5]) ⟨hx, hb, hml, hown, hts⟩ (c_X7_has l D cI cZ cM x3 x6 rv3 hrv3) (va_cwS 2 hts gX7_stepsTo_X7_has rfl rfl rfl hdc_X7_has ⟨Nat.le_of_ble_eq_true rfl, Nat.le_of_ble_eq_true rfl⟩) (prS hK hP [] rfl) rfl rfl hl.1 rfl (lv_room (Nat.le_of_ble_eq_true rfl)) dX7_stepsTo_53 ⟨Nat.zero_le _, Nat.zero_le _⟩) ?_
        refine lv_if_eq (tgt := 68) hx hb dX7_stepsTo_56 (by decide) (fun hc => ?_) (fun hc => ?_)
        · have hf := ifp hc hf
          refine lv_iconst (v := (nI 0)) hx hb dX7_stepsTo_68 ic_0 ?_
          refine lv_ior hx hb dX7_stepsTo_69 ?_
          refine lv_istore (lv' := [(5, .int (x5 ||| (nI 0))), (0, .ref k0), (2, .int x2), (3, .int x3), (4, .int x4), (6, .int x6)]) hx hb dX7_stepsTo_70 hl (by decide) rfl (fun ls hl => ?_)
          refine lv_iinc (v := (x6 + (nI 1))) (lv' := [(6, .int (x6 + (nI 1))), (5, .int (x5 ||| (nI 0))), (0, .ref k0), (2, .int x2), (3, .int x3), (4, .int x4)]) hx hb dX7_stepsTo_72 hl (k := 5) rfl (ii_1 _) (by decide) rfl (fun ls hl => ?_)
          refine lv_goto (tgt := 37) hx hb dX7_stepsTo_75 (by decide) ?_
          exact ih (x5 ||| (nI 0)) (x6 + (nI 1)) hf  ls (lv_sub hl [2, 3, 4, 5, 1, 0] rfl)
        · have hf := ifn hc hf
          refine lv_aload_n hx hb dX7_stepsTo_59 rfl (lv_at hl 0 rfl) ?_
          refine lv_iload hx hb dX7_stepsTo_60 (lv_at hl 5 rfl) ?_
          obtain ⟨rv4, hrv4, hf⟩ := bd hf
          refine roI (va_runV (As := [.int x6]) (rest := [.int x5]) ⟨hx, hb, hml, hown, hts⟩ (c_X7_needs l D cI cZ cM k0 k1 k2 k3 k4 k5 k6 k7 k_un k_len k_fi k_be k_to k_cl k_do k_ro k_ke k_te k_nu k_na k_no k_tu x6 fu rv4 hrv4) (cwV 1 hts gX7_stepsTo_X7_needs rfl rfl rfl ⟨rfl, hdc_X7_needs⟩ ⟨Nat.le_of_ble_eq_true rfl, Nat.le_of_ble_eq_true rfl⟩) (prV hK hP [0, 1, 2, 3, 4, 5, 6, 7] rfl (ci := 7) (q0 := 0) rfl rfl) rfl rfl hl.1 rfl (lv_room (Nat.le_of_ble_eq_true rfl)) dX7_stepsTo_62 ⟨Nat.zero_le _, Nat.zero_le _⟩) ?_
          refine lv_goto (tgt := 69) hx hb dX7_stepsTo_65 (by decide) ?_
          refine lv_ior hx hb dX7_stepsTo_69 ?_
          refine lv_istore (lv' := [(5, .int (x5 ||| rv4)), (0, .ref k0), (2, .int x2), (3, .int x3), (4, .int x4), (6, .int x6)]) hx hb dX7_stepsTo_70 hl (by decide) rfl (fun ls hl => ?_)
          refine lv_iinc (v := (x6 + (nI 1))) (lv' := [(6, .int (x6 + (nI 1))), (5, .int (x5 ||| rv4)), (0, .ref k0), (2, .int x2), (3, .int x3), (4, .int x4)]) hx hb dX7_stepsTo_72 hl (k := 5) rfl (ii_1 _) (by decide) rfl (fun ls hl => ?_)
          refine lv_goto (tgt := 37) hx hb dX7_stepsTo_75 (by decide) ?_
          exact ih (x5 ||| rv4) (x6 + (nI 1)) hf  ls (lv_sub hl [2, 3, 4, 5, 1, 0] rfl)
  have hB_9 : ∀ (fn : Nat) (x3 : Int32) (x4 : Int32), m_X7_stepsTo_9 fu k_ro x2 fn x3 x4 = some r → ∀ ls : Array Slot, lv_has ls 7 [(0, .ref k0), (2, .int x2), (3, .int x3), (4, .int x4)] → W p l e (headSpec wsX7_stepsTo { frames := 2, cells := 0, slots := 0, locals := 44 }).room s m ([.ref k0, .int x1, .int x2] : List Value).toArray below meth c s.heap [] 0 0 (MQ below (qR r) ([.ref k0, .int x1, .int x2] : List Value).toArray s 0 0 (fun _ => False)) (F0 m 9 ls []) := by
    intro fn
    induction fn with
    | zero => intro x3 x4 hf; rw [m_X7_stepsTo_9] at hf; cases hf
    | succ fn ih =>
      intro x3 x4 hf ls hl
      rw [m_X7_stepsTo_9] at hf
      refine lv_iload hx hb dX7_stepsTo_9 (lv_at hl 3 rfl) ?_
      refine lv_aload_n hx hb dX7_stepsTo_11 rfl (lv_at hl 0 rfl) ?_
      refine va_get (D := D) (ci := 7) (v := .ref k1) (C := RX7) (T := TX7) (N := 14) hx hb hts hiX7 hown hK.1 hP 0 rfl rfl 0 (by decide) hfl_7 (fun _ h9 => h9) rfl dX7_stepsTo_12 ?_
      refine lv_iconst (v := (nI 0)) hx hb dX7_stepsTo_15 ic_0 ?_
      obtain ⟨hi, hf⟩ := gd_some hf
      refine va_iald hx hb hK.1 hP 1 0 rfl rfl hi dX7_stepsTo_16 ?_
      refine lv_icmp_gt (tgt := 87) hx hb dX7_stepsTo_17 (by decide) (fun hc => ?_) (fun hc => ?_)
      · have hf := ifp hc hf
        refine lv_iconst (v := (-1 : Int32)) hx hb dX7_stepsTo_87 ic_m1 ?_
        cases hf
        exact W.iret hx hb hr (fun t ht _ => ⟨rfl, ht⟩) (fun _ h => nomatch h) dX7_stepsTo_88
      · have hf := ifn hc hf
        refine lv_iload_n hx hb dX7_stepsTo_20 rfl (lv_at hl 2 rfl) ?_
        refine lv_iload_n hx hb dX7_stepsTo_21 rfl (lv_at hl 1 rfl) ?_
        obtain ⟨rv2, hrv2, hf⟩ := bd hf
        refine roI (va_runS (As := [.int x3, .int x2]) (rest := []) ⟨hx, hb, hml, hown, hts⟩ (c_X7_has l D cI cZ cM x3 x2 rv2 hrv2) (va_cwS 2 hts gX7_stepsTo_X7_has rfl rfl rfl hdc_X7_has ⟨Nat.le_of_ble_eq_true rfl, Nat.le_of_ble_eq_true rfl⟩) (prS hK hP [] rfl) rfl rfl hl.1 rfl (lv_room (Nat.le_of_ble_eq_true rfl)) dX7_stepsTo_22 ⟨Nat.zero_le _, Nat.zero_le _⟩) ?_
        refine lv_if_eq (tgt := 31) hx hb dX7_stepsTo_25 (by decide) (fun hc => ?_) (fun hc => ?_)
        · have hf := ifp hc hf
          refine lv_iconst (v := (nI 0)) hx hb dX7_stepsTo_31 ic_0 ?_
          refine lv_istore (lv' := [(5, .int (nI 0)), (0, .ref k0), (2, .int x2), (3, .int x3), (4, .int x4)]) hx hb dX7_stepsTo_32 hl (by decide) rfl (fun ls hl => ?_)
          refine lv_iconst (v := (nI 0)) hx hb dX7_stepsTo_34 ic_0 ?_
          refine lv_istore (lv' := [(6, .int (nI 0)), (5, .int (nI 0)), (0, .ref k0), (2, .int x2), (3, .int x3), (4, .int x4)]) hx hb dX7_stepsTo_35 hl (by decide) rfl (fun ls hl => ?_)
          exact hB_37 x3 x4 _ ih fu (nI 0) (nI 0) hf  ls (lv_sub hl [2, 3, 4, 5, 1, 0] rfl)
        · have hf := ifn hc hf
          refine lv_iload hx hb dX7_stepsTo_28 (lv_at hl 3 rfl) ?_
          cases hf
          exact W.iret hx hb hr (fun t ht _ => ⟨rfl, ht⟩) (fun _ h => nomatch h) dX7_stepsTo_30
  have hl := lv_entry ([.ref k0, .int x1, .int x2]) (n := 7) (Nat.le_of_ble_eq_true rfl)
  rw [lg_entry_eq]
  generalize (lg_sl ([.ref k0, .int x1, .int x2]) ++ List.replicate (7 - (lg_sl ([.ref k0, .int x1, .int x2])).length) Slot.unset).toArray = ls at hl ⊢
  have hl : lv_has ls 7 [(0, .ref k0), (1, .int x1), (2, .int x2)] := hl
  unfold m_X7_stepsTo at hf
  refine lv_aload_n hx hb dX7_stepsTo_0 rfl (lv_at hl 0 rfl) ?_
  refine lv_iload_n hx hb dX7_stepsTo_1 rfl (lv_at hl 1 rfl) ?_
  obtain ⟨rv1, hrv1, hf⟩ := bd hf
  refine roI (va_runV (As := [.int x1]) (rest := []) ⟨hx, hb, hml, hown, hts⟩ (c_X7_needs l D cI cZ cM k0 k1 k2 k3 k4 k5 k6 k7 k_un k_len k_fi k_be k_to k_cl k_do k_ro k_ke k_te k_nu k_na k_no k_tu x1 fu rv1 hrv1) (cwV 1 hts gX7_stepsTo_X7_needs rfl rfl rfl ⟨rfl, hdc_X7_needs⟩ ⟨Nat.le_of_ble_eq_true rfl, Nat.le_of_ble_eq_true rfl⟩) (prV hK hP [0, 1, 2, 3, 4, 5, 6, 7] rfl (ci := 7) (q0 := 0) rfl rfl) rfl rfl hl.1 rfl (lv_room (Nat.le_of_ble_eq_true rfl)) dX7_stepsTo_2 ⟨Nat.zero_le _, Nat.zero_le _⟩) ?_
  refine lv_istore_n (lv' := [(3, .int rv1), (0, .ref k0), (1, .int x1), (2, .int x2)]) hx hb dX7_stepsTo_5 rfl hl (by decide) rfl (fun ls hl => ?_)
  refine lv_iconst (v := (nI 1)) hx hb dX7_stepsTo_6 ic_1 ?_
  refine lv_istore (lv' := [(4, .int (nI 1)), (3, .int rv1), (0, .ref k0), (1, .int x1), (2, .int x2)]) hx hb dX7_stepsTo_7 hl (by decide) rfl (fun ls hl => ?_)
  exact hB_9 fu rv1 (nI 1) hf  ls (lv_sub hl [2, 4, 1, 0] rfl)
theorem hdc_X7_ringMany : yX7_ringMany.cls ≠ "java/lang/invoke/MethodHandle" ∧ yX7_ringMany.cls ≠ "java/lang/invoke/VarHandle" ∧ (parseMethodDescriptor yX7_ringMany.desc).map (fun d => d.parameters.length) = some 0 := by decide +kernel
set_option maxHeartbeats 4000000 in
set_option maxRecDepth 100000 in
theorem c_X7_ringMany (l : Launch) (D : va_G) (cI cZ cM : ClassId) (k0 k1 k2 k3 k4 k5 k6 k7 : Nat) (k_un : Int32) (k_len : Int32) (k_fi : Int32) (k_be : Int32) (k_to : Int32) (k_cl : Int32) (k_do : Int32) (k_ro : Nat → Int32) (k_ke : Nat → Int32) (k_te : Nat → Int32) (k_nu : Nat → Int32) (k_na : Nat → Int32) (k_no : Nat → Int32) (k_tu : Nat → Int32) (fu : Nat) (r : Int32) (hf : m_X7_ringMany fu k_ro = some r) : Met l yX7_ringMany wsX7_ringMany ({ frames := 3, cells := 0, slots := 0, locals := 70 }) (pR D cI cZ cM [(k0, .inr (7, [.ref k1, .int k_un, .ref k2, .ref k3, .int k_len, .int k_fi, .int k_be, .int k_to, .int k_cl, .int k_do, .ref k4, .ref k5, .ref k6, .ref k7])), (k1, .inl (cI, 583, .inl k_ro)), (k2, .inl (cZ, 2, .inl k_ke)), (k3, .inl (cI, 200, .inl k_te)), (k4, .inl (cI, 10, .inl k_nu)), (k5, .inl (cI, 48, .inl k_na)), (k6, .inl (cI, 1024, .inl k_no)), (k7, .inl (cI, 1024, .inl k_tu))] [.ref k0]) (qR r) 0 0 (fun _ => False) := by
  refine Met.ofW (cc := cX7_ringMany) (maxL := 4) (ret := (some .int)) (by decide) rfl ?_
  intro p e s m args below meth c s₁ B hml hv
  obtain ⟨rfl, hP, hK⟩ := hv
  have hx := B.exec
  have hb := B.bytes
  have hr := B.returns
  have hts := atoms_spec (ws := wsX7_ringMany) B.pre
  have hown : s.vm.findClass RX7 = some m.cls := findClass_of_methodNamed B.named
  have hlocks := B.notSynchronized
  have hfl_7 := hts (.fieldLink RX7 7 "TermsFirstModel" "rows" "[I") (List.mem_cons_of_mem _ (List.mem_append_left _ (List.mem_of_getElem? (i := 0) rfl)))
  have hiX7 : ∀ w ∈ u_ws RX7 TX7 14, w ∈ wsX7_ringMany := fun _ h => (List.mem_cons_of_mem _ (List.mem_append_right _ h))
  have hB_4 : ∀ (fn : Nat) (x1 : Int32) (x2 : Int32), m_X7_ringMany_4 fu k_ro fn x1 x2 = some r → ∀ ls : Array Slot, lv_has ls 4 [(0, .ref k0), (1, .int x1), (2, .int x2)] → W p l e (headSpec wsX7_ringMany { frames := 3, cells := 0, slots := 0, locals := 70 }).room s m ([.ref k0] : List Value).toArray below meth c s.heap [] 0 0 (MQ below (qR r) ([.ref k0] : List Value).toArray s 0 0 (fun _ => False)) (F0 m 4 ls []) := by
    intro fn
    induction fn with
    | zero => intro x1 x2 hf; rw [m_X7_ringMany_4] at hf; cases hf
    | succ fn ih =>
      intro x1 x2 hf ls hl
      rw [m_X7_ringMany_4] at hf
      refine lv_iload_n hx hb dX7_ringMany_4 rfl (lv_at hl 2 rfl) ?_
      refine lv_aload_n hx hb dX7_ringMany_5 rfl (lv_at hl 0 rfl) ?_
      refine va_get (D := D) (ci := 7) (v := .ref k1) (C := RX7) (T := TX7) (N := 14) hx hb hts hiX7 hown hK.1 hP 0 rfl rfl 0 (by decide) hfl_7 (fun _ h9 => h9) rfl dX7_ringMany_6 ?_
      refine lv_iconst (v := (nI 0)) hx hb dX7_ringMany_9 ic_0 ?_
      obtain ⟨hi, hf⟩ := gd_some hf
      refine va_iald hx hb hK.1 hP 1 0 rfl rfl hi dX7_ringMany_10 ?_
      refine lv_icmp_ge (tgt := 47) hx hb dX7_ringMany_11 (by decide) (fun hc => ?_) (fun hc => ?_)
      · have hf := ifp hc hf
        refine lv_iload_n hx hb dX7_ringMany_47 rfl (lv_at hl 1 rfl) ?_
        cases hf
        exact W.iret hx hb hr (fun t ht _ => ⟨rfl, ht⟩) (fun _ h => nomatch h) dX7_ringMany_48
      · have hf := ifn hc hf
        refine lv_aload_n hx hb dX7_ringMany_14 rfl (lv_at hl 0 rfl) ?_
        refine lv_iload_n hx hb dX7_ringMany_15 rfl (lv_at hl 2 rfl) ?_
        refine lv_iload_n hx hb dX7_ringMany_16 rfl (lv_at hl 2 rfl) ?_
        obtain ⟨rv1, hrv1, hf⟩ := bd hf
        refine roI (va_runV (As := [.int x2, .int x2]) (rest := []) ⟨hx, hb, hml, hown, hts⟩ (c_X7_stepsTo l D cI cZ cM k0 k1 k2 k3 k4 k5 k6 k7 k_un k_len k_fi k_be k_to k_cl k_do k_ro k_ke k_te k_nu k_na k_no k_tu x2 x2 fu rv1 hrv1) (cwV 2 hts gX7_ringMany_X7_stepsTo rfl rfl rfl ⟨rfl, hdc_X7_stepsTo⟩ ⟨Nat.le_of_ble_eq_true rfl, Nat.le_of_ble_eq_true rfl⟩) (prV hK hP [0, 1, 2, 3, 4, 5, 6, 7] rfl (ci := 7) (q0 := 0) rfl rfl) rfl rfl hl.1 rfl (lv_room (Nat.le_of_ble_eq_true rfl)) dX7_ringMany_17 ⟨Nat.zero_le _, Nat.zero_le _⟩) ?_
        refine lv_istore_n (lv' := [(3, .int rv1), (0, .ref k0), (1, .int x1), (2, .int x2)]) hx hb dX7_ringMany_20 rfl hl (by decide) rfl (fun ls hl => ?_)
        refine lv_iload_n hx hb dX7_ringMany_21 rfl (lv_at hl 0 rfl) ?_
        refine lv_iconst (v := (-1 : Int32)) hx hb dX7_ringMany_22 ic_m1 ?_
        refine lv_icmp_eq (tgt := 39) hx hb dX7_ringMany_23 (by decide) (fun hc => ?_) (fun hc => ?_)
        · have hf := ifp hc hf
          refine lv_iload_n hx hb dX7_ringMany_39 rfl (lv_at hl 2 rfl) ?_
          refine lv_istore_n (lv' := [(1, .int x1), (3, .int rv1), (0, .ref k0), (2, .int x2)]) hx hb dX7_ringMany_40 rfl hl (by decide) rfl (fun ls hl => ?_)
          refine lv_iinc (v := (x2 + (nI 1))) (lv' := [(2, .int (x2 + (nI 1))), (1, .int x1), (3, .int rv1), (0, .ref k0)]) hx hb dX7_ringMany_41 hl (k := 3) rfl (ii_1 _) (by decide) rfl (fun ls hl => ?_)
          refine lv_goto (tgt := 4) hx hb dX7_ringMany_44 (by decide) ?_
          exact ih x1 (x2 + (nI 1)) hf  ls (lv_sub hl [3, 1, 0] rfl)
        · have hf := ifn hc hf
          refine lv_iload_n hx hb dX7_ringMany_26 rfl (lv_at hl 2 rfl) ?_
          refine lv_if_eq (tgt := 35) hx hb dX7_ringMany_27 (by decide) (fun hc => ?_) (fun hc => ?_)
          · have hf := ifp hc hf
            refine lv_iload_n hx hb dX7_ringMany_35 rfl (lv_at hl 0 rfl) ?_
            refine lv_goto (tgt := 40) hx hb dX7_ringMany_36 (by decide) ?_
            refine lv_istore_n (lv' := [(1, .int rv1), (3, .int rv1), (0, .ref k0), (2, .int x2)]) hx hb dX7_ringMany_40 rfl hl (by decide) rfl (fun ls hl => ?_)
            refine lv_iinc (v := (x2 + (nI 1))) (lv' := [(2, .int (x2 + (nI 1))), (1, .int rv1), (3, .int rv1), (0, .ref k0)]) hx hb dX7_ringMany_41 hl (k := 3) rfl (ii_1 _) (by decide) rfl (fun ls hl => ?_)
            refine lv_goto (tgt := 4) hx hb dX7_ringMany_44 (by decide) ?_
            exact ih rv1 (x2 + (nI 1)) hf  ls (lv_sub hl [3, 1, 0] rfl)
          · have hf := ifn hc hf
            refine lv_iload_n hx hb dX7_ringMany_30 rfl (lv_at hl 0 rfl) ?_
            refine lv_iload_n hx hb dX7_ringMany_31 rfl (lv_at hl 2 rfl) ?_
            refine lv_icmp_ge (tgt := 39) hx hb dX7_ringMany_32 (by decide) (fun hc => ?_) (fun hc => ?_)
            · have hf := ifp hc hf
              refine lv_iload_n hx hb dX7_ringMany_39 rfl (lv_at hl 2 rfl) ?_
              refine lv_istore_n (lv' := [(1, .int x1), (3, .int rv1), (0, .ref k0), (2, .int x2)]) hx hb dX7_ringMany_40 rfl hl (by decide) rfl (fun ls hl => ?_)
              refine lv_iinc (v := (x2 + (nI 1))) (lv' := [(2, .int (x2 + (nI 1))), (1, .int x1), (3, .int rv1), (0, .ref k0)]) hx hb dX7_ringMany_41 hl (k := 3) rfl (ii_1 _) (by decide) rfl (fun ls hl => ?_)
              refine lv_goto (tgt := 4) hx hb dX7_ringMany_44 (by decide) ?_
              exact ih x1 (x2 + (nI 1)) hf  ls (lv_sub hl [3, 1, 0] rfl)
            · have hf := ifn hc hf
              refine lv_iload_n hx hb dX7_ringMany_35 rfl (lv_at hl 0 rfl) ?_
              refine lv_goto (tgt := 40) hx hb dX7_ringMany_36 (by decide) ?_
              refine lv_istore_n (lv' := [(1, .int rv1), (3, .int rv1), (0, .ref k0), (2, .int x2)]) hx hb dX7_ringMany_40 rfl hl (by decide) rfl (fun ls hl => ?_)
              refine lv_iinc (v := (x2 + (nI 1))) (lv' := [(2, .int (x2 + (nI 1))), (1, .int rv1), (3, .int rv1), (0, .ref k0)]) hx hb dX7_ringMany_41 hl (k := 3) rfl (ii_1 _) (by decide) rfl (fun ls hl => ?_)
              refine lv_goto (tgt := 4) hx hb dX7_ringMany_44 (by decide) ?_
              exact ih rv1 (x2 + (nI 1)) hf  ls (lv_sub hl [3, 1, 0] rfl)
  have hl := lv_entry ([.ref k0]) (n := 4) (Nat.le_of_ble_eq_true rfl)
  rw [lg_entry_eq]
  generalize (lg_sl ([.ref k0]) ++ List.replicate (4 - (lg_sl ([.ref k0])).length) Slot.unset).toArray = ls at hl ⊢
  have hl : lv_has ls 4 [(0, .ref k0)] := hl
  unfold m_X7_ringMany at hf
  refine lv_iconst (v := (nI 0)) hx hb dX7_ringMany_0 ic_0 ?_
  refine lv_istore_n (lv' := [(1, .int (nI 0)), (0, .ref k0)]) hx hb dX7_ringMany_1 rfl hl (by decide) rfl (fun ls hl => ?_)
  refine lv_iconst (v := (nI 0)) hx hb dX7_ringMany_2 ic_0 ?_
  refine lv_istore_n (lv' := [(2, .int (nI 0)), (1, .int (nI 0)), (0, .ref k0)]) hx hb dX7_ringMany_3 rfl hl (by decide) rfl (fun ls hl => ?_)
  exact hB_4 fu (nI 0) (nI 0) hf  ls (lv_sub hl [2, 1, 0] rfl)
theorem hdc_X7_ring : yX7_ring.cls ≠ "java/lang/invoke/MethodHandle" ∧ yX7_ring.cls ≠ "java/lang/invoke/VarHandle" ∧ (parseMethodDescriptor yX7_ring.desc).map (fun d => d.parameters.length) = some 1 := by decide +kernel
set_option maxHeartbeats 4000000 in
set_option maxRecDepth 100000 in
theorem c_X7_ring (l : Launch) (D : va_G) (cI cZ cM : ClassId) (k0 k1 k2 k3 k4 k5 k6 k7 : Nat) (k_un : Int32) (k_len : Int32) (k_fi : Int32) (k_be : Int32) (k_to : Int32) (k_cl : Int32) (k_do : Int32) (k_ro : Nat → Int32) (k_ke : Nat → Int32) (k_te : Nat → Int32) (k_nu : Nat → Int32) (k_na : Nat → Int32) (k_no : Nat → Int32) (k_tu : Nat → Int32) (x1 : Int32) (fu : Nat) (r : Int32) (hf : m_X7_ring fu k_ro x1 = some r) : Met l yX7_ring wsX7_ring ({ frames := 4, cells := 0, slots := 0, locals := 93 }) (pR D cI cZ cM [(k0, .inr (7, [.ref k1, .int k_un, .ref k2, .ref k3, .int k_len, .int k_fi, .int k_be, .int k_to, .int k_cl, .int k_do, .ref k4, .ref k5, .ref k6, .ref k7])), (k1, .inl (cI, 583, .inl k_ro)), (k2, .inl (cZ, 2, .inl k_ke)), (k3, .inl (cI, 200, .inl k_te)), (k4, .inl (cI, 10, .inl k_nu)), (k5, .inl (cI, 48, .inl k_na)), (k6, .inl (cI, 1024, .inl k_no)), (k7, .inl (cI, 1024, .inl k_tu))] [.ref k0, .int x1]) (qR r) 0 0 (fun _ => False) := by
  refine Met.ofW (cc := cX7_ring) (maxL := 7) (ret := (some .int)) (by decide) rfl ?_
  intro p e s m args below meth c s₁ B hml hv
  obtain ⟨rfl, hP, hK⟩ := hv
  have hx := B.exec
  have hb := B.bytes
  have hr := B.returns
  have hts := atoms_spec (ws := wsX7_ring) B.pre
  have hown : s.vm.findClass RX7 = some m.cls := findClass_of_methodNamed B.named
  have hlocks := B.notSynchronized
  have hB_64 : ∀ (x2 : Int32) (x3 : Int32) (x4 : Int32) (x5 : Int32) (kt53 : Int32 → Int32 → Option (Int32)) (hkt53 : ∀ (x4 : Int32) (x5 : Int32), kt53 x4 x5 = some r → ∀ ls : Array Slot, lv_has ls 7 [(0, .ref k0), (1, .int x1), (2, .int x2), (3, .int x3), (4, .int x4), (5, .int x5)] → W p l e (headSpec wsX7_ring { frames := 4, cells := 0, slots := 0, locals := 93 }).room s m ([.ref k0, .int x1] : List Value).toArray below meth c s.heap [] 0 0 (MQ below (qR r) ([.ref k0, .int x1] : List Value).toArray s 0 0 (fun _ => False)) (F0 m 53 ls [])) (fn : Nat) (x6 : Int32), m_X7_ring_64 fu k_ro x3 x4 x5 kt53 fn x6 = some r → ∀ ls : Array Slot, lv_has ls 7 [(0, .ref k0), (1, .int x1), (2, .int x2), (3, .int x3), (4, .int x4), (5, .int x5), (6, .int x6)] → W p l e (headSpec wsX7_ring { frames := 4, cells := 0, slots := 0, locals := 93 }).room s m ([.ref k0, .int x1] : List Value).toArray below meth c s.heap [] 0 0 (MQ below (qR r) ([.ref k0, .int x1] : List Value).toArray s 0 0 (fun _ => False)) (F0 m 64 ls []) := by
    intro x2 x3 x4 x5 kt53 hkt53 fn
    induction fn with
    | zero => intro x6 hf; rw [m_X7_ring_64] at hf; cases hf
    | succ fn ih =>
      intro x6 hf ls hl
      rw [m_X7_ring_64] at hf
      refine lv_aload_n hx hb dX7_ring_64 rfl (lv_at hl 0 rfl) ?_
      refine lv_iload hx hb dX7_ring_65 (lv_at hl 4 rfl) ?_
      obtain ⟨rv3, hrv3, hf⟩ := bd hf
      refine roI (va_runV (As := [.int x4]) (rest := []) ⟨hx, hb, hml, hown, hts⟩ (c_X7_needs l D cI cZ cM k0 k1 k2 k3 k4 k5 k6 k7 k_un k_len k_fi k_be k_to k_cl k_do k_ro k_ke k_te k_nu k_na k_no k_tu x4 fu rv3 hrv3) (cwV 1 hts gX7_ring_X7_needs rfl rfl rfl ⟨rfl, hdc_X7_needs⟩ ⟨Nat.le_of_ble_eq_true rfl, Nat.le_of_ble_eq_true rfl⟩) (prV hK hP [0, 1, 2, 3, 4, 5, 6, 7] rfl (ci := 7) (q0 := 0) rfl rfl) rfl rfl hl.1 rfl (lv_room (Nat.le_of_ble_eq_true rfl)) dX7_ring_67 ⟨Nat.zero_le _, Nat.zero_le _⟩) ?_
      refine lv_iload hx hb dX7_ring_70 (lv_at hl 6 rfl) ?_
      obtain ⟨rv4, hrv4, hf⟩ := bd hf
      refine roI (va_runS (As := [.int rv3, .int x6]) (rest := []) ⟨hx, hb, hml, hown, hts⟩ (c_X7_has l D cI cZ cM rv3 x6 rv4 hrv4) (va_cwS 2 hts gX7_ring_X7_has rfl rfl rfl hdc_X7_has ⟨Nat.le_of_ble_eq_true rfl, Nat.le_of_ble_eq_true rfl⟩) (prS hK hP [] rfl) rfl rfl hl.1 rfl (lv_room (Nat.le_of_ble_eq_true rfl)) dX7_ring_72 ⟨Nat.zero_le _, Nat.zero_le _⟩) ?_
      refine lv_if_eq (tgt := 90) hx hb dX7_ring_75 (by decide) (fun hc => ?_) (fun hc => ?_)
      · have hf := ifp hc hf
        refine lv_iinc (v := (x6 + (nI 1))) (lv' := [(6, .int (x6 + (nI 1))), (0, .ref k0), (1, .int x1), (2, .int x2), (3, .int x3), (4, .int x4), (5, .int x5)]) hx hb dX7_ring_90 hl (k := 6) rfl (ii_1 _) (by decide) rfl (fun ls hl => ?_)
        refine lv_goto (tgt := 64) hx hb dX7_ring_93 (by decide) ?_
        exact ih (x6 + (nI 1)) hf  ls (lv_sub hl [1, 2, 3, 4, 5, 6, 0] rfl)
      · have hf := ifn hc hf
        refine lv_aload_n hx hb dX7_ring_78 rfl (lv_at hl 0 rfl) ?_
        refine lv_iload hx hb dX7_ring_79 (lv_at hl 6 rfl) ?_
        refine lv_iload_n hx hb dX7_ring_81 rfl (lv_at hl 3 rfl) ?_
        obtain ⟨rv5, hrv5, hf⟩ := bd hf
        refine roI (va_runV (As := [.int x6, .int x3]) (rest := []) ⟨hx, hb, hml, hown, hts⟩ (c_X7_stepsTo l D cI cZ cM k0 k1 k2 k3 k4 k5 k6 k7 k_un k_len k_fi k_be k_to k_cl k_do k_ro k_ke k_te k_nu k_na k_no k_tu x6 x3 fu rv5 hrv5) (cwV 2 hts gX7_ring_X7_stepsTo rfl rfl rfl ⟨rfl, hdc_X7_stepsTo⟩ ⟨Nat.le_of_ble_eq_true rfl, Nat.le_of_ble_eq_true rfl⟩) (prV hK hP [0, 1, 2, 3, 4, 5, 6, 7] rfl (ci := 7) (q0 := 0) rfl rfl) rfl rfl hl.1 rfl (lv_room (Nat.le_of_ble_eq_true rfl)) dX7_ring_82 ⟨Nat.zero_le _, Nat.zero_le _⟩) ?_
        refine lv_iload hx hb dX7_ring_85 (lv_at hl 5 rfl) ?_
        refine lv_icmp_eq (tgt := 96) hx hb dX7_ring_87 (by decide) (fun hc => ?_) (fun hc => ?_)
        · have hf := ifp hc hf
          refine lv_iload hx hb dX7_ring_96 (lv_at hl 6 rfl) ?_
          refine lv_istore (lv' := [(4, .int x6), (0, .ref k0), (1, .int x1), (2, .int x2), (3, .int x3), (5, .int x5), (6, .int x6)]) hx hb dX7_ring_98 hl (by decide) rfl (fun ls hl => ?_)
          refine lv_iinc (v := (x5 + (-1 : Int32))) (lv' := [(5, .int (x5 + (-1 : Int32))), (4, .int x6), (0, .ref k0), (1, .int x1), (2, .int x2), (3, .int x3), (6, .int x6)]) hx hb dX7_ring_100 hl (k := 5) rfl (ii_m1 _) (by decide) rfl (fun ls hl => ?_)
          refine lv_goto (tgt := 53) hx hb dX7_ring_103 (by decide) ?_
          exact hkt53 x6 (x5 + (-1 : Int32)) hf  ls (lv_sub hl [2, 3, 4, 5, 1, 0] rfl)
        · have hf := ifn hc hf
          refine lv_iinc (v := (x6 + (nI 1))) (lv' := [(6, .int (x6 + (nI 1))), (0, .ref k0), (1, .int x1), (2, .int x2), (3, .int x3), (4, .int x4), (5, .int x5)]) hx hb dX7_ring_90 hl (k := 6) rfl (ii_1 _) (by decide) rfl (fun ls hl => ?_)
          refine lv_goto (tgt := 64) hx hb dX7_ring_93 (by decide) ?_
          exact ih (x6 + (nI 1)) hf  ls (lv_sub hl [1, 2, 3, 4, 5, 6, 0] rfl)
  have hB_53 : ∀ (x2 : Int32) (x3 : Int32) (fn : Nat) (x4 : Int32) (x5 : Int32), m_X7_ring_53 fu k_ro x1 x2 x3 fn x4 x5 = some r → ∀ ls : Array Slot, lv_has ls 7 [(0, .ref k0), (1, .int x1), (2, .int x2), (3, .int x3), (4, .int x4), (5, .int x5)] → W p l e (headSpec wsX7_ring { frames := 4, cells := 0, slots := 0, locals := 93 }).room s m ([.ref k0, .int x1] : List Value).toArray below meth c s.heap [] 0 0 (MQ below (qR r) ([.ref k0, .int x1] : List Value).toArray s 0 0 (fun _ => False)) (F0 m 53 ls []) := by
    intro x2 x3 fn
    induction fn with
    | zero => intro x4 x5 hf; rw [m_X7_ring_53] at hf; cases hf
    | succ fn ih =>
      intro x4 x5 hf ls hl
      rw [m_X7_ring_53] at hf
      refine lv_iload hx hb dX7_ring_53 (lv_at hl 5 rfl) ?_
      refine lv_iload_n hx hb dX7_ring_55 rfl (lv_at hl 2 rfl) ?_
      refine lv_iload_n hx hb dX7_ring_56 rfl (lv_at hl 1 rfl) ?_
      refine lv_isub hx hb dX7_ring_57 ?_
      refine lv_icmp_lt (tgt := 106) hx hb dX7_ring_58 (by decide) (fun hc => ?_) (fun hc => ?_)
      · have hf := ifp hc hf
        refine lv_iload hx hb dX7_ring_106 (lv_at hl 4 rfl) ?_
        cases hf
        exact W.iret hx hb hr (fun t ht _ => ⟨rfl, ht⟩) (fun _ h => nomatch h) dX7_ring_108
      · have hf := ifn hc hf
        refine lv_iconst (v := (nI 0)) hx hb dX7_ring_61 ic_0 ?_
        refine lv_istore (lv' := [(6, .int (nI 0)), (0, .ref k0), (1, .int x1), (2, .int x2), (3, .int x3), (4, .int x4), (5, .int x5)]) hx hb dX7_ring_62 hl (by decide) rfl (fun ls hl => ?_)
        exact hB_64 x2 x3 x4 x5 _ ih fu (nI 0) hf  ls (lv_sub hl [1, 2, 3, 4, 5, 6, 0] rfl)
  have hB_29 : ∀ (x2 : Int32) (fn : Nat) (x3 : Int32), m_X7_ring_29 fu k_ro x1 x2 fn x3 = some r → ∀ ls : Array Slot, lv_has ls 7 [(0, .ref k0), (1, .int x1), (2, .int x2), (3, .int x3)] → W p l e (headSpec wsX7_ring { frames := 4, cells := 0, slots := 0, locals := 93 }).room s m ([.ref k0, .int x1] : List Value).toArray below meth c s.heap [] 0 0 (MQ below (qR r) ([.ref k0, .int x1] : List Value).toArray s 0 0 (fun _ => False)) (F0 m 29 ls []) := by
    intro x2 fn
    induction fn with
    | zero => intro x3 hf; rw [m_X7_ring_29] at hf; cases hf
    | succ fn ih =>
      intro x3 hf ls hl
      rw [m_X7_ring_29] at hf
      refine lv_aload_n hx hb dX7_ring_29 rfl (lv_at hl 0 rfl) ?_
      refine lv_iload_n hx hb dX7_ring_30 rfl (lv_at hl 3 rfl) ?_
      refine lv_iload_n hx hb dX7_ring_31 rfl (lv_at hl 3 rfl) ?_
      obtain ⟨rv2, hrv2, hf⟩ := bd hf
      refine roI (va_runV (As := [.int x3, .int x3]) (rest := []) ⟨hx, hb, hml, hown, hts⟩ (c_X7_stepsTo l D cI cZ cM k0 k1 k2 k3 k4 k5 k6 k7 k_un k_len k_fi k_be k_to k_cl k_do k_ro k_ke k_te k_nu k_na k_no k_tu x3 x3 fu rv2 hrv2) (cwV 2 hts gX7_ring_X7_stepsTo rfl rfl rfl ⟨rfl, hdc_X7_stepsTo⟩ ⟨Nat.le_of_ble_eq_true rfl, Nat.le_of_ble_eq_true rfl⟩) (prV hK hP [0, 1, 2, 3, 4, 5, 6, 7] rfl (ci := 7) (q0 := 0) rfl rfl) rfl rfl hl.1 rfl (lv_room (Nat.le_of_ble_eq_true rfl)) dX7_ring_32 ⟨Nat.zero_le _, Nat.zero_le _⟩) ?_
      refine lv_iload_n hx hb dX7_ring_35 rfl (lv_at hl 2 rfl) ?_
      refine lv_icmp_eq (tgt := 45) hx hb dX7_ring_36 (by decide) (fun hc => ?_) (fun hc => ?_)
      · have hf := ifp hc hf
        refine lv_iload_n hx hb dX7_ring_45 rfl (lv_at hl 3 rfl) ?_
        refine lv_istore (lv' := [(4, .int x3), (0, .ref k0), (1, .int x1), (2, .int x2), (3, .int x3)]) hx hb dX7_ring_46 hl (by decide) rfl (fun ls hl => ?_)
        refine lv_iload_n hx hb dX7_ring_48 rfl (lv_at hl 3 rfl) ?_
        refine lv_iconst (v := (nI 1)) hx hb dX7_ring_49 ic_1 ?_
        refine lv_isub hx hb dX7_ring_50 ?_
        refine lv_istore (lv' := [(5, .int (x2 - (nI 1))), (4, .int x3), (0, .ref k0), (1, .int x1), (2, .int x2), (3, .int x3)]) hx hb dX7_ring_51 hl (by decide) rfl (fun ls hl => ?_)
        exact hB_53 x2 x3 fu x3 (x2 - (nI 1)) hf  ls (lv_sub hl [2, 3, 4, 5, 1, 0] rfl)
      · have hf := ifn hc hf
        refine lv_iinc (v := (x3 + (nI 1))) (lv' := [(3, .int (x3 + (nI 1))), (0, .ref k0), (1, .int x1), (2, .int x2)]) hx hb dX7_ring_39 hl (k := 3) rfl (ii_1 _) (by decide) rfl (fun ls hl => ?_)
        refine lv_goto (tgt := 29) hx hb dX7_ring_42 (by decide) ?_
        exact ih (x3 + (nI 1)) hf  ls (lv_sub hl [1, 2, 3, 0] rfl)
  have hl := lv_entry ([.ref k0, .int x1]) (n := 7) (Nat.le_of_ble_eq_true rfl)
  rw [lg_entry_eq]
  generalize (lg_sl ([.ref k0, .int x1]) ++ List.replicate (7 - (lg_sl ([.ref k0, .int x1])).length) Slot.unset).toArray = ls at hl ⊢
  have hl : lv_has ls 7 [(0, .ref k0), (1, .int x1)] := hl
  unfold m_X7_ring at hf
  refine lv_iload_n hx hb dX7_ring_0 rfl (lv_at hl 1 rfl) ?_
  refine lv_iconst (v := (-1 : Int32)) hx hb dX7_ring_1 ic_m1 ?_
  refine lv_icmp_ge (tgt := 8) hx hb dX7_ring_2 (by decide) (fun hc => ?_) (fun hc => ?_)
  · have hf := ifp hc hf
    refine lv_aload_n hx hb dX7_ring_8 rfl (lv_at hl 0 rfl) ?_
    obtain ⟨rv1, hrv1, hf⟩ := bd hf
    refine roI (va_runV (As := []) (rest := []) ⟨hx, hb, hml, hown, hts⟩ (c_X7_ringMany l D cI cZ cM k0 k1 k2 k3 k4 k5 k6 k7 k_un k_len k_fi k_be k_to k_cl k_do k_ro k_ke k_te k_nu k_na k_no k_tu fu rv1 hrv1) (cwV 0 hts gX7_ring_X7_ringMany rfl rfl rfl ⟨rfl, hdc_X7_ringMany⟩ ⟨Nat.le_of_ble_eq_true rfl, Nat.le_of_ble_eq_true rfl⟩) (prV hK hP [0, 1, 2, 3, 4, 5, 6, 7] rfl (ci := 7) (q0 := 0) rfl rfl) rfl rfl hl.1 rfl (lv_room (Nat.le_of_ble_eq_true rfl)) dX7_ring_9 ⟨Nat.zero_le _, Nat.zero_le _⟩) ?_
    refine lv_istore_n (lv' := [(2, .int rv1), (0, .ref k0), (1, .int x1)]) hx hb dX7_ring_12 rfl hl (by decide) rfl (fun ls hl => ?_)
    refine lv_iload_n hx hb dX7_ring_13 rfl (lv_at hl 2 rfl) ?_
    refine lv_iconst (v := (-1 : Int32)) hx hb dX7_ring_14 ic_m1 ?_
    refine lv_icmp_ne (tgt := 20) hx hb dX7_ring_15 (by decide) (fun hc => ?_) (fun hc => ?_)
    · have hf := ifn hc hf
      refine lv_iload_n hx hb dX7_ring_20 rfl (lv_at hl 2 rfl) ?_
      refine lv_iload_n hx hb dX7_ring_21 rfl (lv_at hl 0 rfl) ?_
      refine lv_icmp_lt (tgt := 27) hx hb dX7_ring_22 (by decide) (fun hc => ?_) (fun hc => ?_)
      · have hf := ifp hc hf
        refine lv_iconst (v := (nI 0)) hx hb dX7_ring_27 ic_0 ?_
        refine lv_istore_n (lv' := [(3, .int (nI 0)), (2, .int rv1), (0, .ref k0), (1, .int x1)]) hx hb dX7_ring_28 rfl hl (by decide) rfl (fun ls hl => ?_)
        exact hB_29 rv1 fu (nI 0) hf  ls (lv_sub hl [2, 3, 1, 0] rfl)
      · have hf := ifn hc hf
        refine lv_iconst (v := (-1 : Int32)) hx hb dX7_ring_25 ic_m1 ?_
        cases hf
        exact W.iret hx hb hr (fun t ht _ => ⟨rfl, ht⟩) (fun _ h => nomatch h) dX7_ring_26
    · have hf := ifp hc hf
      refine lv_iload_n hx hb dX7_ring_18 rfl (lv_at hl 0 rfl) ?_
      cases hf
      exact W.iret hx hb hr (fun t ht _ => ⟨rfl, ht⟩) (fun _ h => nomatch h) dX7_ring_19
  · have hf := ifn hc hf
    refine lv_bipush (v := (-3 : Int32)) hx hb dX7_ring_5 bp_m3 ?_
    cases hf
    exact W.iret hx hb hr (fun t ht _ => ⟨rfl, ht⟩) (fun _ h => nomatch h) dX7_ring_7
theorem hdc_X7_noted : yX7_noted.cls ≠ "java/lang/invoke/MethodHandle" ∧ yX7_noted.cls ≠ "java/lang/invoke/VarHandle" ∧ (parseMethodDescriptor yX7_noted.desc).map (fun d => d.parameters.length) = some 2 := by decide +kernel
set_option maxHeartbeats 4000000 in
set_option maxRecDepth 100000 in
theorem c_X7_noted (l : Launch) (D : va_G) (cI cZ cM : ClassId) (k0 k1 k2 k3 k4 k5 k6 k7 : Nat) (k_un : Int32) (k_len : Int32) (k_fi : Int32) (k_be : Int32) (k_to : Int32) (k_cl : Int32) (k_do : Int32) (k_ro : Nat → Int32) (k_ke : Nat → Int32) (k_te : Nat → Int32) (k_nu : Nat → Int32) (k_na : Nat → Int32) (k_no : Nat → Int32) (k_tu : Nat → Int32) (x1 : Int32) (x2 : Int32) (fu : Nat) (r : Int32) (hf : m_X7_noted fu k_ro x1 x2 = some r) : Met l yX7_noted wsX7_noted ({ frames := 2, cells := 0, slots := 0, locals := 44 }) (pR D cI cZ cM [(k0, .inr (7, [.ref k1, .int k_un, .ref k2, .ref k3, .int k_len, .int k_fi, .int k_be, .int k_to, .int k_cl, .int k_do, .ref k4, .ref k5, .ref k6, .ref k7])), (k1, .inl (cI, 583, .inl k_ro)), (k2, .inl (cZ, 2, .inl k_ke)), (k3, .inl (cI, 200, .inl k_te)), (k4, .inl (cI, 10, .inl k_nu)), (k5, .inl (cI, 48, .inl k_na)), (k6, .inl (cI, 1024, .inl k_no)), (k7, .inl (cI, 1024, .inl k_tu))] [.ref k0, .int x1, .int x2]) (qR r) 0 0 (fun _ => False) := by
  refine Met.ofW (cc := cX7_noted) (maxL := 5) (ret := (some .int)) (by decide) rfl ?_
  intro p e s m args below meth c s₁ B hml hv
  obtain ⟨rfl, hP, hK⟩ := hv
  have hx := B.exec
  have hb := B.bytes
  have hr := B.returns
  have hts := atoms_spec (ws := wsX7_noted) B.pre
  have hown : s.vm.findClass RX7 = some m.cls := findClass_of_methodNamed B.named
  have hlocks := B.notSynchronized
  have hfl_7 := hts (.fieldLink RX7 7 "TermsFirstModel" "rows" "[I") (List.mem_cons_of_mem _ (List.mem_append_left _ (List.mem_of_getElem? (i := 0) rfl)))
  have hiX7 : ∀ w ∈ u_ws RX7 TX7 14, w ∈ wsX7_noted := fun _ h => (List.mem_cons_of_mem _ (List.mem_append_right _ h))
  have hB_5 : ∀ (fn : Nat) (x3 : Int32) (x4 : Int32), m_X7_noted_5 fu k_ro x1 x2 fn x3 x4 = some r → ∀ ls : Array Slot, lv_has ls 5 [(0, .ref k0), (1, .int x1), (2, .int x2), (3, .int x3), (4, .int x4)] → W p l e (headSpec wsX7_noted { frames := 2, cells := 0, slots := 0, locals := 44 }).room s m ([.ref k0, .int x1, .int x2] : List Value).toArray below meth c s.heap [] 0 0 (MQ below (qR r) ([.ref k0, .int x1, .int x2] : List Value).toArray s 0 0 (fun _ => False)) (F0 m 5 ls []) := by
    intro fn
    induction fn with
    | zero => intro x3 x4 hf; rw [m_X7_noted_5] at hf; cases hf
    | succ fn ih =>
      intro x3 x4 hf ls hl
      rw [m_X7_noted_5] at hf
      refine lv_iload hx hb dX7_noted_5 (lv_at hl 4 rfl) ?_
      refine lv_bipush (v := (nI 12)) hx hb dX7_noted_7 bp_12 ?_
      refine lv_icmp_ge (tgt := 54) hx hb dX7_noted_9 (by decide) (fun hc => ?_) (fun hc => ?_)
      · have hf := ifp hc hf
        refine lv_iload_n hx hb dX7_noted_54 rfl (lv_at hl 3 rfl) ?_
        cases hf
        exact W.iret hx hb hr (fun t ht _ => ⟨rfl, ht⟩) (fun _ h => nomatch h) dX7_noted_55
      · have hf := ifn hc hf
        refine lv_iload_n hx hb dX7_noted_12 rfl (lv_at hl 3 rfl) ?_
        refine lv_aload_n hx hb dX7_noted_13 rfl (lv_at hl 0 rfl) ?_
        refine va_get (D := D) (ci := 7) (v := .ref k1) (C := RX7) (T := TX7) (N := 14) hx hb hts hiX7 hown hK.1 hP 0 rfl rfl 0 (by decide) hfl_7 (fun _ h9 => h9) rfl dX7_noted_14 ?_
        refine lv_bipush (v := (nI 11)) hx hb dX7_noted_17 bp_11 ?_
        refine lv_iload hx hb dX7_noted_19 (lv_at hl 4 rfl) ?_
        refine lv_iadd hx hb dX7_noted_21 ?_
        obtain ⟨hi, hf⟩ := gd_some hf
        refine va_iald hx hb hK.1 hP 1 0 rfl rfl hi dX7_noted_22 ?_
        refine lv_iload_n hx hb dX7_noted_23 rfl (lv_at hl 1 rfl) ?_
        refine lv_icmp_ne (tgt := 45) hx hb dX7_noted_24 (by decide) (fun hc => ?_) (fun hc => ?_)
        · have hf := ifn hc hf
          refine lv_iconst (v := (nI 0)) hx hb dX7_noted_45 ic_0 ?_
          refine lv_ior hx hb dX7_noted_46 ?_
          refine lv_istore_n (lv' := [(3, .int (x3 ||| (nI 0))), (0, .ref k0), (1, .int x1), (2, .int x2), (4, .int x4)]) hx hb dX7_noted_47 rfl hl (by decide) rfl (fun ls hl => ?_)
          refine lv_iinc (v := (x4 + (nI 1))) (lv' := [(4, .int (x4 + (nI 1))), (3, .int (x3 ||| (nI 0))), (0, .ref k0), (1, .int x1), (2, .int x2)]) hx hb dX7_noted_48 hl (k := 4) rfl (ii_1 _) (by decide) rfl (fun ls hl => ?_)
          refine lv_goto (tgt := 5) hx hb dX7_noted_51 (by decide) ?_
          exact ih (x3 ||| (nI 0)) (x4 + (nI 1)) hf  ls (lv_sub hl [2, 3, 4, 1, 0] rfl)
        · have hf := ifp hc hf
          refine lv_aload_n hx hb dX7_noted_27 rfl (lv_at hl 0 rfl) ?_
          refine lv_iload hx hb dX7_noted_28 (lv_at hl 4 rfl) ?_
          obtain ⟨rv1, hrv1, hf⟩ := bd hf
          refine roI (va_runV (As := [.int x4]) (rest := [.int x3]) ⟨hx, hb, hml, hown, hts⟩ (c_X7_usedBy l D cI cZ cM k0 k1 k2 k3 k4 k5 k6 k7 k_un k_len k_fi k_be k_to k_cl k_do k_ro k_ke k_te k_nu k_na k_no k_tu x4 fu rv1 hrv1) (cwV 1 hts gX7_noted_X7_usedBy rfl rfl rfl ⟨rfl, hdc_X7_usedBy⟩ ⟨Nat.le_of_ble_eq_true rfl, Nat.le_of_ble_eq_true rfl⟩) (prV hK hP [0, 1, 2, 3, 4, 5, 6, 7] rfl (ci := 7) (q0 := 0) rfl rfl) rfl rfl hl.1 rfl (lv_room (Nat.le_of_ble_eq_true rfl)) dX7_noted_30 ⟨Nat.zero_le _, Nat.zero_le _⟩) ?_
          refine lv_iload_n hx hb dX7_noted_33 rfl (lv_at hl 2 rfl) ?_
          refine lv_iand hx hb dX7_noted_34 ?_
          refine lv_if_eq (tgt := 45) hx hb dX7_noted_35 (by decide) (fun hc => ?_) (fun hc => ?_)
          · have hf := ifp hc hf
            refine lv_iconst (v := (nI 0)) hx hb dX7_noted_45 ic_0 ?_
            refine lv_ior hx hb dX7_noted_46 ?_
            refine lv_istore_n (lv' := [(3, .int (x3 ||| (nI 0))), (0, .ref k0), (1, .int x1), (2, .int x2), (4, .int x4)]) hx hb dX7_noted_47 rfl hl (by decide) rfl (fun ls hl => ?_)
            refine lv_iinc (v := (x4 + (nI 1))) (lv' := [(4, .int (x4 + (nI 1))), (3, .int (x3 ||| (nI 0))), (0, .ref k0), (1, .int x1), (2, .int x2)]) hx hb dX7_noted_48 hl (k := 4) rfl (ii_1 _) (by decide) rfl (fun ls hl => ?_)
            refine lv_goto (tgt := 5) hx hb dX7_noted_51 (by decide) ?_
            exact ih (x3 ||| (nI 0)) (x4 + (nI 1)) hf  ls (lv_sub hl [2, 3, 4, 1, 0] rfl)
          · have hf := ifn hc hf
            refine lv_iconst (v := (nI 1)) hx hb dX7_noted_38 ic_1 ?_
            refine lv_iload hx hb dX7_noted_39 (lv_at hl 4 rfl) ?_
            refine lv_ishl hx hb dX7_noted_41 ?_
            refine lv_goto (tgt := 46) hx hb dX7_noted_42 (by decide) ?_
            refine lv_ior hx hb dX7_noted_46 ?_
            refine lv_istore_n (lv' := [(3, .int (x3 ||| ((nI 1) <<< (x4 &&& 31)))), (0, .ref k0), (1, .int x1), (2, .int x2), (4, .int x4)]) hx hb dX7_noted_47 rfl hl (by decide) rfl (fun ls hl => ?_)
            refine lv_iinc (v := (x4 + (nI 1))) (lv' := [(4, .int (x4 + (nI 1))), (3, .int (x3 ||| ((nI 1) <<< (x4 &&& 31)))), (0, .ref k0), (1, .int x1), (2, .int x2)]) hx hb dX7_noted_48 hl (k := 4) rfl (ii_1 _) (by decide) rfl (fun ls hl => ?_)
            refine lv_goto (tgt := 5) hx hb dX7_noted_51 (by decide) ?_
            exact ih (x3 ||| ((nI 1) <<< (x4 &&& 31))) (x4 + (nI 1)) hf  ls (lv_sub hl [2, 3, 4, 1, 0] rfl)
  have hl := lv_entry ([.ref k0, .int x1, .int x2]) (n := 5) (Nat.le_of_ble_eq_true rfl)
  rw [lg_entry_eq]
  generalize (lg_sl ([.ref k0, .int x1, .int x2]) ++ List.replicate (5 - (lg_sl ([.ref k0, .int x1, .int x2])).length) Slot.unset).toArray = ls at hl ⊢
  have hl : lv_has ls 5 [(0, .ref k0), (1, .int x1), (2, .int x2)] := hl
  unfold m_X7_noted at hf
  refine lv_iconst (v := (nI 0)) hx hb dX7_noted_0 ic_0 ?_
  refine lv_istore_n (lv' := [(3, .int (nI 0)), (0, .ref k0), (1, .int x1), (2, .int x2)]) hx hb dX7_noted_1 rfl hl (by decide) rfl (fun ls hl => ?_)
  refine lv_iconst (v := (nI 0)) hx hb dX7_noted_2 ic_0 ?_
  refine lv_istore (lv' := [(4, .int (nI 0)), (3, .int (nI 0)), (0, .ref k0), (1, .int x1), (2, .int x2)]) hx hb dX7_noted_3 hl (by decide) rfl (fun ls hl => ?_)
  exact hB_5 fu (nI 0) (nI 0) hf  ls (lv_sub hl [2, 3, 4, 1, 0] rfl)
theorem hdc_X7_turned : yX7_turned.cls ≠ "java/lang/invoke/MethodHandle" ∧ yX7_turned.cls ≠ "java/lang/invoke/VarHandle" ∧ (parseMethodDescriptor yX7_turned.desc).map (fun d => d.parameters.length) = some 2 := by decide +kernel
set_option maxHeartbeats 4000000 in
set_option maxRecDepth 100000 in
theorem c_X7_turned (l : Launch) (D : va_G) (cI cZ cM : ClassId) (k0 k1 k2 k3 k4 k5 k6 k7 : Nat) (k_un : Int32) (k_len : Int32) (k_fi : Int32) (k_be : Int32) (k_to : Int32) (k_cl : Int32) (k_do : Int32) (k_ro : Nat → Int32) (k_ke : Nat → Int32) (k_te : Nat → Int32) (k_nu : Nat → Int32) (k_na : Nat → Int32) (k_no : Nat → Int32) (k_tu : Nat → Int32) (x1 : Int32) (x2 : Int32) (fu : Nat) (r : Int32) (hf : m_X7_turned fu k_ro x1 x2 = some r) : Met l yX7_turned wsX7_turned ({ frames := 1, cells := 0, slots := 0, locals := 22 }) (pR D cI cZ cM [(k0, .inr (7, [.ref k1, .int k_un, .ref k2, .ref k3, .int k_len, .int k_fi, .int k_be, .int k_to, .int k_cl, .int k_do, .ref k4, .ref k5, .ref k6, .ref k7])), (k1, .inl (cI, 583, .inl k_ro)), (k2, .inl (cZ, 2, .inl k_ke)), (k3, .inl (cI, 200, .inl k_te)), (k4, .inl (cI, 10, .inl k_nu)), (k5, .inl (cI, 48, .inl k_na)), (k6, .inl (cI, 1024, .inl k_no)), (k7, .inl (cI, 1024, .inl k_tu))] [.ref k0, .int x1, .int x2]) (qR r) 0 0 (fun _ => False) := by
  refine Met.ofW (cc := cX7_turned) (maxL := 5) (ret := (some .int)) (by decide) rfl ?_
  intro p e s m args below meth c s₁ B hml hv
  obtain ⟨rfl, hP, hK⟩ := hv
  have hx := B.exec
  have hb := B.bytes
  have hr := B.returns
  have hts := atoms_spec (ws := wsX7_turned) B.pre
  have hown : s.vm.findClass RX7 = some m.cls := findClass_of_methodNamed B.named
  have hlocks := B.notSynchronized
  have hfl_7 := hts (.fieldLink RX7 7 "TermsFirstModel" "rows" "[I") (List.mem_cons_of_mem _ (List.mem_append_left _ (List.mem_of_getElem? (i := 0) rfl)))
  have hiX7 : ∀ w ∈ u_ws RX7 TX7 14, w ∈ wsX7_turned := fun _ h => (List.mem_cons_of_mem _ (List.mem_append_right _ h))
  have hB_5 : ∀ (fn : Nat) (x3 : Int32) (x4 : Int32), m_X7_turned_5 fu k_ro x1 x2 fn x3 x4 = some r → ∀ ls : Array Slot, lv_has ls 5 [(0, .ref k0), (1, .int x1), (2, .int x2), (3, .int x3), (4, .int x4)] → W p l e (headSpec wsX7_turned { frames := 1, cells := 0, slots := 0, locals := 22 }).room s m ([.ref k0, .int x1, .int x2] : List Value).toArray below meth c s.heap [] 0 0 (MQ below (qR r) ([.ref k0, .int x1, .int x2] : List Value).toArray s 0 0 (fun _ => False)) (F0 m 5 ls []) := by
    intro fn
    induction fn with
    | zero => intro x3 x4 hf; rw [m_X7_turned_5] at hf; cases hf
    | succ fn ih =>
      intro x3 x4 hf ls hl
      rw [m_X7_turned_5] at hf
      refine lv_iload hx hb dX7_turned_5 (lv_at hl 4 rfl) ?_
      refine lv_aload_n hx hb dX7_turned_7 rfl (lv_at hl 0 rfl) ?_
      refine lv_iload_n hx hb dX7_turned_8 rfl (lv_at hl 1 rfl) ?_
      obtain ⟨rv1, hrv1, hf⟩ := bd hf
      refine roI (va_runV (As := [.int x1]) (rest := [.int x4]) ⟨hx, hb, hml, hown, hts⟩ (c_X7_placeOf l D cI cZ cM k0 k1 k2 k3 k4 k5 k6 k7 k_un k_len k_fi k_be k_to k_cl k_do k_ro k_ke k_te k_nu k_na k_no k_tu x1 fu rv1 hrv1) (cwV 1 hts gX7_turned_X7_placeOf rfl rfl rfl ⟨rfl, hdc_X7_placeOf⟩ ⟨Nat.le_of_ble_eq_true rfl, Nat.le_of_ble_eq_true rfl⟩) (prV hK hP [0, 1, 2, 3, 4, 5, 6, 7] rfl (ci := 7) (q0 := 0) rfl rfl) rfl rfl hl.1 rfl (lv_room (Nat.le_of_ble_eq_true rfl)) dX7_turned_9 ⟨Nat.zero_le _, Nat.zero_le _⟩) ?_
      refine lv_icmp_ge (tgt := 46) hx hb dX7_turned_12 (by decide) (fun hc => ?_) (fun hc => ?_)
      · have hf := ifp hc hf
        refine lv_iload_n hx hb dX7_turned_46 rfl (lv_at hl 3 rfl) ?_
        cases hf
        exact W.iret hx hb hr (fun t ht _ => ⟨rfl, ht⟩) (fun _ h => nomatch h) dX7_turned_47
      · have hf := ifn hc hf
        refine lv_iload_n hx hb dX7_turned_15 rfl (lv_at hl 3 rfl) ?_
        refine lv_iload_n hx hb dX7_turned_16 rfl (lv_at hl 2 rfl) ?_
        refine lv_aload_n hx hb dX7_turned_17 rfl (lv_at hl 0 rfl) ?_
        refine va_get (D := D) (ci := 7) (v := .ref k1) (C := RX7) (T := TX7) (N := 14) hx hb hts hiX7 hown hK.1 hP 0 rfl rfl 0 (by decide) hfl_7 (fun _ h9 => h9) rfl dX7_turned_18 ?_
        refine lv_bipush (v := (nI 33)) hx hb dX7_turned_21 bp_33 ?_
        refine lv_iload hx hb dX7_turned_23 (lv_at hl 4 rfl) ?_
        refine lv_iadd hx hb dX7_turned_25 ?_
        obtain ⟨hi, hf⟩ := gd_some hf
        refine va_iald hx hb hK.1 hP 1 0 rfl rfl hi dX7_turned_26 ?_
        obtain ⟨rv2, hrv2, hf⟩ := bd hf
        refine roI (va_runS (As := [.int x2, .int (k_ro ((nI 33) + x4).toNatClampNeg)]) (rest := [.int x3]) ⟨hx, hb, hml, hown, hts⟩ (c_X7_has l D cI cZ cM x2 (k_ro ((nI 33) + x4).toNatClampNeg) rv2 hrv2) (va_cwS 2 hts gX7_turned_X7_has rfl rfl rfl hdc_X7_has ⟨Nat.le_of_ble_eq_true rfl, Nat.le_of_ble_eq_true rfl⟩) (prS hK hP [] rfl) rfl rfl hl.1 rfl (lv_room (Nat.le_of_ble_eq_true rfl)) dX7_turned_27 ⟨Nat.zero_le _, Nat.zero_le _⟩) ?_
        refine lv_if_eq (tgt := 37) hx hb dX7_turned_30 (by decide) (fun hc => ?_) (fun hc => ?_)
        · have hf := ifp hc hf
          refine lv_iconst (v := (nI 1)) hx hb dX7_turned_37 ic_1 ?_
          refine lv_iadd hx hb dX7_turned_38 ?_
          refine lv_istore_n (lv' := [(3, .int (x3 + (nI 1))), (0, .ref k0), (1, .int x1), (2, .int x2), (4, .int x4)]) hx hb dX7_turned_39 rfl hl (by decide) rfl (fun ls hl => ?_)
          refine lv_iinc (v := (x4 + (nI 1))) (lv' := [(4, .int (x4 + (nI 1))), (3, .int (x3 + (nI 1))), (0, .ref k0), (1, .int x1), (2, .int x2)]) hx hb dX7_turned_40 hl (k := 4) rfl (ii_1 _) (by decide) rfl (fun ls hl => ?_)
          refine lv_goto (tgt := 5) hx hb dX7_turned_43 (by decide) ?_
          exact ih (x3 + (nI 1)) (x4 + (nI 1)) hf  ls (lv_sub hl [2, 3, 4, 1, 0] rfl)
        · have hf := ifn hc hf
          refine lv_iconst (v := (nI 0)) hx hb dX7_turned_33 ic_0 ?_
          refine lv_goto (tgt := 38) hx hb dX7_turned_34 (by decide) ?_
          refine lv_iadd hx hb dX7_turned_38 ?_
          refine lv_istore_n (lv' := [(3, .int (x3 + (nI 0))), (0, .ref k0), (1, .int x1), (2, .int x2), (4, .int x4)]) hx hb dX7_turned_39 rfl hl (by decide) rfl (fun ls hl => ?_)
          refine lv_iinc (v := (x4 + (nI 1))) (lv' := [(4, .int (x4 + (nI 1))), (3, .int (x3 + (nI 0))), (0, .ref k0), (1, .int x1), (2, .int x2)]) hx hb dX7_turned_40 hl (k := 4) rfl (ii_1 _) (by decide) rfl (fun ls hl => ?_)
          refine lv_goto (tgt := 5) hx hb dX7_turned_43 (by decide) ?_
          exact ih (x3 + (nI 0)) (x4 + (nI 1)) hf  ls (lv_sub hl [2, 3, 4, 1, 0] rfl)
  have hl := lv_entry ([.ref k0, .int x1, .int x2]) (n := 5) (Nat.le_of_ble_eq_true rfl)
  rw [lg_entry_eq]
  generalize (lg_sl ([.ref k0, .int x1, .int x2]) ++ List.replicate (5 - (lg_sl ([.ref k0, .int x1, .int x2])).length) Slot.unset).toArray = ls at hl ⊢
  have hl : lv_has ls 5 [(0, .ref k0), (1, .int x1), (2, .int x2)] := hl
  unfold m_X7_turned at hf
  refine lv_iconst (v := (nI 0)) hx hb dX7_turned_0 ic_0 ?_
  refine lv_istore_n (lv' := [(3, .int (nI 0)), (0, .ref k0), (1, .int x1), (2, .int x2)]) hx hb dX7_turned_1 rfl hl (by decide) rfl (fun ls hl => ?_)
  refine lv_iconst (v := (nI 0)) hx hb dX7_turned_2 ic_0 ?_
  refine lv_istore (lv' := [(4, .int (nI 0)), (3, .int (nI 0)), (0, .ref k0), (1, .int x1), (2, .int x2)]) hx hb dX7_turned_3 hl (by decide) rfl (fun ls hl => ?_)
  exact hB_5 fu (nI 0) (nI 0) hf  ls (lv_sub hl [2, 3, 4, 1, 0] rfl)
theorem hdc_X7_canStand : yX7_canStand.cls ≠ "java/lang/invoke/MethodHandle" ∧ yX7_canStand.cls ≠ "java/lang/invoke/VarHandle" ∧ (parseMethodDescriptor yX7_canStand.desc).map (fun d => d.parameters.length) = some 2 := by decide +kernel
set_option maxHeartbeats 4000000 in
set_option maxRecDepth 100000 in
theorem c_X7_canStand (l : Launch) (D : va_G) (cI cZ cM : ClassId) (k0 k1 k2 k3 k4 k5 k6 k7 : Nat) (k_un : Int32) (k_len : Int32) (k_fi : Int32) (k_be : Int32) (k_to : Int32) (k_cl : Int32) (k_do : Int32) (k_ro : Nat → Int32) (k_ke : Nat → Int32) (k_te : Nat → Int32) (k_nu : Nat → Int32) (k_na : Nat → Int32) (k_no : Nat → Int32) (k_tu : Nat → Int32) (x1 : Int32) (x2 : Int32) (r : Int32) (hf : m_X7_canStand k_ro x1 x2 = some r) : Met l yX7_canStand wsX7_canStand ({ frames := 1, cells := 0, slots := 0, locals := 21 }) (pR D cI cZ cM [(k0, .inr (7, [.ref k1, .int k_un, .ref k2, .ref k3, .int k_len, .int k_fi, .int k_be, .int k_to, .int k_cl, .int k_do, .ref k4, .ref k5, .ref k6, .ref k7])), (k1, .inl (cI, 583, .inl k_ro)), (k2, .inl (cZ, 2, .inl k_ke)), (k3, .inl (cI, 200, .inl k_te)), (k4, .inl (cI, 10, .inl k_nu)), (k5, .inl (cI, 48, .inl k_na)), (k6, .inl (cI, 1024, .inl k_no)), (k7, .inl (cI, 1024, .inl k_tu))] [.ref k0, .int x1, .int x2]) (qR r) 0 0 (fun _ => False) := by
  refine Met.ofW (cc := cX7_canStand) (maxL := 3) (ret := (some .boolean)) (by decide) rfl ?_
  intro p e s m args below meth c s₁ B hml hv
  obtain ⟨rfl, hP, hK⟩ := hv
  have hx := B.exec
  have hb := B.bytes
  have hr := B.returns
  have hts := atoms_spec (ws := wsX7_canStand) B.pre
  have hown : s.vm.findClass RX7 = some m.cls := findClass_of_methodNamed B.named
  have hlocks := B.notSynchronized
  have hfl_7 := hts (.fieldLink RX7 7 "TermsFirstModel" "rows" "[I") (List.mem_cons_of_mem _ (List.mem_append_left _ (List.mem_of_getElem? (i := 0) rfl)))
  have hiX7 : ∀ w ∈ u_ws RX7 TX7 14, w ∈ wsX7_canStand := fun _ h => (List.mem_cons_of_mem _ (List.mem_append_right _ h))
  have hl := lv_entry ([.ref k0, .int x1, .int x2]) (n := 3) (Nat.le_of_ble_eq_true rfl)
  rw [lg_entry_eq]
  generalize (lg_sl ([.ref k0, .int x1, .int x2]) ++ List.replicate (3 - (lg_sl ([.ref k0, .int x1, .int x2])).length) Slot.unset).toArray = ls at hl ⊢
  have hl : lv_has ls 3 [(0, .ref k0), (1, .int x1), (2, .int x2)] := hl
  unfold m_X7_canStand at hf
  refine lv_iload_n hx hb dX7_canStand_0 rfl (lv_at hl 2 rfl) ?_
  refine lv_iload_n hx hb dX7_canStand_1 rfl (lv_at hl 1 rfl) ?_
  obtain ⟨rv1, hrv1, hf⟩ := bd hf
  refine roI (va_runS (As := [.int x2, .int x1]) (rest := []) ⟨hx, hb, hml, hown, hts⟩ (c_X7_has l D cI cZ cM x2 x1 rv1 hrv1) (va_cwS 2 hts gX7_canStand_X7_has rfl rfl rfl hdc_X7_has ⟨Nat.le_of_ble_eq_true rfl, Nat.le_of_ble_eq_true rfl⟩) (prS hK hP [] rfl) rfl rfl hl.1 rfl (lv_room (Nat.le_of_ble_eq_true rfl)) dX7_canStand_2 ⟨Nat.zero_le _, Nat.zero_le _⟩) ?_
  refine lv_if_ne (tgt := 28) hx hb dX7_canStand_5 (by decide) (fun hc => ?_) (fun hc => ?_)
  · have hf := ifn hc hf
    refine lv_iconst (v := (nI 0)) hx hb dX7_canStand_28 ic_0 ?_
    cases hf
    exact W.zret hx hb hr zbl_0.1 (fun t ht _ => ⟨rfl, ht⟩) (fun _ h => nomatch h) dX7_canStand_29
  · have hf := ifp hc hf
    refine lv_aload_n hx hb dX7_canStand_8 rfl (lv_at hl 0 rfl) ?_
    refine va_get (D := D) (ci := 7) (v := .ref k1) (C := RX7) (T := TX7) (N := 14) hx hb hts hiX7 hown hK.1 hP 0 rfl rfl 0 (by decide) hfl_7 (fun _ h9 => h9) rfl dX7_canStand_9 ?_
    refine lv_bipush (v := (nI 43)) hx hb dX7_canStand_12 bp_43 ?_
    refine lv_iload_n hx hb dX7_canStand_14 rfl (lv_at hl 1 rfl) ?_
    refine lv_iadd hx hb dX7_canStand_15 ?_
    obtain ⟨hi, hf⟩ := gd_some hf
    refine va_iald hx hb hK.1 hP 1 0 rfl rfl hi dX7_canStand_16 ?_
    refine lv_iload_n hx hb dX7_canStand_17 rfl (lv_at hl 2 rfl) ?_
    refine lv_iconst (v := (-1 : Int32)) hx hb dX7_canStand_18 ic_m1 ?_
    refine lv_ixor hx hb dX7_canStand_19 ?_
    refine lv_iand hx hb dX7_canStand_20 ?_
    refine lv_if_ne (tgt := 28) hx hb dX7_canStand_21 (by decide) (fun hc => ?_) (fun hc => ?_)
    · have hf := ifn hc hf
      refine lv_iconst (v := (nI 0)) hx hb dX7_canStand_28 ic_0 ?_
      cases hf
      exact W.zret hx hb hr zbl_0.1 (fun t ht _ => ⟨rfl, ht⟩) (fun _ h => nomatch h) dX7_canStand_29
    · have hf := ifp hc hf
      refine lv_iconst (v := (nI 1)) hx hb dX7_canStand_24 ic_1 ?_
      refine lv_goto (tgt := 29) hx hb dX7_canStand_25 (by decide) ?_
      cases hf
      exact W.zret hx hb hr zbl_1.1 (fun t ht _ => ⟨rfl, ht⟩) (fun _ h => nomatch h) dX7_canStand_29
