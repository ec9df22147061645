theorem hdc_X7_term : yX7_term.cls ≠ "java/lang/invoke/MethodHandle" ∧ yX7_term.cls ≠ "java/lang/invoke/VarHandle" ∧ (parseMethodDescriptor yX7_term.desc).map (fun d => d.parameters.length) = some 2 := by decide +kernel
set_option maxHeartbeats 4000000 in
set_option maxRecDepth 100000 in
theorem c_X7_term (l : Launch) (D : va_G) (cI cZ cM : ClassId) (k0 k1 k2 k3 k4 k5 k6 k7 : Nat) (k_un : Int32) (k_len : Int32) (k_fi : Int32) (k_be : Int32) (k_to : Int32) (k_cl : Int32) (k_do : Int32) (k_ro : Nat → Int32) (k_ke : Nat → Int32) (k_te : Nat → Int32) (k_nu : Nat → Int32) (k_na : Nat → Int32) (k_no : Nat → Int32) (k_tu : Nat → Int32) (x1 : Int32) (x2 : Int32) (fu : Nat) (r : Int32) (hf : m_X7_term fu k_ro x1 x2 = some r) : Met l yX7_term wsX7_term ({ frames := 4, cells := 0, slots := 0, locals := 92 }) (pR D cI cZ cM [(k0, .inr (7, [.ref k1, .int k_un, .ref k2, .ref k3, .int k_len, .int k_fi, .int k_be, .int k_to, .int k_cl, .int k_do, .ref k4, .ref k5, .ref k6, .ref k7])), (k1, .inl (cI, 583, .inl k_ro)), (k2, .inl (cZ, 2, .inl k_ke)), (k3, .inl (cI, 200, .inl k_te)), (k4, .inl (cI, 10, .inl k_nu)), (k5, .inl (cI, 48, .inl k_na)), (k6, .inl (cI, 1024, .inl k_no)), (k7, .inl (cI, 1024, .inl k_tu))] [.ref k0, .int x1, .int x2]) (qR r) 0 0 (fun _ => False) := by
  refine Met.ofW (cc := cX7_term) (maxL := 3) (ret := (some .int)) (by decide) rfl ?_
  intro p e s m args below meth c s₁ B hml hv
  obtain ⟨rfl, hP, hK⟩ := hv
  have hx := B.exec
  have hb := B.bytes
  have hr := B.returns
  have hts := atoms_spec (ws := wsX7_term) B.pre
  have hown : s.vm.findClass RX7 = some m.cls := findClass_of_methodNamed B.named
  have hlocks := B.notSynchronized
  have hfl_7 := hts (.fieldLink RX7 7 "TermsFirstModel" "rows" "[I") (List.mem_cons_of_mem _ (List.mem_append_left _ (List.mem_append_left _ (List.mem_of_getElem? (i := 0) rfl))))
  have hiX7 : ∀ w ∈ u_ws RX7 TX7 14, w ∈ wsX7_term := fun _ h => (List.mem_cons_of_mem _ (List.mem_append_right _ h))
  have hl := lv_entry ([.ref k0, .int x1, .int x2]) (n := 3) (Nat.le_of_ble_eq_true rfl)
  rw [lg_entry_eq]
  generalize (lg_sl ([.ref k0, .int x1, .int x2]) ++ List.replicate (3 - (lg_sl ([.ref k0, .int x1, .int x2])).length) Slot.unset).toArray = ls at hl ⊢
  have hl : lv_has ls 3 [(0, .ref k0), (1, .int x1), (2, .int x2)] := hl
  unfold m_X7_term at hf
  refine lv_iload_n hx hb dX7_term_0 rfl (lv_at hl 1 rfl) ?_
  obtain ⟨rv1, hrv1, hf⟩ := bd hf
  refine roI (va_runS (As := [.int x1]) (rest := []) ⟨hx, hb, hml, hown, hts⟩ (c_X7_isTerm l D cI cZ cM x1 rv1 hrv1) (va_cwS 1 hts gX7_term_X7_isTerm rfl rfl rfl hdc_X7_isTerm ⟨Nat.le_of_ble_eq_true rfl, Nat.le_of_ble_eq_true rfl⟩) (prS hK hP [] rfl) rfl rfl hl.1 rfl (lv_room (Nat.le_of_ble_eq_true rfl)) dX7_term_1 ⟨Nat.zero_le _, Nat.zero_le _⟩) ?_
  refine lv_if_ne (tgt := 10) hx hb dX7_term_4 (by decide) (fun hc => ?_) (fun hc => ?_)
  · have hf := ifn hc hf
    refine lv_iload_n hx hb dX7_term_10 rfl (lv_at hl 2 rfl) ?_
    by_cases hk0 : x2 = (nI 0)
    · have hf := ifp hk0 hf
      refine lv_tableIn (off := 33) (tgt := 44) hx hb dX7_term_11 (by rw [hk0]; decide +kernel) (by rw [hk0]; decide +kernel) (by rw [hk0]; decide +kernel) (by decide) ?_
      refine lv_aload_n hx hb dX7_term_44 rfl (lv_at hl 0 rfl) ?_
      refine va_get (D := D) (ci := 7) (v := .ref k1) (C := RX7) (T := TX7) (N := 14) hx hb hts hiX7 hown hK.1 hP 0 rfl rfl 0 (by decide) hfl_7 (fun _ h9 => h9) rfl dX7_term_45 ?_
      refine lv_bipush (v := (nI 11)) hx hb dX7_term_48 bp_11 ?_
      refine lv_iload_n hx hb dX7_term_50 rfl (lv_at hl 1 rfl) ?_
      refine lv_iadd hx hb dX7_term_51 ?_
      obtain ⟨hi, hf⟩ := gd_some hf
      refine va_iald hx hb hK.1 hP 1 0 rfl rfl hi dX7_term_52 ?_
      cases hf
      exact W.iret hx hb hr (fun t ht _ => ⟨rfl, ht⟩) (fun _ h => nomatch h) dX7_term_53
    · have hf := ifn hk0 hf
      by_cases hk1 : x2 = (nI 1)
      · have hf := ifp hk1 hf
        refine lv_tableIn (off := 43) (tgt := 54) hx hb dX7_term_11 (by rw [hk1]; decide +kernel) (by rw [hk1]; decide +kernel) (by rw [hk1]; decide +kernel) (by decide) ?_
        refine lv_aload_n hx hb dX7_term_54 rfl (lv_at hl 0 rfl) ?_
        refine lv_iload_n hx hb dX7_term_55 rfl (lv_at hl 1 rfl) ?_
        obtain ⟨rv2, hrv2, hf⟩ := bd hf
        refine roI (va_runV (As := [.int x1]) (rest := []) ⟨hx, hb, hml, hown, hts⟩ (c_X7_usedBy l D cI cZ cM k0 k1 k2 k3 k4 k5 k6 k7 k_un k_len k_fi k_be k_to k_cl k_do k_ro k_ke k_te k_nu k_na k_no k_tu x1 fu rv2 hrv2) (cwV 1 hts gX7_term_X7_usedBy rfl rfl rfl ⟨rfl, hdc_X7_usedBy⟩ ⟨Nat.le_of_ble_eq_true rfl, Nat.le_of_ble_eq_true rfl⟩) (prV hK hP [0, 1, 2, 3, 4, 5, 6, 7] rfl (ci := 7) (q0 := 0) rfl rfl) rfl rfl hl.1 rfl (lv_room (Nat.le_of_ble_eq_true rfl)) dX7_term_56 ⟨Nat.zero_le _, Nat.zero_le _⟩) ?_
        cases hf
        exact W.iret hx hb hr (fun t ht _ => ⟨rfl, ht⟩) (fun _ h => nomatch h) dX7_term_59
      · have hf := ifn hk1 hf
        by_cases hk2 : x2 = (nI 2)
        · have hf := ifp hk2 hf
          refine lv_tableIn (off := 49) (tgt := 60) hx hb dX7_term_11 (by rw [hk2]; decide +kernel) (by rw [hk2]; decide +kernel) (by rw [hk2]; decide +kernel) (by decide) ?_
          refine lv_aload_n hx hb dX7_term_60 rfl (lv_at hl 0 rfl) ?_
          refine lv_iload_n hx hb dX7_term_61 rfl (lv_at hl 1 rfl) ?_
          obtain ⟨rv3, hrv3, hf⟩ := bd hf
          refine roI (va_runV (As := [.int x1]) (rest := []) ⟨hx, hb, hml, hown, hts⟩ (c_X7_noteOf l D cI cZ cM k0 k1 k2 k3 k4 k5 k6 k7 k_un k_len k_fi k_be k_to k_cl k_do k_ro k_ke k_te k_nu k_na k_no k_tu x1 fu rv3 hrv3) (cwV 1 hts gX7_term_X7_noteOf rfl rfl rfl ⟨rfl, hdc_X7_noteOf⟩ ⟨Nat.le_of_ble_eq_true rfl, Nat.le_of_ble_eq_true rfl⟩) (prV hK hP [0, 1, 2, 3, 4, 5, 6, 7] rfl (ci := 7) (q0 := 0) rfl rfl) rfl rfl hl.1 rfl (lv_room (Nat.le_of_ble_eq_true rfl)) dX7_term_62 ⟨Nat.zero_le _, Nat.zero_le _⟩) ?_
          cases hf
          exact W.iret hx hb hr (fun t ht _ => ⟨rfl, ht⟩) (fun _ h => nomatch h) dX7_term_65
        · have hf := ifn hk2 hf
          by_cases hk3 : x2 = (nI 3)
          · have hf := ifp hk3 hf
            refine lv_tableIn (off := 55) (tgt := 66) hx hb dX7_term_11 (by rw [hk3]; decide +kernel) (by rw [hk3]; decide +kernel) (by rw [hk3]; decide +kernel) (by decide) ?_
            refine lv_aload_n hx hb dX7_term_66 rfl (lv_at hl 0 rfl) ?_
            refine lv_iload_n hx hb dX7_term_67 rfl (lv_at hl 1 rfl) ?_
            obtain ⟨rv4, hrv4, hf⟩ := bd hf
            refine roI (va_runV (As := [.int x1]) (rest := []) ⟨hx, hb, hml, hown, hts⟩ (c_X7_lasts l D cI cZ cM k0 k1 k2 k3 k4 k5 k6 k7 k_un k_len k_fi k_be k_to k_cl k_do k_ro k_ke k_te k_nu k_na k_no k_tu x1 fu rv4 hrv4) (cwV 1 hts gX7_term_X7_lasts rfl rfl rfl ⟨rfl, hdc_X7_lasts⟩ ⟨Nat.le_of_ble_eq_true rfl, Nat.le_of_ble_eq_true rfl⟩) (prV hK hP [0, 1, 2, 3, 4, 5, 6, 7] rfl (ci := 7) (q0 := 0) rfl rfl) rfl rfl hl.1 rfl (lv_room (Nat.le_of_ble_eq_true rfl)) dX7_term_68 ⟨Nat.zero_le _, Nat.zero_le _⟩) ?_
            cases hf
            exact W.iret hx hb hr (fun t ht _ => ⟨rfl, ht⟩) (fun _ h => nomatch h) dX7_term_71
          · have hf := ifn hk3 hf
            by_cases hk4 : x2 = (nI 4)
            · have hf := ifp hk4 hf
              refine lv_tableIn (off := 61) (tgt := 72) hx hb dX7_term_11 (by rw [hk4]; decide +kernel) (by rw [hk4]; decide +kernel) (by rw [hk4]; decide +kernel) (by decide) ?_
              refine lv_aload_n hx hb dX7_term_72 rfl (lv_at hl 0 rfl) ?_
              refine va_get (D := D) (ci := 7) (v := .ref k1) (C := RX7) (T := TX7) (N := 14) hx hb hts hiX7 hown hK.1 hP 0 rfl rfl 0 (by decide) hfl_7 (fun _ h9 => h9) rfl dX7_term_73 ?_
              refine lv_bipush (v := (nI 11)) hx hb dX7_term_76 bp_11 ?_
              refine lv_iload_n hx hb dX7_term_78 rfl (lv_at hl 1 rfl) ?_
              refine lv_iadd hx hb dX7_term_79 ?_
              obtain ⟨hi, hf⟩ := gd_some hf
              refine va_iald hx hb hK.1 hP 1 0 rfl rfl hi dX7_term_80 ?_
              refine lv_iconst (v := (-1 : Int32)) hx hb dX7_term_81 ic_m1 ?_
              refine lv_icmp_ne (tgt := 97) hx hb dX7_term_82 (by decide) (fun hc => ?_) (fun hc => ?_)
              · have hf := ifn hc hf
                refine lv_iconst (v := (nI 0)) hx hb dX7_term_97 ic_0 ?_
                cases hf
                exact W.iret hx hb hr (fun t ht _ => ⟨rfl, ht⟩) (fun _ h => nomatch h) dX7_term_98
              · have hf := ifp hc hf
                refine lv_aload_n hx hb dX7_term_85 rfl (lv_at hl 0 rfl) ?_
                refine lv_iload_n hx hb dX7_term_86 rfl (lv_at hl 1 rfl) ?_
                obtain ⟨rv5, hrv5, hf⟩ := bd hf
                refine roI (va_runV (As := [.int x1]) (rest := []) ⟨hx, hb, hml, hown, hts⟩ (c_X7_usedBy l D cI cZ cM k0 k1 k2 k3 k4 k5 k6 k7 k_un k_len k_fi k_be k_to k_cl k_do k_ro k_ke k_te k_nu k_na k_no k_tu x1 fu rv5 hrv5) (cwV 1 hts gX7_term_X7_usedBy rfl rfl rfl ⟨rfl, hdc_X7_usedBy⟩ ⟨Nat.le_of_ble_eq_true rfl, Nat.le_of_ble_eq_true rfl⟩) (prV hK hP [0, 1, 2, 3, 4, 5, 6, 7] rfl (ci := 7) (q0 := 0) rfl rfl) rfl rfl hl.1 rfl (lv_room (Nat.le_of_ble_eq_true rfl)) dX7_term_87 ⟨Nat.zero_le _, Nat.zero_le _⟩) ?_
                refine lv_if_eq (tgt := 97) hx hb dX7_term_90 (by decide) (fun hc => ?_) (fun hc => ?_)
                · have hf := ifp hc hf
                  refine lv_iconst (v := (nI 0)) hx hb dX7_term_97 ic_0 ?_
                  cases hf
                  exact W.iret hx hb hr (fun t ht _ => ⟨rfl, ht⟩) (fun _ h => nomatch h) dX7_term_98
                · have hf := ifn hc hf
                  refine lv_iconst (v := (nI 1)) hx hb dX7_term_93 ic_1 ?_
                  refine lv_goto (tgt := 98) hx hb dX7_term_94 (by decide) ?_
                  cases hf
                  exact W.iret hx hb hr (fun t ht _ => ⟨rfl, ht⟩) (fun _ h => nomatch h) dX7_term_98
            · have hf := ifn hk4 hf
              refine lv_tableOut (tgt := 99) hx hb dX7_term_11 (tsOut (fun k h1 _ => by rcases (show k = 0 ∨ k = 1 ∨ k = 2 ∨ k = 3 ∨ k = 4 by omega) with rfl | rfl | rfl | rfl | rfl <;> assumption)) (by decide) ?_
              refine lv_bipush (v := (-3 : Int32)) hx hb dX7_term_99 bp_m3 ?_
              cases hf
              exact W.iret hx hb hr (fun t ht _ => ⟨rfl, ht⟩) (fun _ h => nomatch h) dX7_term_101
  · have hf := ifp hc hf
    refine lv_bipush (v := (-2 : Int32)) hx hb dX7_term_7 bp_m2 ?_
    cases hf
    exact W.iret hx hb hr (fun t ht _ => ⟨rfl, ht⟩) (fun _ h => nomatch h) dX7_term_9
theorem hdc_X7_homesMany : yX7_homesMany.cls ≠ "java/lang/invoke/MethodHandle" ∧ yX7_homesMany.cls ≠ "java/lang/invoke/VarHandle" ∧ (parseMethodDescriptor yX7_homesMany.desc).map (fun d => d.parameters.length) = some 0 := by decide +kernel
set_option maxHeartbeats 4000000 in
set_option maxRecDepth 100000 in
theorem c_X7_homesMany (l : Launch) (D : va_G) (cI cZ cM : ClassId) (k0 k1 k2 k3 k4 k5 k6 k7 : Nat) (k_un : Int32) (k_len : Int32) (k_fi : Int32) (k_be : Int32) (k_to : Int32) (k_cl : Int32) (k_do : Int32) (k_ro : Nat → Int32) (k_ke : Nat → Int32) (k_te : Nat → Int32) (k_nu : Nat → Int32) (k_na : Nat → Int32) (k_no : Nat → Int32) (k_tu : Nat → Int32) (fu : Nat) (r : Int32) (hf : m_X7_homesMany fu k_ro = some r) : Met l yX7_homesMany wsX7_homesMany ({ frames := 0, cells := 0, slots := 0, locals := 0 }) (pR D cI cZ cM [(k0, .inr (7, [.ref k1, .int k_un, .ref k2, .ref k3, .int k_len, .int k_fi, .int k_be, .int k_to, .int k_cl, .int k_do, .ref k4, .ref k5, .ref k6, .ref k7])), (k1, .inl (cI, 583, .inl k_ro)), (k2, .inl (cZ, 2, .inl k_ke)), (k3, .inl (cI, 200, .inl k_te)), (k4, .inl (cI, 10, .inl k_nu)), (k5, .inl (cI, 48, .inl k_na)), (k6, .inl (cI, 1024, .inl k_no)), (k7, .inl (cI, 1024, .inl k_tu))] [.ref k0]) (qR r) 0 0 (fun _ => False) := by
  refine Met.ofW (cc := cX7_homesMany) (maxL := 3) (ret := (some .int)) (by decide) rfl ?_
  intro p e s m args below meth c s₁ B hml hv
  obtain ⟨rfl, hP, hK⟩ := hv
  have hx := B.exec
  have hb := B.bytes
  have hr := B.returns
  have hts := atoms_spec (ws := wsX7_homesMany) B.pre
  have hown : s.vm.findClass RX7 = some m.cls := findClass_of_methodNamed B.named
  have hlocks := B.notSynchronized
  have hfl_7 := hts (.fieldLink RX7 7 "TermsFirstModel" "rows" "[I") (List.mem_cons_of_mem _ (List.mem_append_left _ (List.mem_of_getElem? (i := 0) rfl)))
  have hiX7 : ∀ w ∈ u_ws RX7 TX7 14, w ∈ wsX7_homesMany := fun _ h => (List.mem_cons_of_mem _ (List.mem_append_right _ h))
  have hB_4 : ∀ (fn : Nat) (x1 : Int32) (x2 : Int32), m_X7_homesMany_4 k_ro fn x1 x2 = some r → ∀ ls : Array Slot, lv_has ls 3 [(0, .ref k0), (1, .int x1), (2, .int x2)] → W p l e (headSpec wsX7_homesMany { frames := 0, cells := 0, slots := 0, locals := 0 }).room s m ([.ref k0] : List Value).toArray below meth c s.heap [] 0 0 (MQ below (qR r) ([.ref k0] : List Value).toArray s 0 0 (fun _ => False)) (F0 m 4 ls []) := by
    intro fn
    induction fn with
    | zero => intro x1 x2 hf; rw [m_X7_homesMany_4] at hf; cases hf
    | succ fn ih =>
      intro x1 x2 hf ls hl
      rw [m_X7_homesMany_4] at hf
      refine lv_iload_n hx hb dX7_homesMany_4 rfl (lv_at hl 2 rfl) ?_
      refine lv_bipush (v := (nI 12)) hx hb dX7_homesMany_5 bp_12 ?_
      refine lv_icmp_ge (tgt := 37) hx hb dX7_homesMany_7 (by decide) (fun hc => ?_) (fun hc => ?_)
      · have hf := ifp hc hf
        refine lv_iload_n hx hb dX7_homesMany_37 rfl (lv_at hl 1 rfl) ?_
        cases hf
        exact W.iret hx hb hr (fun t ht _ => ⟨rfl, ht⟩) (fun _ h => nomatch h) dX7_homesMany_38
      · have hf := ifn hc hf
        refine lv_iload_n hx hb dX7_homesMany_10 rfl (lv_at hl 1 rfl) ?_
        refine lv_aload_n hx hb dX7_homesMany_11 rfl (lv_at hl 0 rfl) ?_
        refine va_get (D := D) (ci := 7) (v := .ref k1) (C := RX7) (T := TX7) (N := 14) hx hb hts hiX7 hown hK.1 hP 0 rfl rfl 0 (by decide) hfl_7 (fun _ h9 => h9) rfl dX7_homesMany_12 ?_
        refine lv_bipush (v := (nI 11)) hx hb dX7_homesMany_15 bp_11 ?_
        refine lv_iload_n hx hb dX7_homesMany_17 rfl (lv_at hl 2 rfl) ?_
        refine lv_iadd hx hb dX7_homesMany_18 ?_
        obtain ⟨hi, hf⟩ := gd_some hf
        refine va_iald hx hb hK.1 hP 1 0 rfl rfl hi dX7_homesMany_19 ?_
        refine lv_iconst (v := (-1 : Int32)) hx hb dX7_homesMany_20 ic_m1 ?_
        refine lv_icmp_eq (tgt := 28) hx hb dX7_homesMany_21 (by decide) (fun hc => ?_) (fun hc => ?_)
        · have hf := ifp hc hf
          refine lv_iconst (v := (nI 0)) hx hb dX7_homesMany_28 ic_0 ?_
          refine lv_iadd hx hb dX7_homesMany_29 ?_
          refine lv_istore_n (lv' := [(1, .int (x1 + (nI 0))), (0, .ref k0), (2, .int x2)]) hx hb dX7_homesMany_30 rfl hl (by decide) rfl (fun ls hl => ?_)
          refine lv_iinc (v := (x2 + (nI 1))) (lv' := [(2, .int (x2 + (nI 1))), (1, .int (x1 + (nI 0))), (0, .ref k0)]) hx hb dX7_homesMany_31 hl (k := 2) rfl (ii_1 _) (by decide) rfl (fun ls hl => ?_)
          refine lv_goto (tgt := 4) hx hb dX7_homesMany_34 (by decide) ?_
          exact ih (x1 + (nI 0)) (x2 + (nI 1)) hf  ls (lv_sub hl [2, 1, 0] rfl)
        · have hf := ifn hc hf
          refine lv_iconst (v := (nI 1)) hx hb dX7_homesMany_24 ic_1 ?_
          refine lv_goto (tgt := 29) hx hb dX7_homesMany_25 (by decide) ?_
          refine lv_iadd hx hb dX7_homesMany_29 ?_
          refine lv_istore_n (lv' := [(1, .int (x1 + (nI 1))), (0, .ref k0), (2, .int x2)]) hx hb dX7_homesMany_30 rfl hl (by decide) rfl (fun ls hl => ?_)
          refine lv_iinc (v := (x2 + (nI 1))) (lv' := [(2, .int (x2 + (nI 1))), (1, .int (x1 + (nI 1))), (0, .ref k0)]) hx hb dX7_homesMany_31 hl (k := 2) rfl (ii_1 _) (by decide) rfl (fun ls hl => ?_)
          refine lv_goto (tgt := 4) hx hb dX7_homesMany_34 (by decide) ?_
          exact ih (x1 + (nI 1)) (x2 + (nI 1)) hf  ls (lv_sub hl [2, 1, 0] rfl)
  have hl := lv_entry ([.ref k0]) (n := 3) (Nat.le_of_ble_eq_true rfl)
  rw [lg_entry_eq]
  generalize (lg_sl ([.ref k0]) ++ List.replicate (3 - (lg_sl ([.ref k0])).length) Slot.unset).toArray = ls at hl ⊢
  have hl : lv_has ls 3 [(0, .ref k0)] := hl
  unfold m_X7_homesMany at hf
  refine lv_iconst (v := (nI 0)) hx hb dX7_homesMany_0 ic_0 ?_
  refine lv_istore_n (lv' := [(1, .int (nI 0)), (0, .ref k0)]) hx hb dX7_homesMany_1 rfl hl (by decide) rfl (fun ls hl => ?_)
  refine lv_iconst (v := (nI 0)) hx hb dX7_homesMany_2 ic_0 ?_
  refine lv_istore_n (lv' := [(2, .int (nI 0)), (1, .int (nI 0)), (0, .ref k0)]) hx hb dX7_homesMany_3 rfl hl (by decide) rfl (fun ls hl => ?_)
  exact hB_4 fu (nI 0) (nI 0) hf  ls (lv_sub hl [2, 1, 0] rfl)
theorem hdc_X7_sum : yX7_sum.cls ≠ "java/lang/invoke/MethodHandle" ∧ yX7_sum.cls ≠ "java/lang/invoke/VarHandle" ∧ (parseMethodDescriptor yX7_sum.desc).map (fun d => d.parameters.length) = some 1 := by decide +kernel
set_option maxHeartbeats 4000000 in
set_option maxRecDepth 100000 in
theorem c_X7_sum (l : Launch) (D : va_G) (cI cZ cM : ClassId) (k0 k1 k2 k3 k4 k5 k6 k7 : Nat) (k_un : Int32) (k_len : Int32) (k_fi : Int32) (k_be : Int32) (k_to : Int32) (k_cl : Int32) (k_do : Int32) (k_ro : Nat → Int32) (k_ke : Nat → Int32) (k_te : Nat → Int32) (k_nu : Nat → Int32) (k_na : Nat → Int32) (k_no : Nat → Int32) (k_tu : Nat → Int32) (x1 : Int32) (fu : Nat) (r : Int32) (hf : m_X7_sum fu k_ro x1 = some r) : Met l yX7_sum wsX7_sum ({ frames := 2, cells := 0, slots := 0, locals := 46 }) (pR D cI cZ cM [(k0, .inr (7, [.ref k1, .int k_un, .ref k2, .ref k3, .int k_len, .int k_fi, .int k_be, .int k_to, .int k_cl, .int k_do, .ref k4, .ref k5, .ref k6, .ref k7])), (k1, .inl (cI, 583, .inl k_ro)), (k2, .inl (cZ, 2, .inl k_ke)), (k3, .inl (cI, 200, .inl k_te)), (k4, .inl (cI, 10, .inl k_nu)), (k5, .inl (cI, 48, .inl k_na)), (k6, .inl (cI, 1024, .inl k_no)), (k7, .inl (cI, 1024, .inl k_tu))] [.ref k0, .int x1]) (qR r) 0 0 (fun _ => False) := by
  refine Met.ofW (cc := cX7_sum) (maxL := 4) (ret := (some .int)) (by decide) rfl ?_
  intro p e s m args below meth c s₁ B hml hv
  obtain ⟨rfl, hP, hK⟩ := hv
  have hx := B.exec
  have hb := B.bytes
  have hr := B.returns
  have hts := atoms_spec (ws := wsX7_sum) B.pre
  have hown : s.vm.findClass RX7 = some m.cls := findClass_of_methodNamed B.named
  have hlocks := B.notSynchronized
  have hfl_7 := hts (.fieldLink RX7 7 "TermsFirstModel" "rows" "[I") (List.mem_cons_of_mem _ (List.mem_append_left _ (List.mem_of_getElem? (i := 0) rfl)))
  have hiX7 : ∀ w ∈ u_ws RX7 TX7 14, w ∈ wsX7_sum := fun _ h => (List.mem_cons_of_mem _ (List.mem_append_right _ h))
  have hB_4 : ∀ (fn : Nat) (x2 : Int32) (x3 : Int32), m_X7_sum_4 fu k_ro x1 fn x2 x3 = some r → ∀ ls : Array Slot, lv_has ls 4 [(0, .ref k0), (1, .int x1), (2, .int x2), (3, .int x3)] → W p l e (headSpec wsX7_sum { frames := 2, cells := 0, slots := 0, locals := 46 }).room s m ([.ref k0, .int x1] : List Value).toArray below meth c s.heap [] 0 0 (MQ below (qR r) ([.ref k0, .int x1] : List Value).toArray s 0 0 (fun _ => False)) (F0 m 4 ls []) := by
    intro fn
    induction fn with
    | zero => intro x2 x3 hf; rw [m_X7_sum_4] at hf; cases hf
    | succ fn ih =>
      intro x2 x3 hf ls hl
      rw [m_X7_sum_4] at hf
      refine lv_iload_n hx hb dX7_sum_4 rfl (lv_at hl 3 rfl) ?_
      refine lv_aload_n hx hb dX7_sum_5 rfl (lv_at hl 0 rfl) ?_
      refine va_get (D := D) (ci := 7) (v := .ref k1) (C := RX7) (T := TX7) (N := 14) hx hb hts hiX7 hown hK.1 hP 0 rfl rfl 0 (by decide) hfl_7 (fun _ h9 => h9) rfl dX7_sum_6 ?_
      refine lv_iconst (v := (nI 0)) hx hb dX7_sum_9 ic_0 ?_
      obtain ⟨hi, hf⟩ := gd_some hf
      refine va_iald hx hb hK.1 hP 1 0 rfl rfl hi dX7_sum_10 ?_
      refine lv_icmp_ge (tgt := 67) hx hb dX7_sum_11 (by decide) (fun hc => ?_) (fun hc => ?_)
      · have hf := ifp hc hf
        refine lv_iload_n hx hb dX7_sum_67 rfl (lv_at hl 2 rfl) ?_
        cases hf
        exact W.iret hx hb hr (fun t ht _ => ⟨rfl, ht⟩) (fun _ h => nomatch h) dX7_sum_68
      · have hf := ifn hc hf
        refine lv_iload_n hx hb dX7_sum_14 rfl (lv_at hl 2 rfl) ?_
        refine lv_iload_n hx hb dX7_sum_15 rfl (lv_at hl 1 rfl) ?_
        refine lv_iconst (v := (nI 4)) hx hb dX7_sum_16 ic_4 ?_
        refine lv_icmp_ne (tgt := 35) hx hb dX7_sum_17 (by decide) (fun hc => ?_) (fun hc => ?_)
        · have hf := ifn hc hf
          refine lv_iload_n hx hb dX7_sum_35 rfl (lv_at hl 1 rfl) ?_
          refine lv_iconst (v := (nI 5)) hx hb dX7_sum_36 ic_5 ?_
          refine lv_icmp_ne (tgt := 51) hx hb dX7_sum_37 (by decide) (fun hc => ?_) (fun hc => ?_)
          · have hf := ifn hc hf
            refine lv_aload_n hx hb dX7_sum_51 rfl (lv_at hl 0 rfl) ?_
            refine va_get (D := D) (ci := 7) (v := .ref k1) (C := RX7) (T := TX7) (N := 14) hx hb hts hiX7 hown hK.1 hP 0 rfl rfl 0 (by decide) hfl_7 (fun _ h9 => h9) rfl dX7_sum_52 ?_
            refine lv_iconst (v := (nI 1)) hx hb dX7_sum_55 ic_1 ?_
            refine lv_iload_n hx hb dX7_sum_56 rfl (lv_at hl 3 rfl) ?_
            refine lv_iadd hx hb dX7_sum_57 ?_
            obtain ⟨hi, hf⟩ := gd_some hf
            refine va_iald hx hb hK.1 hP 1 0 rfl rfl hi dX7_sum_58 ?_
            refine lv_iadd hx hb dX7_sum_59 ?_
            refine lv_istore_n (lv' := [(2, .int (x2 + (k_ro ((nI 1) + x3).toNatClampNeg))), (0, .ref k0), (1, .int x1), (3, .int x3)]) hx hb dX7_sum_60 rfl hl (by decide) rfl (fun ls hl => ?_)
            refine lv_iinc (v := (x3 + (nI 1))) (lv' := [(3, .int (x3 + (nI 1))), (2, .int (x2 + (k_ro ((nI 1) + x3).toNatClampNeg))), (0, .ref k0), (1, .int x1)]) hx hb dX7_sum_61 hl (k := 3) rfl (ii_1 _) (by decide) rfl (fun ls hl => ?_)
            refine lv_goto (tgt := 4) hx hb dX7_sum_64 (by decide) ?_
            exact ih (x2 + (k_ro ((nI 1) + x3).toNatClampNeg)) (x3 + (nI 1)) hf  ls (lv_sub hl [2, 3, 1, 0] rfl)
          · have hf := ifp hc hf
            refine lv_aload_n hx hb dX7_sum_40 rfl (lv_at hl 0 rfl) ?_
            refine lv_iload_n hx hb dX7_sum_41 rfl (lv_at hl 3 rfl) ?_
            obtain ⟨rv1, hrv1, hf⟩ := bd hf
            refine roI (va_runV (As := [.int x3]) (rest := [.int x2]) ⟨hx, hb, hml, hown, hts⟩ (c_X7_earlyIn l D cI cZ cM k0 k1 k2 k3 k4 k5 k6 k7 k_un k_len k_fi k_be k_to k_cl k_do k_ro k_ke k_te k_nu k_na k_no k_tu x3 fu rv1 hrv1) (cwV 1 hts gX7_sum_X7_earlyIn rfl rfl rfl ⟨rfl, hdc_X7_earlyIn⟩ ⟨Nat.le_of_ble_eq_true rfl, Nat.le_of_ble_eq_true rfl⟩) (prV hK hP [0, 1, 2, 3, 4, 5, 6, 7] rfl (ci := 7) (q0 := 0) rfl rfl) rfl rfl hl.1 rfl (lv_room (Nat.le_of_ble_eq_true rfl)) dX7_sum_42 ⟨Nat.zero_le _, Nat.zero_le _⟩) ?_
            obtain ⟨rv2, hrv2, hf⟩ := bd hf
            refine roI (va_runS (As := [.int rv1]) (rest := [.int x2]) ⟨hx, hb, hml, hown, hts⟩ (c_X7_ones l D cI cZ cM rv1 fu rv2 hrv2) (va_cwS 1 hts gX7_sum_X7_ones rfl rfl rfl hdc_X7_ones ⟨Nat.le_of_ble_eq_true rfl, Nat.le_of_ble_eq_true rfl⟩) (prS hK hP [] rfl) rfl rfl hl.1 rfl (lv_room (Nat.le_of_ble_eq_true rfl)) dX7_sum_45 ⟨Nat.zero_le _, Nat.zero_le _⟩) ?_
            refine lv_goto (tgt := 59) hx hb dX7_sum_48 (by decide) ?_
            refine lv_iadd hx hb dX7_sum_59 ?_
            refine lv_istore_n (lv' := [(2, .int (x2 + rv2)), (0, .ref k0), (1, .int x1), (3, .int x3)]) hx hb dX7_sum_60 rfl hl (by decide) rfl (fun ls hl => ?_)
            refine lv_iinc (v := (x3 + (nI 1))) (lv' := [(3, .int (x3 + (nI 1))), (2, .int (x2 + rv2)), (0, .ref k0), (1, .int x1)]) hx hb dX7_sum_61 hl (k := 3) rfl (ii_1 _) (by decide) rfl (fun ls hl => ?_)
            refine lv_goto (tgt := 4) hx hb dX7_sum_64 (by decide) ?_
            exact ih (x2 + rv2) (x3 + (nI 1)) hf  ls (lv_sub hl [2, 3, 1, 0] rfl)
        · have hf := ifp hc hf
          refine lv_aload_n hx hb dX7_sum_20 rfl (lv_at hl 0 rfl) ?_
          refine va_get (D := D) (ci := 7) (v := .ref k1) (C := RX7) (T := TX7) (N := 14) hx hb hts hiX7 hown hK.1 hP 0 rfl rfl 0 (by decide) hfl_7 (fun _ h9 => h9) rfl dX7_sum_21 ?_
          refine lv_bipush (v := (nI 23)) hx hb dX7_sum_24 bp_23 ?_
          refine lv_iload_n hx hb dX7_sum_26 rfl (lv_at hl 3 rfl) ?_
          refine lv_iadd hx hb dX7_sum_27 ?_
          obtain ⟨hi, hf⟩ := gd_some hf
          refine va_iald hx hb hK.1 hP 1 0 rfl rfl hi dX7_sum_28 ?_
          obtain ⟨rv3, hrv3, hf⟩ := bd hf
          refine roI (va_runS (As := [.int (k_ro ((nI 23) + x3).toNatClampNeg)]) (rest := [.int x2]) ⟨hx, hb, hml, hown, hts⟩ (c_X7_ones l D cI cZ cM (k_ro ((nI 23) + x3).toNatClampNeg) fu rv3 hrv3) (va_cwS 1 hts gX7_sum_X7_ones rfl rfl rfl hdc_X7_ones ⟨Nat.le_of_ble_eq_true rfl, Nat.le_of_ble_eq_true rfl⟩) (prS hK hP [] rfl) rfl rfl hl.1 rfl (lv_room (Nat.le_of_ble_eq_true rfl)) dX7_sum_29 ⟨Nat.zero_le _, Nat.zero_le _⟩) ?_
          refine lv_goto (tgt := 59) hx hb dX7_sum_32 (by decide) ?_
          refine lv_iadd hx hb dX7_sum_59 ?_
          refine lv_istore_n (lv' := [(2, .int (x2 + rv3)), (0, .ref k0), (1, .int x1), (3, .int x3)]) hx hb dX7_sum_60 rfl hl (by decide) rfl (fun ls hl => ?_)
          refine lv_iinc (v := (x3 + (nI 1))) (lv' := [(3, .int (x3 + (nI 1))), (2, .int (x2 + rv3)), (0, .ref k0), (1, .int x1)]) hx hb dX7_sum_61 hl (k := 3) rfl (ii_1 _) (by decide) rfl (fun ls hl => ?_)
          refine lv_goto (tgt := 4) hx hb dX7_sum_64 (by decide) ?_
          exact ih (x2 + rv3) (x3 + (nI 1)) hf  ls (lv_sub hl [2, 3, 1, 0] rfl)
  have hl := lv_entry ([.ref k0, .int x1]) (n := 4) (Nat.le_of_ble_eq_true rfl)
  rw [lg_entry_eq]
  generalize (lg_sl ([.ref k0, .int x1]) ++ List.replicate (4 - (lg_sl ([.ref k0, .int x1])).length) Slot.unset).toArray = ls at hl ⊢
  have hl : lv_has ls 4 [(0, .ref k0), (1, .int x1)] := hl
  unfold m_X7_sum at hf
  refine lv_iconst (v := (nI 0)) hx hb dX7_sum_0 ic_0 ?_
  refine lv_istore_n (lv' := [(2, .int (nI 0)), (0, .ref k0), (1, .int x1)]) hx hb dX7_sum_1 rfl hl (by decide) rfl (fun ls hl => ?_)
  refine lv_iconst (v := (nI 0)) hx hb dX7_sum_2 ic_0 ?_
  refine lv_istore_n (lv' := [(3, .int (nI 0)), (2, .int (nI 0)), (0, .ref k0), (1, .int x1)]) hx hb dX7_sum_3 rfl hl (by decide) rfl (fun ls hl => ?_)
  exact hB_4 fu (nI 0) (nI 0) hf  ls (lv_sub hl [2, 3, 1, 0] rfl)
theorem hdc_X7_count : yX7_count.cls ≠ "java/lang/invoke/MethodHandle" ∧ yX7_count.cls ≠ "java/lang/invoke/VarHandle" ∧ (parseMethodDescriptor yX7_count.desc).map (fun d => d.parameters.length) = some 1 := by decide +kernel
set_option maxHeartbeats 4000000 in
set_option maxRecDepth 100000 in
theorem c_X7_count (l : Launch) (D : va_G) (cI cZ cM : ClassId) (k0 k1 k2 k3 k4 k5 k6 k7 : Nat) (k_un : Int32) (k_len : Int32) (k_fi : Int32) (k_be : Int32) (k_to : Int32) (k_cl : Int32) (k_do : Int32) (k_ro : Nat → Int32) (k_ke : Nat → Int32) (k_te : Nat → Int32) (k_nu : Nat → Int32) (k_na : Nat → Int32) (k_no : Nat → Int32) (k_tu : Nat → Int32) (x1 : Int32) (fu : Nat) (r : Int32) (hf : m_X7_count fu k_un k_len k_ro x1 = some r) : Met l yX7_count wsX7_count ({ frames := 5, cells := 0, slots := 0, locals := 115 }) (pR D cI cZ cM [(k0, .inr (7, [.ref k1, .int k_un, .ref k2, .ref k3, .int k_len, .int k_fi, .int k_be, .int k_to, .int k_cl, .int k_do, .ref k4, .ref k5, .ref k6, .ref k7])), (k1, .inl (cI, 583, .inl k_ro)), (k2, .inl (cZ, 2, .inl k_ke)), (k3, .inl (cI, 200, .inl k_te)), (k4, .inl (cI, 10, .inl k_nu)), (k5, .inl (cI, 48, .inl k_na)), (k6, .inl (cI, 1024, .inl k_no)), (k7, .inl (cI, 1024, .inl k_tu))] [.ref k0, .int x1]) (qR r) 0 0 (fun _ => False) := by
  refine Met.ofW (cc := cX7_count) (maxL := 2) (ret := (some .int)) (by decide) rfl ?_
  intro p e s m args below meth c s₁ B hml hv
  obtain ⟨rfl, hP, hK⟩ := hv
  have hx := B.exec
  have hb := B.bytes
  have hr := B.returns
  have hts := atoms_spec (ws := wsX7_count) B.pre
  have hown : s.vm.findClass RX7 = some m.cls := findClass_of_methodNamed B.named
  have hlocks := B.notSynchronized
  have hfl_7 := hts (.fieldLink RX7 7 "TermsFirstModel" "rows" "[I") (List.mem_cons_of_mem _ (List.mem_append_left _ (List.mem_append_left _ (List.mem_of_getElem? (i := 0) rfl))))
  have hfl_44 := hts (.fieldLink RX7 44 "TermsFirstModel" "length" "I") (List.mem_cons_of_mem _ (List.mem_append_left _ (List.mem_append_left _ (List.mem_of_getElem? (i := 2) rfl))))
  have hfl_132 := hts (.fieldLink RX7 132 "TermsFirstModel" "undos" "I") (List.mem_cons_of_mem _ (List.mem_append_left _ (List.mem_append_left _ (List.mem_of_getElem? (i := 1) rfl))))
  have hiX7 : ∀ w ∈ u_ws RX7 TX7 14, w ∈ wsX7_count := fun _ h => (List.mem_cons_of_mem _ (List.mem_append_right _ h))
  have hl := lv_entry ([.ref k0, .int x1]) (n := 2) (Nat.le_of_ble_eq_true rfl)
  rw [lg_entry_eq]
  generalize (lg_sl ([.ref k0, .int x1]) ++ List.replicate (2 - (lg_sl ([.ref k0, .int x1])).length) Slot.unset).toArray = ls at hl ⊢
  have hl : lv_has ls 2 [(0, .ref k0), (1, .int x1)] := hl
  unfold m_X7_count at hf
  refine lv_iload_n hx hb dX7_count_0 rfl (lv_at hl 1 rfl) ?_
  by_cases hk0 : x1 = (nI 0)
  · have hf := ifp hk0 hf
    refine lv_tableIn (off := 63) (tgt := 64) hx hb dX7_count_1 (by rw [hk0]; decide +kernel) (by rw [hk0]; decide +kernel) (by rw [hk0]; decide +kernel) (by decide) ?_
    refine lv_aload_n hx hb dX7_count_64 rfl (lv_at hl 0 rfl) ?_
    refine va_get (D := D) (ci := 7) (v := .ref k1) (C := RX7) (T := TX7) (N := 14) hx hb hts hiX7 hown hK.1 hP 0 rfl rfl 0 (by decide) hfl_7 (fun _ h9 => h9) rfl dX7_count_65 ?_
    refine lv_iconst (v := (nI 0)) hx hb dX7_count_68 ic_0 ?_
    obtain ⟨hi, hf⟩ := gd_some hf
    refine va_iald hx hb hK.1 hP 1 0 rfl rfl hi dX7_count_69 ?_
    cases hf
    exact W.iret hx hb hr (fun t ht _ => ⟨rfl, ht⟩) (fun _ h => nomatch h) dX7_count_70
  · have hf := ifn hk0 hf
    by_cases hk1 : x1 = (nI 1)
    · have hf := ifp hk1 hf
      refine lv_tableIn (off := 70) (tgt := 71) hx hb dX7_count_1 (by rw [hk1]; decide +kernel) (by rw [hk1]; decide +kernel) (by rw [hk1]; decide +kernel) (by decide) ?_
      refine lv_aload_n hx hb dX7_count_71 rfl (lv_at hl 0 rfl) ?_
      obtain ⟨rv1, hrv1, hf⟩ := bd hf
      refine roI (va_runV (As := []) (rest := []) ⟨hx, hb, hml, hown, hts⟩ (c_X7_notesMany l D cI cZ cM k0 k1 k2 k3 k4 k5 k6 k7 k_un k_len k_fi k_be k_to k_cl k_do k_ro k_ke k_te k_nu k_na k_no k_tu fu rv1 hrv1) (cwV 0 hts gX7_count_X7_notesMany rfl rfl rfl ⟨rfl, hdc_X7_notesMany⟩ ⟨Nat.le_of_ble_eq_true rfl, Nat.le_of_ble_eq_true rfl⟩) (prV hK hP [0, 1, 2, 3, 4, 5, 6, 7] rfl (ci := 7) (q0 := 0) rfl rfl) rfl rfl hl.1 rfl (lv_room (Nat.le_of_ble_eq_true rfl)) dX7_count_72 ⟨Nat.zero_le _, Nat.zero_le _⟩) ?_
      cases hf
      exact W.iret hx hb hr (fun t ht _ => ⟨rfl, ht⟩) (fun _ h => nomatch h) dX7_count_75
    · have hf := ifn hk1 hf
      by_cases hk2 : x1 = (nI 2)
      · have hf := ifp hk2 hf
        refine lv_tableIn (off := 75) (tgt := 76) hx hb dX7_count_1 (by rw [hk2]; decide +kernel) (by rw [hk2]; decide +kernel) (by rw [hk2]; decide +kernel) (by decide) ?_
        refine lv_aload_n hx hb dX7_count_76 rfl (lv_at hl 0 rfl) ?_
        obtain ⟨rv2, hrv2, hf⟩ := bd hf
        refine roI (va_runV (As := []) (rest := []) ⟨hx, hb, hml, hown, hts⟩ (c_X7_loose l D cI cZ cM k0 k1 k2 k3 k4 k5 k6 k7 k_un k_len k_fi k_be k_to k_cl k_do k_ro k_ke k_te k_nu k_na k_no k_tu fu rv2 hrv2) (cwV 0 hts gX7_count_X7_loose rfl rfl rfl ⟨rfl, hdc_X7_loose⟩ ⟨Nat.le_of_ble_eq_true rfl, Nat.le_of_ble_eq_true rfl⟩) (prV hK hP [0, 1, 2, 3, 4, 5, 6, 7] rfl (ci := 7) (q0 := 0) rfl rfl) rfl rfl hl.1 rfl (lv_room (Nat.le_of_ble_eq_true rfl)) dX7_count_77 ⟨Nat.zero_le _, Nat.zero_le _⟩) ?_
        cases hf
        exact W.iret hx hb hr (fun t ht _ => ⟨rfl, ht⟩) (fun _ h => nomatch h) dX7_count_80
      · have hf := ifn hk2 hf
        by_cases hk3 : x1 = (nI 3)
        · have hf := ifp hk3 hf
          refine lv_tableIn (off := 80) (tgt := 81) hx hb dX7_count_1 (by rw [hk3]; decide +kernel) (by rw [hk3]; decide +kernel) (by rw [hk3]; decide +kernel) (by decide) ?_
          refine lv_aload_n hx hb dX7_count_81 rfl (lv_at hl 0 rfl) ?_
          obtain ⟨rv3, hrv3, hf⟩ := bd hf
          refine roI (va_runV (As := []) (rest := []) ⟨hx, hb, hml, hown, hts⟩ (c_X7_homesMany l D cI cZ cM k0 k1 k2 k3 k4 k5 k6 k7 k_un k_len k_fi k_be k_to k_cl k_do k_ro k_ke k_te k_nu k_na k_no k_tu fu rv3 hrv3) (cwV 0 hts gX7_count_X7_homesMany rfl rfl rfl ⟨rfl, hdc_X7_homesMany⟩ ⟨Nat.le_of_ble_eq_true rfl, Nat.le_of_ble_eq_true rfl⟩) (prV hK hP [0, 1, 2, 3, 4, 5, 6, 7] rfl (ci := 7) (q0 := 0) rfl rfl) rfl rfl hl.1 rfl (lv_room (Nat.le_of_ble_eq_true rfl)) dX7_count_82 ⟨Nat.zero_le _, Nat.zero_le _⟩) ?_
          cases hf
          exact W.iret hx hb hr (fun t ht _ => ⟨rfl, ht⟩) (fun _ h => nomatch h) dX7_count_85
        · have hf := ifn hk3 hf
          by_cases hk4 : x1 = (nI 4)
          · have hf := ifp hk4 hf
            refine lv_tableIn (off := 85) (tgt := 86) hx hb dX7_count_1 (by rw [hk4]; decide +kernel) (by rw [hk4]; decide +kernel) (by rw [hk4]; decide +kernel) (by decide) ?_
            refine lv_aload_n hx hb dX7_count_86 rfl (lv_at hl 0 rfl) ?_
            refine lv_iload_n hx hb dX7_count_87 rfl (lv_at hl 1 rfl) ?_
            obtain ⟨rv4, hrv4, hf⟩ := bd hf
            refine roI (va_runV (As := [.int x1]) (rest := []) ⟨hx, hb, hml, hown, hts⟩ (c_X7_sum l D cI cZ cM k0 k1 k2 k3 k4 k5 k6 k7 k_un k_len k_fi k_be k_to k_cl k_do k_ro k_ke k_te k_nu k_na k_no k_tu x1 fu rv4 hrv4) (cwV 1 hts gX7_count_X7_sum rfl rfl rfl ⟨rfl, hdc_X7_sum⟩ ⟨Nat.le_of_ble_eq_true rfl, Nat.le_of_ble_eq_true rfl⟩) (prV hK hP [0, 1, 2, 3, 4, 5, 6, 7] rfl (ci := 7) (q0 := 0) rfl rfl) rfl rfl hl.1 rfl (lv_room (Nat.le_of_ble_eq_true rfl)) dX7_count_88 ⟨Nat.zero_le _, Nat.zero_le _⟩) ?_
            cases hf
            exact W.iret hx hb hr (fun t ht _ => ⟨rfl, ht⟩) (fun _ h => nomatch h) dX7_count_91
          · have hf := ifn hk4 hf
            by_cases hk5 : x1 = (nI 5)
            · have hf := ifp hk5 hf
              refine lv_tableIn (off := 85) (tgt := 86) hx hb dX7_count_1 (by rw [hk5]; decide +kernel) (by rw [hk5]; decide +kernel) (by rw [hk5]; decide +kernel) (by decide) ?_
              refine lv_aload_n hx hb dX7_count_86 rfl (lv_at hl 0 rfl) ?_
              refine lv_iload_n hx hb dX7_count_87 rfl (lv_at hl 1 rfl) ?_
              obtain ⟨rv5, hrv5, hf⟩ := bd hf
              refine roI (va_runV (As := [.int x1]) (rest := []) ⟨hx, hb, hml, hown, hts⟩ (c_X7_sum l D cI cZ cM k0 k1 k2 k3 k4 k5 k6 k7 k_un k_len k_fi k_be k_to k_cl k_do k_ro k_ke k_te k_nu k_na k_no k_tu x1 fu rv5 hrv5) (cwV 1 hts gX7_count_X7_sum rfl rfl rfl ⟨rfl, hdc_X7_sum⟩ ⟨Nat.le_of_ble_eq_true rfl, Nat.le_of_ble_eq_true rfl⟩) (prV hK hP [0, 1, 2, 3, 4, 5, 6, 7] rfl (ci := 7) (q0 := 0) rfl rfl) rfl rfl hl.1 rfl (lv_room (Nat.le_of_ble_eq_true rfl)) dX7_count_88 ⟨Nat.zero_le _, Nat.zero_le _⟩) ?_
              cases hf
              exact W.iret hx hb hr (fun t ht _ => ⟨rfl, ht⟩) (fun _ h => nomatch h) dX7_count_91
            · have hf := ifn hk5 hf
              by_cases hk6 : x1 = (nI 6)
              · have hf := ifp hk6 hf
                refine lv_tableIn (off := 91) (tgt := 92) hx hb dX7_count_1 (by rw [hk6]; decide +kernel) (by rw [hk6]; decide +kernel) (by rw [hk6]; decide +kernel) (by decide) ?_
                refine lv_aload_n hx hb dX7_count_92 rfl (lv_at hl 0 rfl) ?_
                obtain ⟨rv6, hrv6, hf⟩ := bd hf
                refine roI (va_runV (As := []) (rest := []) ⟨hx, hb, hml, hown, hts⟩ (c_X7_pairs l D cI cZ cM k0 k1 k2 k3 k4 k5 k6 k7 k_un k_len k_fi k_be k_to k_cl k_do k_ro k_ke k_te k_nu k_na k_no k_tu fu rv6 hrv6) (cwV 0 hts gX7_count_X7_pairs rfl rfl rfl ⟨rfl, hdc_X7_pairs⟩ ⟨Nat.le_of_ble_eq_true rfl, Nat.le_of_ble_eq_true rfl⟩) (prV hK hP [0, 1, 2, 3, 4, 5, 6, 7] rfl (ci := 7) (q0 := 0) rfl rfl) rfl rfl hl.1 rfl (lv_room (Nat.le_of_ble_eq_true rfl)) dX7_count_93 ⟨Nat.zero_le _, Nat.zero_le _⟩) ?_
                cases hf
                exact W.iret hx hb hr (fun t ht _ => ⟨rfl, ht⟩) (fun _ h => nomatch h) dX7_count_96
              · have hf := ifn hk6 hf
                by_cases hk7 : x1 = (nI 7)
                · have hf := ifp hk7 hf
                  refine lv_tableIn (off := 96) (tgt := 97) hx hb dX7_count_1 (by rw [hk7]; decide +kernel) (by rw [hk7]; decide +kernel) (by rw [hk7]; decide +kernel) (by decide) ?_
                  refine lv_aload_n hx hb dX7_count_97 rfl (lv_at hl 0 rfl) ?_
                  obtain ⟨rv7, hrv7, hf⟩ := bd hf
                  refine roI (va_runV (As := []) (rest := []) ⟨hx, hb, hml, hown, hts⟩ (c_X7_lastsAll l D cI cZ cM k0 k1 k2 k3 k4 k5 k6 k7 k_un k_len k_fi k_be k_to k_cl k_do k_ro k_ke k_te k_nu k_na k_no k_tu fu rv7 hrv7) (cwV 0 hts gX7_count_X7_lastsAll rfl rfl rfl ⟨rfl, hdc_X7_lastsAll⟩ ⟨Nat.le_of_ble_eq_true rfl, Nat.le_of_ble_eq_true rfl⟩) (prV hK hP [0, 1, 2, 3, 4, 5, 6, 7] rfl (ci := 7) (q0 := 0) rfl rfl) rfl rfl hl.1 rfl (lv_room (Nat.le_of_ble_eq_true rfl)) dX7_count_98 ⟨Nat.zero_le _, Nat.zero_le _⟩) ?_
                  cases hf
                  exact W.iret hx hb hr (fun t ht _ => ⟨rfl, ht⟩) (fun _ h => nomatch h) dX7_count_101
                · have hf := ifn hk7 hf
                  by_cases hk8 : x1 = (nI 8)
                  · have hf := ifp hk8 hf
                    refine lv_tableIn (off := 101) (tgt := 102) hx hb dX7_count_1 (by rw [hk8]; decide +kernel) (by rw [hk8]; decide +kernel) (by rw [hk8]; decide +kernel) (by decide) ?_
                    refine lv_aload_n hx hb dX7_count_102 rfl (lv_at hl 0 rfl) ?_
                    obtain ⟨rv8, hrv8, hf⟩ := bd hf
                    refine roI (va_runV (As := []) (rest := []) ⟨hx, hb, hml, hown, hts⟩ (c_X7_knots l D cI cZ cM k0 k1 k2 k3 k4 k5 k6 k7 k_un k_len k_fi k_be k_to k_cl k_do k_ro k_ke k_te k_nu k_na k_no k_tu fu rv8 hrv8) (cwV 0 hts gX7_count_X7_knots rfl rfl rfl ⟨rfl, hdc_X7_knots⟩ ⟨Nat.le_of_ble_eq_true rfl, Nat.le_of_ble_eq_true rfl⟩) (prV hK hP [0, 1, 2, 3, 4, 5, 6, 7] rfl (ci := 7) (q0 := 0) rfl rfl) rfl rfl hl.1 rfl (lv_room (Nat.le_of_ble_eq_true rfl)) dX7_count_103 ⟨Nat.zero_le _, Nat.zero_le _⟩) ?_
                    cases hf
                    exact W.iret hx hb hr (fun t ht _ => ⟨rfl, ht⟩) (fun _ h => nomatch h) dX7_count_106
                  · have hf := ifn hk8 hf
                    by_cases hk9 : x1 = (nI 9)
                    · have hf := ifp hk9 hf
                      refine lv_tableIn (off := 106) (tgt := 107) hx hb dX7_count_1 (by rw [hk9]; decide +kernel) (by rw [hk9]; decide +kernel) (by rw [hk9]; decide +kernel) (by decide) ?_
                      refine lv_aload_n hx hb dX7_count_107 rfl (lv_at hl 0 rfl) ?_
                      refine va_get (D := D) (ci := 7) (v := .int k_un) (C := RX7) (T := TX7) (N := 14) hx hb hts hiX7 hown hK.1 hP 0 rfl rfl 1 (by decide) hfl_132 (fun _ h9 => h9) rfl dX7_count_108 ?_
                      cases hf
                      exact W.iret hx hb hr (fun t ht _ => ⟨rfl, ht⟩) (fun _ h => nomatch h) dX7_count_111
                    · have hf := ifn hk9 hf
                      by_cases hk10 : x1 = (nI 10)
                      · have hf := ifp hk10 hf
                        refine lv_tableIn (off := 111) (tgt := 112) hx hb dX7_count_1 (by rw [hk10]; decide +kernel) (by rw [hk10]; decide +kernel) (by rw [hk10]; decide +kernel) (by decide) ?_
                        refine lv_aload_n hx hb dX7_count_112 rfl (lv_at hl 0 rfl) ?_
                        refine va_get (D := D) (ci := 7) (v := .int k_len) (C := RX7) (T := TX7) (N := 14) hx hb hts hiX7 hown hK.1 hP 0 rfl rfl 4 (by decide) hfl_44 (fun _ h9 => h9) rfl dX7_count_113 ?_
                        cases hf
                        exact W.iret hx hb hr (fun t ht _ => ⟨rfl, ht⟩) (fun _ h => nomatch h) dX7_count_116
                      · have hf := ifn hk10 hf
                        by_cases hk11 : x1 = (nI 11)
                        · have hf := ifp hk11 hf
                          refine lv_tableIn (off := 85) (tgt := 86) hx hb dX7_count_1 (by rw [hk11]; decide +kernel) (by rw [hk11]; decide +kernel) (by rw [hk11]; decide +kernel) (by decide) ?_
                          refine lv_aload_n hx hb dX7_count_86 rfl (lv_at hl 0 rfl) ?_
                          refine lv_iload_n hx hb dX7_count_87 rfl (lv_at hl 1 rfl) ?_
                          obtain ⟨rv9, hrv9, hf⟩ := bd hf
                          refine roI (va_runV (As := [.int x1]) (rest := []) ⟨hx, hb, hml, hown, hts⟩ (c_X7_sum l D cI cZ cM k0 k1 k2 k3 k4 k5 k6 k7 k_un k_len k_fi k_be k_to k_cl k_do k_ro k_ke k_te k_nu k_na k_no k_tu x1 fu rv9 hrv9) (cwV 1 hts gX7_count_X7_sum rfl rfl rfl ⟨rfl, hdc_X7_sum⟩ ⟨Nat.le_of_ble_eq_true rfl, Nat.le_of_ble_eq_true rfl⟩) (prV hK hP [0, 1, 2, 3, 4, 5, 6, 7] rfl (ci := 7) (q0 := 0) rfl rfl) rfl rfl hl.1 rfl (lv_room (Nat.le_of_ble_eq_true rfl)) dX7_count_88 ⟨Nat.zero_le _, Nat.zero_le _⟩) ?_
                          cases hf
                          exact W.iret hx hb hr (fun t ht _ => ⟨rfl, ht⟩) (fun _ h => nomatch h) dX7_count_91
                        · have hf := ifn hk11 hf
                          refine lv_tableOut (tgt := 117) hx hb dX7_count_1 (tsOut (fun k h1 _ => by rcases (show k = 0 ∨ k = 1 ∨ k = 2 ∨ k = 3 ∨ k = 4 ∨ k = 5 ∨ k = 6 ∨ k = 7 ∨ k = 8 ∨ k = 9 ∨ k = 10 ∨ k = 11 by omega) with rfl | rfl | rfl | rfl | rfl | rfl | rfl | rfl | rfl | rfl | rfl | rfl <;> assumption)) (by decide) ?_
                          refine lv_bipush (v := (-3 : Int32)) hx hb dX7_count_117 bp_m3 ?_
                          cases hf
                          exact W.iret hx hb hr (fun t ht _ => ⟨rfl, ht⟩) (fun _ h => nomatch h) dX7_count_119
