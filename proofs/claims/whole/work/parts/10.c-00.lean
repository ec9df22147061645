theorem hdc_X3_isSame : yX3_isSame.cls ≠ "java/lang/invoke/MethodHandle" ∧ yX3_isSame.cls ≠ "java/lang/invoke/VarHandle" ∧ (parseMethodDescriptor yX3_isSame.desc).map (fun d => d.parameters.length) = some 1 := by decide +kernel
set_option maxHeartbeats 4000000 in
set_option maxRecDepth 100000 in
theorem c_X3_isSame (l : Launch) (D : va_G) (cI cZ cM : ClassId) (a0 a1 a2 a3 a4 a5 b0 b1 b2 b3 b4 b5 : Nat) (a_n : Int32) (a_L : Nat → Int32) (a_U : Nat → Int32) (a_H : Nat → Int32) (a_O : Nat → Int32) (a_B : Nat → Int32) (b_n : Int32) (b_L : Nat → Int32) (b_U : Nat → Int32) (b_H : Nat → Int32) (b_O : Nat → Int32) (b_B : Nat → Int32) (fu : Nat) (r : Int32) (hf : m_X3_isSame fu a_n a_L a_U a_H a_O a_B b_n b_L b_U b_H b_O b_B = some r) : Met l yX3_isSame wsX3_isSame ({ frames := 0, cells := 0, slots := 0, locals := 0 }) (pR D cI cZ cM [(a0, .inr (3, [.int a_n, .ref a1, .ref a2, .ref a3, .ref a4, .ref a5])), (a1, .inl (cI, 10, .inl a_L)), (a2, .inl (cI, 10, .inl a_U)), (a3, .inl (cI, 12, .inl a_H)), (a4, .inl (cI, 10, .inl a_O)), (a5, .inl (cI, 10, .inl a_B)), (b0, .inr (3, [.int b_n, .ref b1, .ref b2, .ref b3, .ref b4, .ref b5])), (b1, .inl (cI, 10, .inl b_L)), (b2, .inl (cI, 10, .inl b_U)), (b3, .inl (cI, 12, .inl b_H)), (b4, .inl (cI, 10, .inl b_O)), (b5, .inl (cI, 10, .inl b_B))] [.ref a0, .ref b0]) (qR r) 0 0 (fun _ => False) := by
  refine Met.ofW (cc := cX3_isSame) (maxL := 3) (ret := (some .boolean)) (by decide) rfl ?_
  intro p e s m args below meth c s₁ B hml hv
  obtain ⟨rfl, hP, hK⟩ := hv
  have hx := B.exec
  have hb := B.bytes
  have hr := B.returns
  have hts := atoms_spec (ws := wsX3_isSame) B.pre
  have hown : s.vm.findClass RX3 = some m.cls := findClass_of_methodNamed B.named
  have hlocks := B.notSynchronized
  have hfl_9 := hts (.fieldLink RX3 9 "TermsFirst$Manual" "lengths" "[I") (List.mem_cons_of_mem _ (List.mem_append_left _ (List.mem_of_getElem? (i := 1) rfl)))
  have hfl_15 := hts (.fieldLink RX3 15 "TermsFirst$Manual" "used" "[I") (List.mem_cons_of_mem _ (List.mem_append_left _ (List.mem_of_getElem? (i := 2) rfl)))
  have hfl_18 := hts (.fieldLink RX3 18 "TermsFirst$Manual" "homes" "[I") (List.mem_cons_of_mem _ (List.mem_append_left _ (List.mem_of_getElem? (i := 5) rfl)))
  have hfl_21 := hts (.fieldLink RX3 21 "TermsFirst$Manual" "order" "[I") (List.mem_cons_of_mem _ (List.mem_append_left _ (List.mem_of_getElem? (i := 3) rfl)))
  have hfl_24 := hts (.fieldLink RX3 24 "TermsFirst$Manual" "before" "[I") (List.mem_cons_of_mem _ (List.mem_append_left _ (List.mem_of_getElem? (i := 4) rfl)))
  have hfl_31 := hts (.fieldLink RX3 31 "TermsFirst$Manual" "n" "I") (List.mem_cons_of_mem _ (List.mem_append_left _ (List.mem_of_getElem? (i := 0) rfl)))
  have hiX3 : ∀ w ∈ u_ws RX3 TX3 6, w ∈ wsX3_isSame := fun _ h => (List.mem_cons_of_mem _ (List.mem_append_right _ h))
  have hB_93 : ∀ (fn : Nat) (x2 : Int32), m_X3_isSame_93 a_H b_H fn x2 = some r → ∀ ls : Array Slot, lv_has ls 3 [(0, .ref a0), (1, .ref b0), (2, .int x2)] → W p l e (headSpec wsX3_isSame { frames := 0, cells := 0, slots := 0, locals := 0 }).room s m ([.ref a0, .ref b0] : List Value).toArray below meth c s.heap [] 0 0 (MQ below (qR r) ([.ref a0, .ref b0] : List Value).toArray s 0 0 (fun _ => False)) (F0 m 93 ls []) := by
    intro fn
    induction fn with
    | zero => intro x2 hf; rw [m_X3_isSame_93] at hf; cases hf
    | succ fn ih =>
      intro x2 hf ls hl
      rw [m_X3_isSame_93] at hf
      refine lv_iload_n hx hb dX3_isSame_93 rfl (lv_at hl 2 rfl) ?_
      refine lv_bipush (v := (nI 12)) hx hb dX3_isSame_94 bp_12 ?_
      refine lv_icmp_ge (tgt := 122) hx hb dX3_isSame_96 (by decide) (fun hc => ?_) (fun hc => ?_)
      · have hf := ifp hc hf
        refine lv_iconst (v := (nI 1)) hx hb dX3_isSame_122 ic_1 ?_
        cases hf
        exact W.zret hx hb hr zbl_1.1 (fun t ht _ => ⟨rfl, ht⟩) (fun _ h => nomatch h) dX3_isSame_123
      · have hf := ifn hc hf
        refine lv_aload_n hx hb dX3_isSame_99 rfl (lv_at hl 0 rfl) ?_
        refine va_get (D := D) (ci := 3) (v := .ref a3) (C := RX3) (T := TX3) (N := 6) hx hb hts hiX3 hown hK.1 hP 0 rfl rfl 3 (by decide) hfl_18 (fun _ h9 => h9) rfl dX3_isSame_100 ?_
        refine lv_iload_n hx hb dX3_isSame_103 rfl (lv_at hl 2 rfl) ?_
        obtain ⟨hi, hf⟩ := gd_some hf
        refine va_iald hx hb hK.1 hP 3 0 rfl rfl hi dX3_isSame_104 ?_
        refine lv_aload_n hx hb dX3_isSame_105 rfl (lv_at hl 1 rfl) ?_
        refine va_get (D := D) (ci := 3) (v := .ref b3) (C := RX3) (T := TX3) (N := 6) hx hb hts hiX3 hown hK.1 hP 6 rfl rfl 3 (by decide) hfl_18 (fun _ h9 => h9) rfl dX3_isSame_106 ?_
        refine lv_iload_n hx hb dX3_isSame_109 rfl (lv_at hl 2 rfl) ?_
        obtain ⟨hi, hf⟩ := gd_some hf
        refine va_iald hx hb hK.1 hP 9 0 rfl rfl hi dX3_isSame_110 ?_
        refine lv_icmp_eq (tgt := 116) hx hb dX3_isSame_111 (by decide) (fun hc => ?_) (fun hc => ?_)
        · have hf := ifp hc hf
          refine lv_iinc (v := (x2 + (nI 1))) (lv' := [(2, .int (x2 + (nI 1))), (0, .ref a0), (1, .ref b0)]) hx hb dX3_isSame_116 hl (k := 2) rfl (ii_1 _) (by decide) rfl (fun ls hl => ?_)
          refine lv_goto (tgt := 93) hx hb dX3_isSame_119 (by decide) ?_
          exact ih (x2 + (nI 1)) hf  ls (lv_sub hl [1, 2, 0] rfl)
        · have hf := ifn hc hf
          refine lv_iconst (v := (nI 0)) hx hb dX3_isSame_114 ic_0 ?_
          cases hf
          exact W.zret hx hb hr zbl_0.1 (fun t ht _ => ⟨rfl, ht⟩) (fun _ h => nomatch h) dX3_isSame_115
  have hB_15 : ∀ (fn : Nat) (x2 : Int32), m_X3_isSame_15 fu a_n a_L a_U a_H a_O a_B b_L b_U b_H b_O b_B fn x2 = some r → ∀ ls : Array Slot, lv_has ls 3 [(0, .ref a0), (1, .ref b0), (2, .int x2)] → W p l e (headSpec wsX3_isSame { frames := 0, cells := 0, slots := 0, locals := 0 }).room s m ([.ref a0, .ref b0] : List Value).toArray below meth c s.heap [] 0 0 (MQ below (qR r) ([.ref a0, .ref b0] : List Value).toArray s 0 0 (fun _ => False)) (F0 m 15 ls []) := by
    intro fn
    induction fn with
    | zero => intro x2 hf; rw [m_X3_isSame_15] at hf; cases hf
    | succ fn ih =>
      intro x2 hf ls hl
      rw [m_X3_isSame_15] at hf
      refine lv_iload_n hx hb dX3_isSame_15 rfl (lv_at hl 2 rfl) ?_
      refine lv_aload_n hx hb dX3_isSame_16 rfl (lv_at hl 0 rfl) ?_
      refine va_get (D := D) (ci := 3) (v := .int a_n) (C := RX3) (T := TX3) (N := 6) hx hb hts hiX3 hown hK.1 hP 0 rfl rfl 0 (by decide) hfl_31 (fun _ h9 => h9) rfl dX3_isSame_17 ?_
      refine lv_icmp_ge (tgt := 91) hx hb dX3_isSame_20 (by decide) (fun hc => ?_) (fun hc => ?_)
      · have hf := ifp hc hf
        refine lv_iconst (v := (nI 0)) hx hb dX3_isSame_91 ic_0 ?_
        refine lv_istore_n (lv' := [(2, .int (nI 0)), (0, .ref a0), (1, .ref b0)]) hx hb dX3_isSame_92 rfl hl (by decide) rfl (fun ls hl => ?_)
        exact hB_93 fu (nI 0) hf  ls (lv_sub hl [1, 2, 0] rfl)
      · have hf := ifn hc hf
        refine lv_aload_n hx hb dX3_isSame_23 rfl (lv_at hl 0 rfl) ?_
        refine va_get (D := D) (ci := 3) (v := .ref a1) (C := RX3) (T := TX3) (N := 6) hx hb hts hiX3 hown hK.1 hP 0 rfl rfl 1 (by decide) hfl_9 (fun _ h9 => h9) rfl dX3_isSame_24 ?_
        refine lv_iload_n hx hb dX3_isSame_27 rfl (lv_at hl 2 rfl) ?_
        obtain ⟨hi, hf⟩ := gd_some hf
        refine va_iald hx hb hK.1 hP 1 0 rfl rfl hi dX3_isSame_28 ?_
        refine lv_aload_n hx hb dX3_isSame_29 rfl (lv_at hl 1 rfl) ?_
        refine va_get (D := D) (ci := 3) (v := .ref b1) (C := RX3) (T := TX3) (N := 6) hx hb hts hiX3 hown hK.1 hP 6 rfl rfl 1 (by decide) hfl_9 (fun _ h9 => h9) rfl dX3_isSame_30 ?_
        refine lv_iload_n hx hb dX3_isSame_33 rfl (lv_at hl 2 rfl) ?_
        obtain ⟨hi, hf⟩ := gd_some hf
        refine va_iald hx hb hK.1 hP 7 0 rfl rfl hi dX3_isSame_34 ?_
        refine lv_icmp_ne (tgt := 83) hx hb dX3_isSame_35 (by decide) (fun hc => ?_) (fun hc => ?_)
        · have hf := ifn hc hf
          refine lv_iconst (v := (nI 0)) hx hb dX3_isSame_83 ic_0 ?_
          cases hf
          exact W.zret hx hb hr zbl_0.1 (fun t ht _ => ⟨rfl, ht⟩) (fun _ h => nomatch h) dX3_isSame_84
        · have hf := ifp hc hf
          refine lv_aload_n hx hb dX3_isSame_38 rfl (lv_at hl 0 rfl) ?_
          refine va_get (D := D) (ci := 3) (v := .ref a2) (C := RX3) (T := TX3) (N := 6) hx hb hts hiX3 hown hK.1 hP 0 rfl rfl 2 (by decide) hfl_15 (fun _ h9 => h9) rfl dX3_isSame_39 ?_
          refine lv_iload_n hx hb dX3_isSame_42 rfl (lv_at hl 2 rfl) ?_
          obtain ⟨hi, hf⟩ := gd_some hf
          refine va_iald hx hb hK.1 hP 2 0 rfl rfl hi dX3_isSame_43 ?_
          refine lv_aload_n hx hb dX3_isSame_44 rfl (lv_at hl 1 rfl) ?_
          refine va_get (D := D) (ci := 3) (v := .ref b2) (C := RX3) (T := TX3) (N := 6) hx hb hts hiX3 hown hK.1 hP 6 rfl rfl 2 (by decide) hfl_15 (fun _ h9 => h9) rfl dX3_isSame_45 ?_
          refine lv_iload_n hx hb dX3_isSame_48 rfl (lv_at hl 2 rfl) ?_
          obtain ⟨hi, hf⟩ := gd_some hf
          refine va_iald hx hb hK.1 hP 8 0 rfl rfl hi dX3_isSame_49 ?_
          refine lv_icmp_ne (tgt := 83) hx hb dX3_isSame_50 (by decide) (fun hc => ?_) (fun hc => ?_)
          · have hf := ifn hc hf
            refine lv_iconst (v := (nI 0)) hx hb dX3_isSame_83 ic_0 ?_
            cases hf
            exact W.zret hx hb hr zbl_0.1 (fun t ht _ => ⟨rfl, ht⟩) (fun _ h => nomatch h) dX3_isSame_84
          · have hf := ifp hc hf
            refine lv_aload_n hx hb dX3_isSame_53 rfl (lv_at hl 0 rfl) ?_
            refine va_get (D := D) (ci := 3) (v := .ref a4) (C := RX3) (T := TX3) (N := 6) hx hb hts hiX3 hown hK.1 hP 0 rfl rfl 4 (by decide) hfl_21 (fun _ h9 => h9) rfl dX3_isSame_54 ?_
            refine lv_iload_n hx hb dX3_isSame_57 rfl (lv_at hl 2 rfl) ?_
            obtain ⟨hi, hf⟩ := gd_some hf
            refine va_iald hx hb hK.1 hP 4 0 rfl rfl hi dX3_isSame_58 ?_
            refine lv_aload_n hx hb dX3_isSame_59 rfl (lv_at hl 1 rfl) ?_
            refine va_get (D := D) (ci := 3) (v := .ref b4) (C := RX3) (T := TX3) (N := 6) hx hb hts hiX3 hown hK.1 hP 6 rfl rfl 4 (by decide) hfl_21 (fun _ h9 => h9) rfl dX3_isSame_60 ?_
            refine lv_iload_n hx hb dX3_isSame_63 rfl (lv_at hl 2 rfl) ?_
            obtain ⟨hi, hf⟩ := gd_some hf
            refine va_iald hx hb hK.1 hP 10 0 rfl rfl hi dX3_isSame_64 ?_
            refine lv_icmp_ne (tgt := 83) hx hb dX3_isSame_65 (by decide) (fun hc => ?_) (fun hc => ?_)
            · have hf := ifn hc hf
              refine lv_iconst (v := (nI 0)) hx hb dX3_isSame_83 ic_0 ?_
              cases hf
              exact W.zret hx hb hr zbl_0.1 (fun t ht _ => ⟨rfl, ht⟩) (fun _ h => nomatch h) dX3_isSame_84
            · have hf := ifp hc hf
              refine lv_aload_n hx hb dX3_isSame_68 rfl (lv_at hl 0 rfl) ?_
              refine va_get (D := D) (ci := 3) (v := .ref a5) (C := RX3) (T := TX3) (N := 6) hx hb hts hiX3 hown hK.1 hP 0 rfl rfl 5 (by decide) hfl_24 (fun _ h9 => h9) rfl dX3_isSame_69 ?_
              refine lv_iload_n hx hb dX3_isSame_72 rfl (lv_at hl 2 rfl) ?_
              obtain ⟨hi, hf⟩ := gd_some hf
              refine va_iald hx hb hK.1 hP 5 0 rfl rfl hi dX3_isSame_73 ?_
              refine lv_aload_n hx hb dX3_isSame_74 rfl (lv_at hl 1 rfl) ?_
              refine va_get (D := D) (ci := 3) (v := .ref b5) (C := RX3) (T := TX3) (N := 6) hx hb hts hiX3 hown hK.1 hP 6 rfl rfl 5 (by decide) hfl_24 (fun _ h9 => h9) rfl dX3_isSame_75 ?_
              refine lv_iload_n hx hb dX3_isSame_78 rfl (lv_at hl 2 rfl) ?_
              obtain ⟨hi, hf⟩ := gd_some hf
              refine va_iald hx hb hK.1 hP 11 0 rfl rfl hi dX3_isSame_79 ?_
              refine lv_icmp_eq (tgt := 85) hx hb dX3_isSame_80 (by decide) (fun hc => ?_) (fun hc => ?_)
              · have hf := ifp hc hf
                refine lv_iinc (v := (x2 + (nI 1))) (lv' := [(2, .int (x2 + (nI 1))), (0, .ref a0), (1, .ref b0)]) hx hb dX3_isSame_85 hl (k := 2) rfl (ii_1 _) (by decide) rfl (fun ls hl => ?_)
                refine lv_goto (tgt := 15) hx hb dX3_isSame_88 (by decide) ?_
                exact ih (x2 + (nI 1)) hf  ls (lv_sub hl [1, 2, 0] rfl)
              · have hf := ifn hc hf
                refine lv_iconst (v := (nI 0)) hx hb dX3_isSame_83 ic_0 ?_
                cases hf
                exact W.zret hx hb hr zbl_0.1 (fun t ht _ => ⟨rfl, ht⟩) (fun _ h => nomatch h) dX3_isSame_84
  have hl := lv_entry ([.ref a0, .ref b0]) (n := 3) (Nat.le_of_ble_eq_true rfl)
  rw [lg_entry_eq]
  generalize (lg_sl ([.ref a0, .ref b0]) ++ List.replicate (3 - (lg_sl ([.ref a0, .ref b0])).length) Slot.unset).toArray = ls at hl ⊢
  have hl : lv_has ls 3 [(0, .ref a0), (1, .ref b0)] := hl
  unfold m_X3_isSame at hf
  refine lv_aload_n hx hb dX3_isSame_0 rfl (lv_at hl 0 rfl) ?_
  refine va_get (D := D) (ci := 3) (v := .int a_n) (C := RX3) (T := TX3) (N := 6) hx hb hts hiX3 hown hK.1 hP 0 rfl rfl 0 (by decide) hfl_31 (fun _ h9 => h9) rfl dX3_isSame_1 ?_
  refine lv_aload_n hx hb dX3_isSame_4 rfl (lv_at hl 1 rfl) ?_
  refine va_get (D := D) (ci := 3) (v := .int b_n) (C := RX3) (T := TX3) (N := 6) hx hb hts hiX3 hown hK.1 hP 6 rfl rfl 0 (by decide) hfl_31 (fun _ h9 => h9) rfl dX3_isSame_5 ?_
  refine lv_icmp_eq (tgt := 13) hx hb dX3_isSame_8 (by decide) (fun hc => ?_) (fun hc => ?_)
  · have hf := ifp hc hf
    refine lv_iconst (v := (nI 0)) hx hb dX3_isSame_13 ic_0 ?_
    refine lv_istore_n (lv' := [(2, .int (nI 0)), (0, .ref a0), (1, .ref b0)]) hx hb dX3_isSame_14 rfl hl (by decide) rfl (fun ls hl => ?_)
    exact hB_15 fu (nI 0) hf  ls (lv_sub hl [1, 2, 0] rfl)
  · have hf := ifn hc hf
    refine lv_iconst (v := (nI 0)) hx hb dX3_isSame_11 ic_0 ?_
    cases hf
    exact W.zret hx hb hr zbl_0.1 (fun t ht _ => ⟨rfl, ht⟩) (fun _ h => nomatch h) dX3_isSame_12
theorem hdc_X3_become : yX3_become.cls ≠ "java/lang/invoke/MethodHandle" ∧ yX3_become.cls ≠ "java/lang/invoke/VarHandle" ∧ (parseMethodDescriptor yX3_become.desc).map (fun d => d.parameters.length) = some 1 := by decide +kernel
set_option maxHeartbeats 4000000 in
set_option maxRecDepth 100000 in
theorem c_X3_become (l : Launch) (D : va_G) (cI cZ cM : ClassId) (a0 a1 a2 a3 a4 a5 b0 b1 b2 b3 b4 b5 : Nat) (sz : Nat) (a_n : Int32) (a_L : Nat → Int32) (a_U : Nat → Int32) (a_H : Nat → Int32) (a_O : Nat → Int32) (a_B : Nat → Int32) (b_n : Int32) (b_L : Nat → Int32) (b_U : Nat → Int32) (b_H : Nat → Int32) (b_O : Nat → Int32) (b_B : Nat → Int32) (fu : Nat) (a_n' : Int32) (a_L' : Nat → Int32) (a_U' : Nat → Int32) (a_H' : Nat → Int32) (a_O' : Nat → Int32) (a_B' : Nat → Int32) (hf : m_X3_become fu a_L a_U a_H a_O a_B b_n b_L b_U b_H b_O b_B = some (a_n', a_L', a_U', a_H', a_O', a_B')) : Met l yX3_become wsX3_become ({ frames := 0, cells := 0, slots := 0, locals := 0 }) (pM D cI cZ cM sz [(a0, .inr (3, [.int a_n, .ref a1, .ref a2, .ref a3, .ref a4, .ref a5])), (a1, .inl (cI, 10, .inl a_L)), (a2, .inl (cI, 10, .inl a_U)), (a3, .inl (cI, 12, .inl a_H)), (a4, .inl (cI, 10, .inl a_O)), (a5, .inl (cI, 10, .inl a_B)), (b0, .inr (3, [.int b_n, .ref b1, .ref b2, .ref b3, .ref b4, .ref b5])), (b1, .inl (cI, 10, .inl b_L)), (b2, .inl (cI, 10, .inl b_U)), (b3, .inl (cI, 12, .inl b_H)), (b4, .inl (cI, 10, .inl b_O)), (b5, .inl (cI, 10, .inl b_B))] [.ref a0, .ref b0]) (qV D [(a0, .inr (3, [.int a_n', .ref a1, .ref a2, .ref a3, .ref a4, .ref a5])), (a1, .inl (cI, 10, .inl a_L')), (a2, .inl (cI, 10, .inl a_U')), (a3, .inl (cI, 12, .inl a_H')), (a4, .inl (cI, 10, .inl a_O')), (a5, .inl (cI, 10, .inl a_B')), (b0, .inr (3, [.int b_n, .ref b1, .ref b2, .ref b3, .ref b4, .ref b5])), (b1, .inl (cI, 10, .inl b_L)), (b2, .inl (cI, 10, .inl b_U)), (b3, .inl (cI, 12, .inl b_H)), (b4, .inl (cI, 10, .inl b_O)), (b5, .inl (cI, 10, .inl b_B))] (va_A [(a0, .inr (3, [.int a_n, .ref a1, .ref a2, .ref a3, .ref a4, .ref a5])), (a1, .inl (cI, 10, .inl a_L)), (a2, .inl (cI, 10, .inl a_U)), (a3, .inl (cI, 12, .inl a_H)), (a4, .inl (cI, 10, .inl a_O)), (a5, .inl (cI, 10, .inl a_B)), (b0, .inr (3, [.int b_n, .ref b1, .ref b2, .ref b3, .ref b4, .ref b5])), (b1, .inl (cI, 10, .inl b_L)), (b2, .inl (cI, 10, .inl b_U)), (b3, .inl (cI, 12, .inl b_H)), (b4, .inl (cI, 10, .inl b_O)), (b5, .inl (cI, 10, .inl b_B))] sz)) 0 0 (va_A [(a0, .inr (3, [.int a_n, .ref a1, .ref a2, .ref a3, .ref a4, .ref a5])), (a1, .inl (cI, 10, .inl a_L)), (a2, .inl (cI, 10, .inl a_U)), (a3, .inl (cI, 12, .inl a_H)), (a4, .inl (cI, 10, .inl a_O)), (a5, .inl (cI, 10, .inl a_B)), (b0, .inr (3, [.int b_n, .ref b1, .ref b2, .ref b3, .ref b4, .ref b5])), (b1, .inl (cI, 10, .inl b_L)), (b2, .inl (cI, 10, .inl b_U)), (b3, .inl (cI, 12, .inl b_H)), (b4, .inl (cI, 10, .inl b_O)), (b5, .inl (cI, 10, .inl b_B))] sz) := by
  refine Met.ofW (cc := cX3_become) (maxL := 3) (ret := none) (by decide) rfl ?_
  intro p e s m args below meth c s₁ B hml hv
  obtain ⟨rfl, hsz, hP, hK, hD0⟩ := hv
  have hx := B.exec
  have hb := B.bytes
  have hr := B.returns
  have hts := atoms_spec (ws := wsX3_become) B.pre
  have hown : s.vm.findClass RX3 = some m.cls := findClass_of_methodNamed B.named
  have hlocks := B.notSynchronized
  subst hsz
  have hD := hD0.self (sz := s.heap.size)
  generalize hAe : va_A [(a0, .inr (3, [.int a_n, .ref a1, .ref a2, .ref a3, .ref a4, .ref a5])), (a1, .inl (cI, 10, .inl a_L)), (a2, .inl (cI, 10, .inl a_U)), (a3, .inl (cI, 12, .inl a_H)), (a4, .inl (cI, 10, .inl a_O)), (a5, .inl (cI, 10, .inl a_B)), (b0, .inr (3, [.int b_n, .ref b1, .ref b2, .ref b3, .ref b4, .ref b5])), (b1, .inl (cI, 10, .inl b_L)), (b2, .inl (cI, 10, .inl b_U)), (b3, .inl (cI, 12, .inl b_H)), (b4, .inl (cI, 10, .inl b_O)), (b5, .inl (cI, 10, .inl b_B))] s.heap.size = A at hD ⊢
  have hA : ∀ q : Nat, s.heap.size ≤ q → A q := fun q h => by rw [← hAe]; exact Or.inr h
  clear hAe hD0
  have hfl_9 := hts (.fieldLink RX3 9 "TermsFirst$Manual" "lengths" "[I") (List.mem_cons_of_mem _ (List.mem_append_left _ (List.mem_of_getElem? (i := 1) rfl)))
  have hfl_15 := hts (.fieldLink RX3 15 "TermsFirst$Manual" "used" "[I") (List.mem_cons_of_mem _ (List.mem_append_left _ (List.mem_of_getElem? (i := 2) rfl)))
  have hfl_18 := hts (.fieldLink RX3 18 "TermsFirst$Manual" "homes" "[I") (List.mem_cons_of_mem _ (List.mem_append_left _ (List.mem_of_getElem? (i := 5) rfl)))
  have hfl_21 := hts (.fieldLink RX3 21 "TermsFirst$Manual" "order" "[I") (List.mem_cons_of_mem _ (List.mem_append_left _ (List.mem_of_getElem? (i := 3) rfl)))
  have hfl_24 := hts (.fieldLink RX3 24 "TermsFirst$Manual" "before" "[I") (List.mem_cons_of_mem _ (List.mem_append_left _ (List.mem_of_getElem? (i := 4) rfl)))
  have hfl_31 := hts (.fieldLink RX3 31 "TermsFirst$Manual" "n" "I") (List.mem_cons_of_mem _ (List.mem_append_left _ (List.mem_of_getElem? (i := 0) rfl)))
  have hiX3 : ∀ w ∈ u_ws RX3 TX3 6, w ∈ wsX3_become := fun _ h => (List.mem_cons_of_mem _ (List.mem_append_right _ h))
  have hB_72 : ∀ (a_n : Int32) (a_L : Nat → Int32) (a_U : Nat → Int32) (a_O : Nat → Int32) (a_B : Nat → Int32) (fn : Nat) (x2 : Int32) (a_H : Nat → Int32), m_X3_become_72 a_n a_L a_U a_O a_B b_H fn a_H x2 = some (a_n', a_L', a_U', a_H', a_O', a_B') → ∀ (H : Heap) (locs : List Loc), va_P D vwCl [(a0, .inr (3, [.int a_n, .ref a1, .ref a2, .ref a3, .ref a4, .ref a5])), (a1, .inl (cI, 10, .inl a_L)), (a2, .inl (cI, 10, .inl a_U)), (a3, .inl (cI, 12, .inl a_H)), (a4, .inl (cI, 10, .inl a_O)), (a5, .inl (cI, 10, .inl a_B)), (b0, .inr (3, [.int b_n, .ref b1, .ref b2, .ref b3, .ref b4, .ref b5])), (b1, .inl (cI, 10, .inl b_L)), (b2, .inl (cI, 10, .inl b_U)), (b3, .inl (cI, 12, .inl b_H)), (b4, .inl (cI, 10, .inl b_O)), (b5, .inl (cI, 10, .inl b_B))] H → va_D A [(a0, .inr (3, [.int a_n, .ref a1, .ref a2, .ref a3, .ref a4, .ref a5])), (a1, .inl (cI, 10, .inl a_L)), (a2, .inl (cI, 10, .inl a_U)), (a3, .inl (cI, 12, .inl a_H)), (a4, .inl (cI, 10, .inl a_O)), (a5, .inl (cI, 10, .inl a_B)), (b0, .inr (3, [.int b_n, .ref b1, .ref b2, .ref b3, .ref b4, .ref b5])), (b1, .inl (cI, 10, .inl b_L)), (b2, .inl (cI, 10, .inl b_U)), (b3, .inl (cI, 12, .inl b_H)), (b4, .inl (cI, 10, .inl b_O)), (b5, .inl (cI, 10, .inl b_B))] → va_S A s.heap H locs → ∀ ls : Array Slot, lv_has ls 3 [(0, .ref a0), (1, .ref b0), (2, .int x2)] → W p l e (headSpec wsX3_become { frames := 0, cells := 0, slots := 0, locals := 0 }).room s m ([.ref a0, .ref b0] : List Value).toArray below meth c H locs 0 0 (MQ below (qV D [(a0, .inr (3, [.int a_n', .ref a1, .ref a2, .ref a3, .ref a4, .ref a5])), (a1, .inl (cI, 10, .inl a_L')), (a2, .inl (cI, 10, .inl a_U')), (a3, .inl (cI, 12, .inl a_H')), (a4, .inl (cI, 10, .inl a_O')), (a5, .inl (cI, 10, .inl a_B')), (b0, .inr (3, [.int b_n, .ref b1, .ref b2, .ref b3, .ref b4, .ref b5])), (b1, .inl (cI, 10, .inl b_L)), (b2, .inl (cI, 10, .inl b_U)), (b3, .inl (cI, 12, .inl b_H)), (b4, .inl (cI, 10, .inl b_O)), (b5, .inl (cI, 10, .inl b_B))] A) ([.ref a0, .ref b0] : List Value).toArray s 0 0 A) (F0 m 72 ls []) := by
    intro a_n a_L a_U a_O a_B fn
    induction fn with
    | zero => intro x2 a_H hf; rw [m_X3_become_72] at hf; cases hf
    | succ fn ih =>
      intro x2 a_H hf H locs hP hD hS ls hl
      rw [m_X3_become_72] at hf
      refine lv_iload_n hx hb dX3_become_72 rfl (lv_at hl 2 rfl) ?_
      refine lv_bipush (v := (nI 12)) hx hb dX3_become_73 bp_12 ?_
      refine lv_icmp_ge (tgt := 96) hx hb dX3_become_75 (by decide) (fun hc => ?_) (fun hc => ?_)
      · have hf := ifp hc hf
        cases hf
        exact W.vret hx hb hr (fun t ht _ => ⟨⟨rfl, by rw [ht]; exact hP, hD⟩, hS.F ht⟩) hS.2.2 dX3_become_96
      · have hf := ifn hc hf
        refine lv_aload_n hx hb dX3_become_78 rfl (lv_at hl 0 rfl) ?_
        refine va_get (D := D) (ci := 3) (v := .ref a3) (C := RX3) (T := TX3) (N := 6) hx hb hts hiX3 hown hK.1 hP 0 rfl rfl 3 (by decide) hfl_18 (fun _ h9 => h9) rfl dX3_become_79 ?_
        refine lv_iload_n hx hb dX3_become_82 rfl (lv_at hl 2 rfl) ?_
        refine lv_aload_n hx hb dX3_become_83 rfl (lv_at hl 1 rfl) ?_
        refine va_get (D := D) (ci := 3) (v := .ref b3) (C := RX3) (T := TX3) (N := 6) hx hb hts hiX3 hown hK.1 hP 6 rfl rfl 3 (by decide) hfl_18 (fun _ h9 => h9) rfl dX3_become_84 ?_
        refine lv_iload_n hx hb dX3_become_87 rfl (lv_at hl 2 rfl) ?_
        obtain ⟨hi, hf⟩ := gd_some hf
        refine va_iald hx hb hK.1 hP 9 0 rfl rfl hi dX3_become_88 ?_
        obtain ⟨hi, hf⟩ := gd_some hf
        refine va_iast hx hb hK.1 hP hD hS 3 0 rfl rfl hi dX3_become_89 (fun H locs hP hD hS => ?_)
        have hP : va_P D vwCl [(a0, .inr (3, [.int a_n, .ref a1, .ref a2, .ref a3, .ref a4, .ref a5])), (a1, .inl (cI, 10, .inl a_L)), (a2, .inl (cI, 10, .inl a_U)), (a3, .inl (cI, 12, .inl (upd a_H x2.toNatClampNeg (b_H x2.toNatClampNeg)))), (a4, .inl (cI, 10, .inl a_O)), (a5, .inl (cI, 10, .inl a_B)), (b0, .inr (3, [.int b_n, .ref b1, .ref b2, .ref b3, .ref b4, .ref b5])), (b1, .inl (cI, 10, .inl b_L)), (b2, .inl (cI, 10, .inl b_U)), (b3, .inl (cI, 12, .inl b_H)), (b4, .inl (cI, 10, .inl b_O)), (b5, .inl (cI, 10, .inl b_B))] H := hP
        have hD : va_D A [(a0, .inr (3, [.int a_n, .ref a1, .ref a2, .ref a3, .ref a4, .ref a5])), (a1, .inl (cI, 10, .inl a_L)), (a2, .inl (cI, 10, .inl a_U)), (a3, .inl (cI, 12, .inl (upd a_H x2.toNatClampNeg (b_H x2.toNatClampNeg)))), (a4, .inl (cI, 10, .inl a_O)), (a5, .inl (cI, 10, .inl a_B)), (b0, .inr (3, [.int b_n, .ref b1, .ref b2, .ref b3, .ref b4, .ref b5])), (b1, .inl (cI, 10, .inl b_L)), (b2, .inl (cI, 10, .inl b_U)), (b3, .inl (cI, 12, .inl b_H)), (b4, .inl (cI, 10, .inl b_O)), (b5, .inl (cI, 10, .inl b_B))] := hD
        refine lv_iinc (v := (x2 + (nI 1))) (lv' := [(2, .int (x2 + (nI 1))), (0, .ref a0), (1, .ref b0)]) hx hb dX3_become_90 hl (k := 2) rfl (ii_1 _) (by decide) rfl (fun ls hl => ?_)
        refine lv_goto (tgt := 72) hx hb dX3_become_93 (by decide) ?_
        exact ih (x2 + (nI 1)) (upd a_H x2.toNatClampNeg (b_H x2.toNatClampNeg)) hf _ _ hP hD hS ls (lv_sub hl [1, 2, 0] rfl)
  have hB_10 : ∀ (a_n : Int32) (fn : Nat) (x2 : Int32) (a_L : Nat → Int32) (a_U : Nat → Int32) (a_O : Nat → Int32) (a_B : Nat → Int32), m_X3_become_10 fu a_n a_H b_L b_U b_H b_O b_B fn a_L a_U a_O a_B x2 = some (a_n', a_L', a_U', a_H', a_O', a_B') → ∀ (H : Heap) (locs : List Loc), va_P D vwCl [(a0, .inr (3, [.int a_n, .ref a1, .ref a2, .ref a3, .ref a4, .ref a5])), (a1, .inl (cI, 10, .inl a_L)), (a2, .inl (cI, 10, .inl a_U)), (a3, .inl (cI, 12, .inl a_H)), (a4, .inl (cI, 10, .inl a_O)), (a5, .inl (cI, 10, .inl a_B)), (b0, .inr (3, [.int b_n, .ref b1, .ref b2, .ref b3, .ref b4, .ref b5])), (b1, .inl (cI, 10, .inl b_L)), (b2, .inl (cI, 10, .inl b_U)), (b3, .inl (cI, 12, .inl b_H)), (b4, .inl (cI, 10, .inl b_O)), (b5, .inl (cI, 10, .inl b_B))] H → va_D A [(a0, .inr (3, [.int a_n, .ref a1, .ref a2, .ref a3, .ref a4, .ref a5])), (a1, .inl (cI, 10, .inl a_L)), (a2, .inl (cI, 10, .inl a_U)), (a3, .inl (cI, 12, .inl a_H)), (a4, .inl (cI, 10, .inl a_O)), (a5, .inl (cI, 10, .inl a_B)), (b0, .inr (3, [.int b_n, .ref b1, .ref b2, .ref b3, .ref b4, .ref b5])), (b1, .inl (cI, 10, .inl b_L)), (b2, .inl (cI, 10, .inl b_U)), (b3, .inl (cI, 12, .inl b_H)), (b4, .inl (cI, 10, .inl b_O)), (b5, .inl (cI, 10, .inl b_B))] → va_S A s.heap H locs → ∀ ls : Array Slot, lv_has ls 3 [(0, .ref a0), (1, .ref b0), (2, .int x2)] → W p l e (headSpec wsX3_become { frames := 0, cells := 0, slots := 0, locals := 0 }).room s m ([.ref a0, .ref b0] : List Value).toArray below meth c H locs 0 0 (MQ below (qV D [(a0, .inr (3, [.int a_n', .ref a1, .ref a2, .ref a3, .ref a4, .ref a5])), (a1, .inl (cI, 10, .inl a_L')), (a2, .inl (cI, 10, .inl a_U')), (a3, .inl (cI, 12, .inl a_H')), (a4, .inl (cI, 10, .inl a_O')), (a5, .inl (cI, 10, .inl a_B')), (b0, .inr (3, [.int b_n, .ref b1, .ref b2, .ref b3, .ref b4, .ref b5])), (b1, .inl (cI, 10, .inl b_L)), (b2, .inl (cI, 10, .inl b_U)), (b3, .inl (cI, 12, .inl b_H)), (b4, .inl (cI, 10, .inl b_O)), (b5, .inl (cI, 10, .inl b_B))] A) ([.ref a0, .ref b0] : List Value).toArray s 0 0 A) (F0 m 10 ls []) := by
    intro a_n fn
    induction fn with
    | zero => intro x2 a_L a_U a_O a_B hf; rw [m_X3_become_10] at hf; cases hf
    | succ fn ih =>
      intro x2 a_L a_U a_O a_B hf H locs hP hD hS ls hl
      rw [m_X3_become_10] at hf
      refine lv_iload_n hx hb dX3_become_10 rfl (lv_at hl 2 rfl) ?_
      refine lv_bipush (v := (nI 10)) hx hb dX3_become_11 bp_10 ?_
      refine lv_icmp_ge (tgt := 70) hx hb dX3_become_13 (by decide) (fun hc => ?_) (fun hc => ?_)
      · have hf := ifp hc hf
        refine lv_iconst (v := (nI 0)) hx hb dX3_become_70 ic_0 ?_
        refine lv_istore_n (lv' := [(2, .int (nI 0)), (0, .ref a0), (1, .ref b0)]) hx hb dX3_become_71 rfl hl (by decide) rfl (fun ls hl => ?_)
        exact hB_72 a_n a_L a_U a_O a_B fu (nI 0) a_H hf _ _ hP hD hS ls (lv_sub hl [1, 2, 0] rfl)
      · have hf := ifn hc hf
        refine lv_aload_n hx hb dX3_become_16 rfl (lv_at hl 0 rfl) ?_
        refine va_get (D := D) (ci := 3) (v := .ref a1) (C := RX3) (T := TX3) (N := 6) hx hb hts hiX3 hown hK.1 hP 0 rfl rfl 1 (by decide) hfl_9 (fun _ h9 => h9) rfl dX3_become_17 ?_
        refine lv_iload_n hx hb dX3_become_20 rfl (lv_at hl 2 rfl) ?_
        refine lv_aload_n hx hb dX3_become_21 rfl (lv_at hl 1 rfl) ?_
        refine va_get (D := D) (ci := 3) (v := .ref b1) (C := RX3) (T := TX3) (N := 6) hx hb hts hiX3 hown hK.1 hP 6 rfl rfl 1 (by decide) hfl_9 (fun _ h9 => h9) rfl dX3_become_22 ?_
        refine lv_iload_n hx hb dX3_become_25 rfl (lv_at hl 2 rfl) ?_
        obtain ⟨hi, hf⟩ := gd_some hf
        refine va_iald hx hb hK.1 hP 7 0 rfl rfl hi dX3_become_26 ?_
        obtain ⟨hi, hf⟩ := gd_some hf
        refine va_iast hx hb hK.1 hP hD hS 1 0 rfl rfl hi dX3_become_27 (fun H locs hP hD hS => ?_)
        have hP : va_P D vwCl [(a0, .inr (3, [.int a_n, .ref a1, .ref a2, .ref a3, .ref a4, .ref a5])), (a1, .inl (cI, 10, .inl (upd a_L x2.toNatClampNeg (b_L x2.toNatClampNeg)))), (a2, .inl (cI, 10, .inl a_U)), (a3, .inl (cI, 12, .inl a_H)), (a4, .inl (cI, 10, .inl a_O)), (a5, .inl (cI, 10, .inl a_B)), (b0, .inr (3, [.int b_n, .ref b1, .ref b2, .ref b3, .ref b4, .ref b5])), (b1, .inl (cI, 10, .inl b_L)), (b2, .inl (cI, 10, .inl b_U)), (b3, .inl (cI, 12, .inl b_H)), (b4, .inl (cI, 10, .inl b_O)), (b5, .inl (cI, 10, .inl b_B))] H := hP
        have hD : va_D A [(a0, .inr (3, [.int a_n, .ref a1, .ref a2, .ref a3, .ref a4, .ref a5])), (a1, .inl (cI, 10, .inl (upd a_L x2.toNatClampNeg (b_L x2.toNatClampNeg)))), (a2, .inl (cI, 10, .inl a_U)), (a3, .inl (cI, 12, .inl a_H)), (a4, .inl (cI, 10, .inl a_O)), (a5, .inl (cI, 10, .inl a_B)), (b0, .inr (3, [.int b_n, .ref b1, .ref b2, .ref b3, .ref b4, .ref b5])), (b1, .inl (cI, 10, .inl b_L)), (b2, .inl (cI, 10, .inl b_U)), (b3, .inl (cI, 12, .inl b_H)), (b4, .inl (cI, 10, .inl b_O)), (b5, .inl (cI, 10, .inl b_B))] := hD
        refine lv_aload_n hx hb dX3_become_28 rfl (lv_at hl 0 rfl) ?_
        refine va_get (D := D) (ci := 3) (v := .ref a2) (C := RX3) (T := TX3) (N := 6) hx hb hts hiX3 hown hK.1 hP 0 rfl rfl 2 (by decide) hfl_15 (fun _ h9 => h9) rfl dX3_become_29 ?_
        refine lv_iload_n hx hb dX3_become_32 rfl (lv_at hl 2 rfl) ?_
        refine lv_aload_n hx hb dX3_become_33 rfl (lv_at hl 1 rfl) ?_
        refine va_get (D := D) (ci := 3) (v := .ref b2) (C := RX3) (T := TX3) (N := 6) hx hb hts hiX3 hown hK.1 hP 6 rfl rfl 2 (by decide) hfl_15 (fun _ h9 => h9) rfl dX3_become_34 ?_
        refine lv_iload_n hx hb dX3_become_37 rfl (lv_at hl 2 rfl) ?_
        obtain ⟨hi, hf⟩ := gd_some hf
        refine va_iald hx hb hK.1 hP 8 0 rfl rfl hi dX3_become_38 ?_
        obtain ⟨hi, hf⟩ := gd_some hf
        refine va_iast hx hb hK.1 hP hD hS 2 0 rfl rfl hi dX3_become_39 (fun H locs hP hD hS => ?_)
        have hP : va_P D vwCl [(a0, .inr (3, [.int a_n, .ref a1, .ref a2, .ref a3, .ref a4, .ref a5])), (a1, .inl (cI, 10, .inl (upd a_L x2.toNatClampNeg (b_L x2.toNatClampNeg)))), (a2, .inl (cI, 10, .inl (upd a_U x2.toNatClampNeg (b_U x2.toNatClampNeg)))), (a3, .inl (cI, 12, .inl a_H)), (a4, .inl (cI, 10, .inl a_O)), (a5, .inl (cI, 10, .inl a_B)), (b0, .inr (3, [.int b_n, .ref b1, .ref b2, .ref b3, .ref b4, .ref b5])), (b1, .inl (cI, 10, .inl b_L)), (b2, .inl (cI, 10, .inl b_U)), (b3, .inl (cI, 12, .inl b_H)), (b4, .inl (cI, 10, .inl b_O)), (b5, .inl (cI, 10, .inl b_B))] H := hP
        have hD : va_D A [(a0, .inr (3, [.int a_n, .ref a1, .ref a2, .ref a3, .ref a4, .ref a5])), (a1, .inl (cI, 10, .inl (upd a_L x2.toNatClampNeg (b_L x2.toNatClampNeg)))), (a2, .inl (cI, 10, .inl (upd a_U x2.toNatClampNeg (b_U x2.toNatClampNeg)))), (a3, .inl (cI, 12, .inl a_H)), (a4, .inl (cI, 10, .inl a_O)), (a5, .inl (cI, 10, .inl a_B)), (b0, .inr (3, [.int b_n, .ref b1, .ref b2, .ref b3, .ref b4, .ref b5])), (b1, .inl (cI, 10, .inl b_L)), (b2, .inl (cI, 10, .inl b_U)), (b3, .inl (cI, 12, .inl b_H)), (b4, .inl (cI, 10, .inl b_O)), (b5, .inl (cI, 10, .inl b_B))] := hD
        refine lv_aload_n hx hb dX3_become_40 rfl (lv_at hl 0 rfl) ?_
        refine va_get (D := D) (ci := 3) (v := .ref a4) (C := RX3) (T := TX3) (N := 6) hx hb hts hiX3 hown hK.1 hP 0 rfl rfl 4 (by decide) hfl_21 (fun _ h9 => h9) rfl dX3_become_41 ?_
        refine lv_iload_n hx hb dX3_become_44 rfl (lv_at hl 2 rfl) ?_
        refine lv_aload_n hx hb dX3_become_45 rfl (lv_at hl 1 rfl) ?_
        refine va_get (D := D) (ci := 3) (v := .ref b4) (C := RX3) (T := TX3) (N := 6) hx hb hts hiX3 hown hK.1 hP 6 rfl rfl 4 (by decide) hfl_21 (fun _ h9 => h9) rfl dX3_become_46 ?_
        refine lv_iload_n hx hb dX3_become_49 rfl (lv_at hl 2 rfl) ?_
        obtain ⟨hi, hf⟩ := gd_some hf
        refine va_iald hx hb hK.1 hP 10 0 rfl rfl hi dX3_become_50 ?_
        obtain ⟨hi, hf⟩ := gd_some hf
        refine va_iast hx hb hK.1 hP hD hS 4 0 rfl rfl hi dX3_become_51 (fun H locs hP hD hS => ?_)
        have hP : va_P D vwCl [(a0, .inr (3, [.int a_n, .ref a1, .ref a2, .ref a3, .ref a4, .ref a5])), (a1, .inl (cI, 10, .inl (upd a_L x2.toNatClampNeg (b_L x2.toNatClampNeg)))), (a2, .inl (cI, 10, .inl (upd a_U x2.toNatClampNeg (b_U x2.toNatClampNeg)))), (a3, .inl (cI, 12, .inl a_H)), (a4, .inl (cI, 10, .inl (upd a_O x2.toNatClampNeg (b_O x2.toNatClampNeg)))), (a5, .inl (cI, 10, .inl a_B)), (b0, .inr (3, [.int b_n, .ref b1, .ref b2, .ref b3, .ref b4, .ref b5])), (b1, .inl (cI, 10, .inl b_L)), (b2, .inl (cI, 10, .inl b_U)), (b3, .inl (cI, 12, .inl b_H)), (b4, .inl (cI, 10, .inl b_O)), (b5, .inl (cI, 10, .inl b_B))] H := hP
        have hD : va_D A [(a0, .inr (3, [.int a_n, .ref a1, .ref a2, .ref a3, .ref a4, .ref a5])), (a1, .inl (cI, 10, .inl (upd a_L x2.toNatClampNeg (b_L x2.toNatClampNeg)))), (a2, .inl (cI, 10, .inl (upd a_U x2.toNatClampNeg (b_U x2.toNatClampNeg)))), (a3, .inl (cI, 12, .inl a_H)), (a4, .inl (cI, 10, .inl (upd a_O x2.toNatClampNeg (b_O x2.toNatClampNeg)))), (a5, .inl (cI, 10, .inl a_B)), (b0, .inr (3, [.int b_n, .ref b1, .ref b2, .ref b3, .ref b4, .ref b5])), (b1, .inl (cI, 10, .inl b_L)), (b2, .inl (cI, 10, .inl b_U)), (b3, .inl (cI, 12, .inl b_H)), (b4, .inl (cI, 10, .inl b_O)), (b5, .inl (cI, 10, .inl b_B))] := hD
        refine lv_aload_n hx hb dX3_become_52 rfl (lv_at hl 0 rfl) ?_
        refine va_get (D := D) (ci := 3) (v := .ref a5) (C := RX3) (T := TX3) (N := 6) hx hb hts hiX3 hown hK.1 hP 0 rfl rfl 5 (by decide) hfl_24 (fun _ h9 => h9) rfl dX3_become_53 ?_
        refine lv_iload_n hx hb dX3_become_56 rfl (lv_at hl 2 rfl) ?_
        refine lv_aload_n hx hb dX3_become_57 rfl (lv_at hl 1 rfl) ?_
        refine va_get (D := D) (ci := 3) (v := .ref b5) (C := RX3) (T := TX3) (N := 6) hx hb hts hiX3 hown hK.1 hP 6 rfl rfl 5 (by decide) hfl_24 (fun _ h9 => h9) rfl dX3_become_58 ?_
        refine lv_iload_n hx hb dX3_become_61 rfl (lv_at hl 2 rfl) ?_
        obtain ⟨hi, hf⟩ := gd_some hf
        refine va_iald hx hb hK.1 hP 11 0 rfl rfl hi dX3_become_62 ?_
        obtain ⟨hi, hf⟩ := gd_some hf
        refine va_iast hx hb hK.1 hP hD hS 5 0 rfl rfl hi dX3_become_63 (fun H locs hP hD hS => ?_)
        have hP : va_P D vwCl [(a0, .inr (3, [.int a_n, .ref a1, .ref a2, .ref a3, .ref a4, .ref a5])), (a1, .inl (cI, 10, .inl (upd a_L x2.toNatClampNeg (b_L x2.toNatClampNeg)))), (a2, .inl (cI, 10, .inl (upd a_U x2.toNatClampNeg (b_U x2.toNatClampNeg)))), (a3, .inl (cI, 12, .inl a_H)), (a4, .inl (cI, 10, .inl (upd a_O x2.toNatClampNeg (b_O x2.toNatClampNeg)))), (a5, .inl (cI, 10, .inl (upd a_B x2.toNatClampNeg (b_B x2.toNatClampNeg)))), (b0, .inr (3, [.int b_n, .ref b1, .ref b2, .ref b3, .ref b4, .ref b5])), (b1, .inl (cI, 10, .inl b_L)), (b2, .inl (cI, 10, .inl b_U)), (b3, .inl (cI, 12, .inl b_H)), (b4, .inl (cI, 10, .inl b_O)), (b5, .inl (cI, 10, .inl b_B))] H := hP
        have hD : va_D A [(a0, .inr (3, [.int a_n, .ref a1, .ref a2, .ref a3, .ref a4, .ref a5])), (a1, .inl (cI, 10, .inl (upd a_L x2.toNatClampNeg (b_L x2.toNatClampNeg)))), (a2, .inl (cI, 10, .inl (upd a_U x2.toNatClampNeg (b_U x2.toNatClampNeg)))), (a3, .inl (cI, 12, .inl a_H)), (a4, .inl (cI, 10, .inl (upd a_O x2.toNatClampNeg (b_O x2.toNatClampNeg)))), (a5, .inl (cI, 10, .inl (upd a_B x2.toNatClampNeg (b_B x2.toNatClampNeg)))), (b0, .inr (3, [.int b_n, .ref b1, .ref b2, .ref b3, .ref b4, .ref b5])), (b1, .inl (cI, 10, .inl b_L)), (b2, .inl (cI, 10, .inl b_U)), (b3, .inl (cI, 12, .inl b_H)), (b4, .inl (cI, 10, .inl b_O)), (b5, .inl (cI, 10, .inl b_B))] := hD
        refine lv_iinc (v := (x2 + (nI 1))) (lv' := [(2, .int (x2 + (nI 1))), (0, .ref a0), (1, .ref b0)]) hx hb dX3_become_64 hl (k := 2) rfl (ii_1 _) (by decide) rfl (fun ls hl => ?_)
        refine lv_goto (tgt := 10) hx hb dX3_become_67 (by decide) ?_
        exact ih (x2 + (nI 1)) (upd a_L x2.toNatClampNeg (b_L x2.toNatClampNeg)) (upd a_U x2.toNatClampNeg (b_U x2.toNatClampNeg)) (upd a_O x2.toNatClampNeg (b_O x2.toNatClampNeg)) (upd a_B x2.toNatClampNeg (b_B x2.toNatClampNeg)) hf _ _ hP hD hS ls (lv_sub hl [1, 2, 0] rfl)
  have hl := lv_entry ([.ref a0, .ref b0]) (n := 3) (Nat.le_of_ble_eq_true rfl)
  rw [lg_entry_eq]
  generalize (lg_sl ([.ref a0, .ref b0]) ++ List.replicate (3 - (lg_sl ([.ref a0, .ref b0])).length) Slot.unset).toArray = ls at hl ⊢
  have hl : lv_has ls 3 [(0, .ref a0), (1, .ref b0)] := hl
  have hS : va_S A s.heap s.heap [] := va_S.rf
  unfold m_X3_become at hf
  refine lv_aload_n hx hb dX3_become_0 rfl (lv_at hl 0 rfl) ?_
  refine lv_aload_n hx hb dX3_become_1 rfl (lv_at hl 1 rfl) ?_
  refine va_get (D := D) (ci := 3) (v := .int b_n) (C := RX3) (T := TX3) (N := 6) hx hb hts hiX3 hown hK.1 hP 6 rfl rfl 0 (by decide) hfl_31 (fun _ h9 => h9) rfl dX3_become_2 ?_
  refine va_put (D := D) (ci := 3) (v := .int b_n) (ty := .int) (C := RX3) (T := TX3) (N := 6) hx hb hts hiX3 tyX3 tyX3_ok nmX3 hown hK.1 hP hD hS 0 rfl rfl 0 (by decide) hfl_31 (fun _ h9 => h9) rfl (tyX3_ok 0 (by decide)) rfl rfl (Nat.le_of_ble_eq_true rfl) dX3_become_5 (fun H locs hP hD hS => ?_)
  have hP : va_P D vwCl [(a0, .inr (3, [.int b_n, .ref a1, .ref a2, .ref a3, .ref a4, .ref a5])), (a1, .inl (cI, 10, .inl a_L)), (a2, .inl (cI, 10, .inl a_U)), (a3, .inl (cI, 12, .inl a_H)), (a4, .inl (cI, 10, .inl a_O)), (a5, .inl (cI, 10, .inl a_B)), (b0, .inr (3, [.int b_n, .ref b1, .ref b2, .ref b3, .ref b4, .ref b5])), (b1, .inl (cI, 10, .inl b_L)), (b2, .inl (cI, 10, .inl b_U)), (b3, .inl (cI, 12, .inl b_H)), (b4, .inl (cI, 10, .inl b_O)), (b5, .inl (cI, 10, .inl b_B))] H := hP
  have hD : va_D A [(a0, .inr (3, [.int b_n, .ref a1, .ref a2, .ref a3, .ref a4, .ref a5])), (a1, .inl (cI, 10, .inl a_L)), (a2, .inl (cI, 10, .inl a_U)), (a3, .inl (cI, 12, .inl a_H)), (a4, .inl (cI, 10, .inl a_O)), (a5, .inl (cI, 10, .inl a_B)), (b0, .inr (3, [.int b_n, .ref b1, .ref b2, .ref b3, .ref b4, .ref b5])), (b1, .inl (cI, 10, .inl b_L)), (b2, .inl (cI, 10, .inl b_U)), (b3, .inl (cI, 12, .inl b_H)), (b4, .inl (cI, 10, .inl b_O)), (b5, .inl (cI, 10, .inl b_B))] := hD
  refine lv_iconst (v := (nI 0)) hx hb dX3_become_8 ic_0 ?_
  refine lv_istore_n (lv' := [(2, .int (nI 0)), (0, .ref a0), (1, .ref b0)]) hx hb dX3_become_9 rfl hl (by decide) rfl (fun ls hl => ?_)
  exact hB_10 b_n fu (nI 0) a_L a_U a_O a_B hf _ _ hP hD hS ls (lv_sub hl [1, 2, 0] rfl)
theorem hdc_X6_with : yX6_with.cls ≠ "java/lang/invoke/MethodHandle" ∧ yX6_with.cls ≠ "java/lang/invoke/VarHandle" ∧ (parseMethodDescriptor yX6_with.desc).map (fun d => d.parameters.length) = some 2 := by decide +kernel
set_option maxHeartbeats 4000000 in
set_option maxRecDepth 100000 in
theorem c_X6_with (l : Launch) (D : va_G) (cI cZ cM : ClassId) (x0 : Int32) (x1 : Int32) (r : Int32) (hf : m_X6_with x0 x1 = some r) : Met l yX6_with wsX6_with ({ frames := 0, cells := 0, slots := 0, locals := 0 }) (pR D cI cZ cM [] [.int x0, .int x1]) (qR r) 0 0 (fun _ => False) := by
  refine Met.ofW (cc := cX6_with) (maxL := 2) (ret := (some .int)) (by decide) rfl ?_
  intro p e s m args below meth c s₁ B hml hv
  obtain ⟨rfl, hP, hK⟩ := hv
  have hx := B.exec
  have hb := B.bytes
  have hr := B.returns
  have hts := atoms_spec (ws := wsX6_with) B.pre
  have hown : s.vm.findClass RX6 = some m.cls := findClass_of_methodNamed B.named
  have hlocks := B.notSynchronized
  have hl := lv_entry ([.int x0, .int x1]) (n := 2) (Nat.le_of_ble_eq_true rfl)
  rw [lg_entry_eq]
  generalize (lg_sl ([.int x0, .int x1]) ++ List.replicate (2 - (lg_sl ([.int x0, .int x1])).length) Slot.unset).toArray = ls at hl ⊢
  have hl : lv_has ls 2 [(0, .int x0), (1, .int x1)] := hl
  unfold m_X6_with at hf
  refine lv_iload_n hx hb dX6_with_0 rfl (lv_at hl 0 rfl) ?_
  refine lv_iconst (v := (nI 1)) hx hb dX6_with_1 ic_1 ?_
  refine lv_iload_n hx hb dX6_with_2 rfl (lv_at hl 1 rfl) ?_
  refine lv_ishl hx hb dX6_with_3 ?_
  refine lv_ior hx hb dX6_with_4 ?_
  cases hf
  exact W.iret hx hb hr (fun t ht _ => ⟨rfl, ht⟩) (fun _ h => nomatch h) dX6_with_5
theorem hdc_X3_termsAtHome : yX3_termsAtHome.cls ≠ "java/lang/invoke/MethodHandle" ∧ yX3_termsAtHome.cls ≠ "java/lang/invoke/VarHandle" ∧ (parseMethodDescriptor yX3_termsAtHome.desc).map (fun d => d.parameters.length) = some 1 := by decide +kernel
set_option maxHeartbeats 4000000 in
set_option maxRecDepth 100000 in
theorem c_X3_termsAtHome (l : Launch) (D : va_G) (cI cZ cM : ClassId) (a0 a1 a2 a3 a4 a5 : Nat) (a_n : Int32) (a_L : Nat → Int32) (a_U : Nat → Int32) (a_H : Nat → Int32) (a_O : Nat → Int32) (a_B : Nat → Int32) (x1 : Int32) (fu : Nat) (r : Int32) (hf : m_X3_termsAtHome fu a_H x1 = some r) : Met l yX3_termsAtHome wsX3_termsAtHome ({ frames := 1, cells := 0, slots := 0, locals := 21 }) (pR D cI cZ cM [(a0, .inr (3, [.int a_n, .ref a1, .ref a2, .ref a3, .ref a4, .ref a5])), (a1, .inl (cI, 10, .inl a_L)), (a2, .inl (cI, 10, .inl a_U)), (a3, .inl (cI, 12, .inl a_H)), (a4, .inl (cI, 10, .inl a_O)), (a5, .inl (cI, 10, .inl a_B))] [.ref a0, .int x1]) (qR r) 0 0 (fun _ => False) := by
  refine Met.ofW (cc := cX3_termsAtHome) (maxL := 4) (ret := (some .int)) (by decide) rfl ?_
  intro p e s m args below meth c s₁ B hml hv
  obtain ⟨rfl, hP, hK⟩ := hv
  have hx := B.exec
  have hb := B.bytes
  have hr := B.returns
  have hts := atoms_spec (ws := wsX3_termsAtHome) B.pre
  have hown : s.vm.findClass RX3 = some m.cls := findClass_of_methodNamed B.named
  have hlocks := B.notSynchronized
  have hfl_18 := hts (.fieldLink RX3 18 "TermsFirst$Manual" "homes" "[I") (List.mem_cons_of_mem _ (List.mem_append_left _ (List.mem_of_getElem? (i := 0) rfl)))
  have hn_8 : va_Nw (.methodLinkNest RX3 43 yX6_with RX6) s := nw_8 hK
  have hin_RX6 : (Cond.initialized yX6_with.cls).before _ s = true := hts (.initialized RX6) (List.mem_cons_of_mem _ (List.mem_append_left _ (List.mem_of_getElem? (i := 2) rfl)))
  have hst_X6_with := hts (.static yX6_with) (List.mem_cons_of_mem _ (List.mem_append_left _ (List.mem_of_getElem? (i := 1) rfl)))
  have hiX3 : ∀ w ∈ u_ws RX3 TX3 6, w ∈ wsX3_termsAtHome := fun _ h => (List.mem_cons_of_mem _ (List.mem_append_right _ h))
  have hB_4 : ∀ (fn : Nat) (x2 : Int32) (x3 : Int32), m_X3_termsAtHome_4 a_H x1 fn x2 x3 = some r → ∀ ls : Array Slot, lv_has ls 4 [(0, .ref a0), (1, .int x1), (2, .int x2), (3, .int x3)] → W p l e (headSpec wsX3_termsAtHome { frames := 1, cells := 0, slots := 0, locals := 21 }).room s m ([.ref a0, .int x1] : List Value).toArray below meth c s.heap [] 0 0 (MQ below (qR r) ([.ref a0, .int x1] : List Value).toArray s 0 0 (fun _ => False)) (F0 m 4 ls []) := by
    intro fn
    induction fn with
    | zero => intro x2 x3 hf; rw [m_X3_termsAtHome_4] at hf; cases hf
    | succ fn ih =>
      intro x2 x3 hf ls hl
      rw [m_X3_termsAtHome_4] at hf
      refine lv_iload_n hx hb dX3_termsAtHome_4 rfl (lv_at hl 3 rfl) ?_
      refine lv_bipush (v := (nI 12)) hx hb dX3_termsAtHome_5 bp_12 ?_
      refine lv_icmp_ge (tgt := 32) hx hb dX3_termsAtHome_7 (by decide) (fun hc => ?_) (fun hc => ?_)
      · have hf := ifp hc hf
        refine lv_iload_n hx hb dX3_termsAtHome_32 rfl (lv_at hl 2 rfl) ?_
        cases hf
        exact W.iret hx hb hr (fun t ht _ => ⟨rfl, ht⟩) (fun _ h => nomatch h) dX3_termsAtHome_33
      · have hf := ifn hc hf
        refine lv_aload_n hx hb dX3_termsAtHome_10 rfl (lv_at hl 0 rfl) ?_
        refine va_get (D := D) (ci := 3) (v := .ref a3) (C := RX3) (T := TX3) (N := 6) hx hb hts hiX3 hown hK.1 hP 0 rfl rfl 3 (by decide) hfl_18 (fun _ h9 => h9) rfl dX3_termsAtHome_11 ?_
        refine lv_iload_n hx hb dX3_termsAtHome_14 rfl (lv_at hl 3 rfl) ?_
        obtain ⟨hi, hf⟩ := gd_some hf
        refine va_iald hx hb hK.1 hP 3 0 rfl rfl hi dX3_termsAtHome_15 ?_
        refine lv_iload_n hx hb dX3_termsAtHome_16 rfl (lv_at hl 1 rfl) ?_
        refine lv_icmp_ne (tgt := 26) hx hb dX3_termsAtHome_17 (by decide) (fun hc => ?_) (fun hc => ?_)
        · have hf := ifn hc hf
          refine lv_iinc (v := (x3 + (nI 1))) (lv' := [(3, .int (x3 + (nI 1))), (0, .ref a0), (1, .int x1), (2, .int x2)]) hx hb dX3_termsAtHome_26 hl (k := 3) rfl (ii_1 _) (by decide) rfl (fun ls hl => ?_)
          refine lv_goto (tgt := 4) hx hb dX3_termsAtHome_29 (by decide) ?_
          exact ih x2 (x3 + (nI 1)) hf  ls (lv_sub hl [1, 2, 3, 0] rfl)
        · have hf := ifp hc hf
          refine lv_iload_n hx hb dX3_termsAtHome_20 rfl (lv_at hl 2 rfl) ?_
          refine lv_iload_n hx hb dX3_termsAtHome_21 rfl (lv_at hl 3 rfl) ?_
          obtain ⟨rv1, hrv1, hf⟩ := bd hf
          refine roI (va_runSN (As := [.int x2, .int x3]) (rest := []) ⟨hx, hb, hml, hown, hts⟩ (c_X6_with l D cI cZ cM x2 x3 rv1 hrv1) ⟨va_cnB (host := RX6) 2 hts gX3_termsAtHome_X6_with_n43 rfl rfl rfl hn_8 hin_RX6 hdc_X6_with ⟨Nat.le_of_ble_eq_true rfl, Nat.le_of_ble_eq_true rfl⟩, hst_X6_with, trivial⟩ (prS hK hP [] rfl) rfl rfl hl.1 rfl (lv_room (Nat.le_of_ble_eq_true rfl)) dX3_termsAtHome_22 ⟨Nat.zero_le _, Nat.zero_le _⟩) ?_
          refine lv_istore_n (lv' := [(2, .int rv1), (0, .ref a0), (1, .int x1), (3, .int x3)]) hx hb dX3_termsAtHome_25 rfl hl (by decide) rfl (fun ls hl => ?_)
          refine lv_iinc (v := (x3 + (nI 1))) (lv' := [(3, .int (x3 + (nI 1))), (2, .int rv1), (0, .ref a0), (1, .int x1)]) hx hb dX3_termsAtHome_26 hl (k := 3) rfl (ii_1 _) (by decide) rfl (fun ls hl => ?_)
          refine lv_goto (tgt := 4) hx hb dX3_termsAtHome_29 (by decide) ?_
          exact ih rv1 (x3 + (nI 1)) hf  ls (lv_sub hl [2, 3, 1, 0] rfl)
  have hl := lv_entry ([.ref a0, .int x1]) (n := 4) (Nat.le_of_ble_eq_true rfl)
  rw [lg_entry_eq]
  generalize (lg_sl ([.ref a0, .int x1]) ++ List.replicate (4 - (lg_sl ([.ref a0, .int x1])).length) Slot.unset).toArray = ls at hl ⊢
  have hl : lv_has ls 4 [(0, .ref a0), (1, .int x1)] := hl
  unfold m_X3_termsAtHome at hf
  refine lv_iconst (v := (nI 0)) hx hb dX3_termsAtHome_0 ic_0 ?_
  refine lv_istore_n (lv' := [(2, .int (nI 0)), (0, .ref a0), (1, .int x1)]) hx hb dX3_termsAtHome_1 rfl hl (by decide) rfl (fun ls hl => ?_)
  refine lv_iconst (v := (nI 0)) hx hb dX3_termsAtHome_2 ic_0 ?_
  refine lv_istore_n (lv' := [(3, .int (nI 0)), (2, .int (nI 0)), (0, .ref a0), (1, .int x1)]) hx hb dX3_termsAtHome_3 rfl hl (by decide) rfl (fun ls hl => ?_)
  exact hB_4 fu (nI 0) (nI 0) hf  ls (lv_sub hl [2, 3, 1, 0] rfl)
theorem hdc_X0_gatherTerms : yX0_gatherTerms.cls ≠ "java/lang/invoke/MethodHandle" ∧ yX0_gatherTerms.cls ≠ "java/lang/invoke/VarHandle" ∧ (parseMethodDescriptor yX0_gatherTerms.desc).map (fun d => d.parameters.length) = some 0 := by decide +kernel
set_option maxHeartbeats 4000000 in
set_option maxRecDepth 100000 in
theorem c_X0_gatherTerms (l : Launch) (D : va_G) (cI cZ cM : ClassId) (q0 q1 q2 q3 q4 q5 v0 v1 v2 v3 v4 v5 : Nat) (sz : Nat) (q_nt : Int32) (q_iv : Int32) (q_fd : Int32) (q_or : Nat → Int32) (q_df : Nat → Int32) (q_se : Nat → Int32) (q_co : Nat → Int32) (q_ch : Nat → Int32) (v_n : Int32) (v_L : Nat → Int32) (v_U : Nat → Int32) (v_H : Nat → Int32) (v_O : Nat → Int32) (v_B : Nat → Int32) (fu : Nat) (q_df' : Nat → Int32) (q_se' : Nat → Int32) (hf : m_X0_gatherTerms fu q_df q_se v_n v_U v_H = some (q_df', q_se')) : Met l yX0_gatherTerms wsX0_gatherTerms ({ frames := 2, cells := 0, slots := 0, locals := 44 }) (pM D cI cZ cM sz [(q0, .inr (0, [.int q_nt, .int q_iv, .ref q1, .ref v0, .int q_fd, .ref q2, .ref q3, .ref q4, .ref q5])), (q1, .inl (cI, 10, .inl q_or)), (q2, .inl (cI, 10, .inl q_df)), (q3, .inl (cI, 1024, .inl q_se)), (q4, .inl (cI, 1024, .inl q_co)), (q5, .inl (cI, 1024, .inl q_ch)), (v0, .inr (3, [.int v_n, .ref v1, .ref v2, .ref v3, .ref v4, .ref v5])), (v1, .inl (cI, 10, .inl v_L)), (v2, .inl (cI, 10, .inl v_U)), (v3, .inl (cI, 12, .inl v_H)), (v4, .inl (cI, 10, .inl v_O)), (v5, .inl (cI, 10, .inl v_B))] [.ref q0]) (qV D [(q0, .inr (0, [.int q_nt, .int q_iv, .ref q1, .ref v0, .int q_fd, .ref q2, .ref q3, .ref q4, .ref q5])), (q1, .inl (cI, 10, .inl q_or)), (q2, .inl (cI, 10, .inl q_df')), (q3, .inl (cI, 1024, .inl q_se')), (q4, .inl (cI, 1024, .inl q_co)), (q5, .inl (cI, 1024, .inl q_ch)), (v0, .inr (3, [.int v_n, .ref v1, .ref v2, .ref v3, .ref v4, .ref v5])), (v1, .inl (cI, 10, .inl v_L)), (v2, .inl (cI, 10, .inl v_U)), (v3, .inl (cI, 12, .inl v_H)), (v4, .inl (cI, 10, .inl v_O)), (v5, .inl (cI, 10, .inl v_B))] (va_A [(q0, .inr (0, [.int q_nt, .int q_iv, .ref q1, .ref v0, .int q_fd, .ref q2, .ref q3, .ref q4, .ref q5])), (q1, .inl (cI, 10, .inl q_or)), (q2, .inl (cI, 10, .inl q_df)), (q3, .inl (cI, 1024, .inl q_se)), (q4, .inl (cI, 1024, .inl q_co)), (q5, .inl (cI, 1024, .inl q_ch)), (v0, .inr (3, [.int v_n, .ref v1, .ref v2, .ref v3, .ref v4, .ref v5])), (v1, .inl (cI, 10, .inl v_L)), (v2, .inl (cI, 10, .inl v_U)), (v3, .inl (cI, 12, .inl v_H)), (v4, .inl (cI, 10, .inl v_O)), (v5, .inl (cI, 10, .inl v_B))] sz)) 0 0 (va_A [(q0, .inr (0, [.int q_nt, .int q_iv, .ref q1, .ref v0, .int q_fd, .ref q2, .ref q3, .ref q4, .ref q5])), (q1, .inl (cI, 10, .inl q_or)), (q2, .inl (cI, 10, .inl q_df)), (q3, .inl (cI, 1024, .inl q_se)), (q4, .inl (cI, 1024, .inl q_co)), (q5, .inl (cI, 1024, .inl q_ch)), (v0, .inr (3, [.int v_n, .ref v1, .ref v2, .ref v3, .ref v4, .ref v5])), (v1, .inl (cI, 10, .inl v_L)), (v2, .inl (cI, 10, .inl v_U)), (v3, .inl (cI, 12, .inl v_H)), (v4, .inl (cI, 10, .inl v_O)), (v5, .inl (cI, 10, .inl v_B))] sz) := by
  refine Met.ofW (cc := cX0_gatherTerms) (maxL := 3) (ret := none) (by decide) rfl ?_
  intro p e s m args below meth c s₁ B hml hv
  obtain ⟨rfl, hsz, hP, hK, hD0⟩ := hv
  have hx := B.exec
  have hb := B.bytes
  have hr := B.returns
  have hts := atoms_spec (ws := wsX0_gatherTerms) B.pre
  have hown : s.vm.findClass RX0 = some m.cls := findClass_of_methodNamed B.named
  have hlocks := B.notSynchronized
  subst hsz
  have hD := hD0.self (sz := s.heap.size)
  generalize hAe : va_A [(q0, .inr (0, [.int q_nt, .int q_iv, .ref q1, .ref v0, .int q_fd, .ref q2, .ref q3, .ref q4, .ref q5])), (q1, .inl (cI, 10, .inl q_or)), (q2, .inl (cI, 10, .inl q_df)), (q3, .inl (cI, 1024, .inl q_se)), (q4, .inl (cI, 1024, .inl q_co)), (q5, .inl (cI, 1024, .inl q_ch)), (v0, .inr (3, [.int v_n, .ref v1, .ref v2, .ref v3, .ref v4, .ref v5])), (v1, .inl (cI, 10, .inl v_L)), (v2, .inl (cI, 10, .inl v_U)), (v3, .inl (cI, 12, .inl v_H)), (v4, .inl (cI, 10, .inl v_O)), (v5, .inl (cI, 10, .inl v_B))] s.heap.size = A at hD ⊢
  have hA : ∀ q : Nat, s.heap.size ≤ q → A q := fun q h => by rw [← hAe]; exact Or.inr h
  clear hAe hD0
  have hfl_25 := hts (.fieldLink RX0 25 "TermsFirst$BestOrder" "manual" "LTermsFirst$Manual;") (List.mem_cons_of_mem _ (List.mem_append_left _ (List.mem_append_left _ (List.mem_of_getElem? (i := 1) rfl))))
  have hfl_33 := hts (.fieldLink RX0 33 "TermsFirst$BestOrder" "defined" "[I") (List.mem_cons_of_mem _ (List.mem_append_left _ (List.mem_append_left _ (List.mem_of_getElem? (i := 3) rfl))))
  have hfl_36 := hts (.fieldLink RX0 36 "TermsFirst$BestOrder" "seen" "[I") (List.mem_cons_of_mem _ (List.mem_append_left _ (List.mem_append_left _ (List.mem_of_getElem? (i := 0) rfl))))
  have hfl_56 := hts (.fieldLink RX0 56 "TermsFirst$Manual" "n" "I") (List.mem_cons_of_mem _ (List.mem_append_left _ (List.mem_append_left _ (List.mem_of_getElem? (i := 2) rfl))))
  have hfl_74 := hts (.fieldLink RX0 74 "TermsFirst$Manual" "used" "[I") (List.mem_cons_of_mem _ (List.mem_append_left _ (List.mem_append_left _ (List.mem_of_getElem? (i := 4) rfl))))
  have hn_3 : va_Nw (.methodLinkNest RX0 70 yX6_with RX6) s := nw_3 hK
  have hin_RX6 : (Cond.initialized yX6_with.cls).before _ s = true := hts (.initialized RX6) (List.mem_cons_of_mem _ (List.mem_append_left _ (List.mem_append_left _ (List.mem_of_getElem? (i := 12) rfl))))
  have hst_X6_with := hts (.static yX6_with) (List.mem_cons_of_mem _ (List.mem_append_left _ (List.mem_append_left _ (List.mem_of_getElem? (i := 11) rfl))))
  have hiX0 : ∀ w ∈ u_ws RX0 TX0 9, w ∈ wsX0_gatherTerms := fun _ h => (List.mem_cons_of_mem _ (List.mem_append_left _ (List.mem_append_right _ h)))
  have hiX3 : ∀ w ∈ u_ws RX3 TX3 6, w ∈ wsX0_gatherTerms := fun _ h => (List.mem_cons_of_mem _ (List.mem_append_right _ h))
  have hB_36 : ∀ (x1 : Int32) (q_df : Nat → Int32) (kt9 : (Nat → Int32) → (Nat → Int32) → Int32 → Option ((Nat → Int32) × (Nat → Int32))) (hkt9 : ∀ (x1 : Int32) (q_df : Nat → Int32) (q_se : Nat → Int32), kt9 q_df q_se x1 = some (q_df', q_se') → ∀ (H : Heap) (locs : List Loc), va_P D vwCl [(q0, .inr (0, [.int q_nt, .int q_iv, .ref q1, .ref v0, .int q_fd, .ref q2, .ref q3, .ref q4, .ref q5])), (q1, .inl (cI, 10, .inl q_or)), (q2, .inl (cI, 10, .inl q_df)), (q3, .inl (cI, 1024, .inl q_se)), (q4, .inl (cI, 1024, .inl q_co)), (q5, .inl (cI, 1024, .inl q_ch)), (v0, .inr (3, [.int v_n, .ref v1, .ref v2, .ref v3, .ref v4, .ref v5])), (v1, .inl (cI, 10, .inl v_L)), (v2, .inl (cI, 10, .inl v_U)), (v3, .inl (cI, 12, .inl v_H)), (v4, .inl (cI, 10, .inl v_O)), (v5, .inl (cI, 10, .inl v_B))] H → va_D A [(q0, .inr (0, [.int q_nt, .int q_iv, .ref q1, .ref v0, .int q_fd, .ref q2, .ref q3, .ref q4, .ref q5])), (q1, .inl (cI, 10, .inl q_or)), (q2, .inl (cI, 10, .inl q_df)), (q3, .inl (cI, 1024, .inl q_se)), (q4, .inl (cI, 1024, .inl q_co)), (q5, .inl (cI, 1024, .inl q_ch)), (v0, .inr (3, [.int v_n, .ref v1, .ref v2, .ref v3, .ref v4, .ref v5])), (v1, .inl (cI, 10, .inl v_L)), (v2, .inl (cI, 10, .inl v_U)), (v3, .inl (cI, 12, .inl v_H)), (v4, .inl (cI, 10, .inl v_O)), (v5, .inl (cI, 10, .inl v_B))] → va_S A s.heap H locs → ∀ ls : Array Slot, lv_has ls 3 [(0, .ref q0), (1, .int x1)] → W p l e (headSpec wsX0_gatherTerms { frames := 2, cells := 0, slots := 0, locals := 44 }).room s m ([.ref q0] : List Value).toArray below meth c H locs 0 0 (MQ below (qV D [(q0, .inr (0, [.int q_nt, .int q_iv, .ref q1, .ref v0, .int q_fd, .ref q2, .ref q3, .ref q4, .ref q5])), (q1, .inl (cI, 10, .inl q_or)), (q2, .inl (cI, 10, .inl q_df')), (q3, .inl (cI, 1024, .inl q_se')), (q4, .inl (cI, 1024, .inl q_co)), (q5, .inl (cI, 1024, .inl q_ch)), (v0, .inr (3, [.int v_n, .ref v1, .ref v2, .ref v3, .ref v4, .ref v5])), (v1, .inl (cI, 10, .inl v_L)), (v2, .inl (cI, 10, .inl v_U)), (v3, .inl (cI, 12, .inl v_H)), (v4, .inl (cI, 10, .inl v_O)), (v5, .inl (cI, 10, .inl v_B))] A) ([.ref q0] : List Value).toArray s 0 0 A) (F0 m 9 ls [])) (fn : Nat) (x2 : Int32) (q_se : Nat → Int32), m_X0_gatherTerms_36 q_df v_U x1 kt9 fn q_se x2 = some (q_df', q_se') → ∀ (H : Heap) (locs : List Loc), va_P D vwCl [(q0, .inr (0, [.int q_nt, .int q_iv, .ref q1, .ref v0, .int q_fd, .ref q2, .ref q3, .ref q4, .ref q5])), (q1, .inl (cI, 10, .inl q_or)), (q2, .inl (cI, 10, .inl q_df)), (q3, .inl (cI, 1024, .inl q_se)), (q4, .inl (cI, 1024, .inl q_co)), (q5, .inl (cI, 1024, .inl q_ch)), (v0, .inr (3, [.int v_n, .ref v1, .ref v2, .ref v3, .ref v4, .ref v5])), (v1, .inl (cI, 10, .inl v_L)), (v2, .inl (cI, 10, .inl v_U)), (v3, .inl (cI, 12, .inl v_H)), (v4, .inl (cI, 10, .inl v_O)), (v5, .inl (cI, 10, .inl v_B))] H → va_D A [(q0, .inr (0, [.int q_nt, .int q_iv, .ref q1, .ref v0, .int q_fd, .ref q2, .ref q3, .ref q4, .ref q5])), (q1, .inl (cI, 10, .inl q_or)), (q2, .inl (cI, 10, .inl q_df)), (q3, .inl (cI, 1024, .inl q_se)), (q4, .inl (cI, 1024, .inl q_co)), (q5, .inl (cI, 1024, .inl q_ch)), (v0, .inr (3, [.int v_n, .ref v1, .ref v2, .ref v3, .ref v4, .ref v5])), (v1, .inl (cI, 10, .inl v_L)), (v2, .inl (cI, 10, .inl v_U)), (v3, .inl (cI, 12, .inl v_H)), (v4, .inl (cI, 10, .inl v_O)), (v5, .inl (cI, 10, .inl v_B))] → va_S A s.heap H locs → ∀ ls : Array Slot, lv_has ls 3 [(0, .ref q0), (1, .int x1), (2, .int x2)] → W p l e (headSpec wsX0_gatherTerms { frames := 2, cells := 0, slots := 0, locals := 44 }).room s m ([.ref q0] : List Value).toArray below meth c H locs 0 0 (MQ below (qV D [(q0, .inr (0, [.int q_nt, .int q_iv, .ref q1, .ref v0, .int q_fd, .ref q2, .ref q3, .ref q4, .ref q5])), (q1, .inl (cI, 10, .inl q_or)), (q2, .inl (cI, 10, .inl q_df')), (q3, .inl (cI, 1024, .inl q_se')), (q4, .inl (cI, 1024, .inl q_co)), (q5, .inl (cI, 1024, .inl q_ch)), (v0, .inr (3, [.int v_n, .ref v1, .ref v2, .ref v3, .ref v4, .ref v5])), (v1, .inl (cI, 10, .inl v_L)), (v2, .inl (cI, 10, .inl v_U)), (v3, .inl (cI, 12, .inl v_H)), (v4, .inl (cI, 10, .inl v_O)), (v5, .inl (cI, 10, .inl v_B))] A) ([.ref q0] : List Value).toArray s 0 0 A) (F0 m 36 ls []) := by
    intro x1 q_df kt9 hkt9 fn
    induction fn with
    | zero => intro x2 q_se hf; rw [m_X0_gatherTerms_36] at hf; cases hf
    | succ fn ih =>
      intro x2 q_se hf H locs hP hD hS ls hl
      rw [m_X0_gatherTerms_36] at hf
      refine lv_iload_n hx hb dX0_gatherTerms_36 rfl (lv_at hl 2 rfl) ?_
      refine lv_iconst (v := (nI 1)) hx hb dX0_gatherTerms_37 ic_1 ?_
      refine lv_iload_n hx hb dX0_gatherTerms_38 rfl (lv_at hl 1 rfl) ?_
      refine lv_ishl hx hb dX0_gatherTerms_39 ?_
      refine lv_icmp_ge (tgt := 75) hx hb dX0_gatherTerms_40 (by decide) (fun hc => ?_) (fun hc => ?_)
      · have hf := ifp hc hf
        refine lv_iinc (v := (x1 + (nI 1))) (lv' := [(1, .int (x1 + (nI 1))), (0, .ref q0), (2, .int x2)]) hx hb dX0_gatherTerms_75 hl (k := 1) rfl (ii_1 _) (by decide) rfl (fun ls hl => ?_)
        refine lv_goto (tgt := 9) hx hb dX0_gatherTerms_78 (by decide) ?_
        exact hkt9 (x1 + (nI 1)) q_df q_se hf _ _ hP hD hS ls (lv_sub hl [1, 0] rfl)
      · have hf := ifn hc hf
        refine lv_aload_n hx hb dX0_gatherTerms_43 rfl (lv_at hl 0 rfl) ?_
        refine va_get (D := D) (ci := 0) (v := .ref q3) (C := RX0) (T := TX0) (N := 9) hx hb hts hiX0 hown hK.1 hP 0 rfl rfl 6 (by decide) hfl_36 (fun _ h9 => h9) rfl dX0_gatherTerms_44 ?_
        refine lv_iload_n hx hb dX0_gatherTerms_47 rfl (lv_at hl 2 rfl) ?_
        refine lv_iload_n hx hb dX0_gatherTerms_48 rfl (lv_at hl 1 rfl) ?_
        obtain ⟨rv2, hrv2, hf⟩ := bd hf
        refine roI (va_runSN (As := [.int x2, .int x1]) (rest := [.ref q3]) ⟨hx, hb, hml, hown, hts⟩ (c_X6_with l D cI cZ cM x2 x1 rv2 hrv2) ⟨va_cnB (host := RX6) 2 hts gX0_gatherTerms_X6_with_n70 rfl rfl rfl hn_3 hin_RX6 hdc_X6_with ⟨Nat.le_of_ble_eq_true rfl, Nat.le_of_ble_eq_true rfl⟩, hst_X6_with, trivial⟩ (prS hK hP [] rfl) rfl rfl hl.1 rfl (lv_room (Nat.le_of_ble_eq_true rfl)) dX0_gatherTerms_49 ⟨Nat.zero_le _, Nat.zero_le _⟩) ?_
        refine lv_aload_n hx hb dX0_gatherTerms_52 rfl (lv_at hl 0 rfl) ?_
        refine va_get (D := D) (ci := 0) (v := .ref q3) (C := RX0) (T := TX0) (N := 9) hx hb hts hiX0 hown hK.1 hP 0 rfl rfl 6 (by decide) hfl_36 (fun _ h9 => h9) rfl dX0_gatherTerms_53 ?_
        refine lv_iload_n hx hb dX0_gatherTerms_56 rfl (lv_at hl 2 rfl) ?_
        obtain ⟨hi, hf⟩ := gd_some hf
        refine va_iald hx hb hK.1 hP 3 0 rfl rfl hi dX0_gatherTerms_57 ?_
        refine lv_aload_n hx hb dX0_gatherTerms_58 rfl (lv_at hl 0 rfl) ?_
        refine va_get (D := D) (ci := 0) (v := .ref v0) (C := RX0) (T := TX0) (N := 9) hx hb hts hiX0 hown hK.1 hP 0 rfl rfl 3 (by decide) hfl_25 (fun _ h9 => h9) rfl dX0_gatherTerms_59 ?_
        refine va_get (D := D) (ci := 3) (v := .ref v2) (C := RX3) (T := TX3) (N := 6) hx hb hts hiX3 hown hK.1 hP 6 rfl rfl 2 (by decide) hfl_74 (fun _ h9 => h9) rfl dX0_gatherTerms_62 ?_
        refine lv_iload_n hx hb dX0_gatherTerms_65 rfl (lv_at hl 1 rfl) ?_
        obtain ⟨hi, hf⟩ := gd_some hf
        refine va_iald hx hb hK.1 hP 8 0 rfl rfl hi dX0_gatherTerms_66 ?_
        refine lv_ior hx hb dX0_gatherTerms_67 ?_
        obtain ⟨hi, hf⟩ := gd_some hf
        refine va_iast hx hb hK.1 hP hD hS 3 0 rfl rfl hi dX0_gatherTerms_68 (fun H locs hP hD hS => ?_)
        have hP : va_P D vwCl [(q0, .inr (0, [.int q_nt, .int q_iv, .ref q1, .ref v0, .int q_fd, .ref q2, .ref q3, .ref q4, .ref q5])), (q1, .inl (cI, 10, .inl q_or)), (q2, .inl (cI, 10, .inl q_df)), (q3, .inl (cI, 1024, .inl (upd q_se rv2.toNatClampNeg ((q_se x2.toNatClampNeg) ||| (v_U x1.toNatClampNeg))))), (q4, .inl (cI, 1024, .inl q_co)), (q5, .inl (cI, 1024, .inl q_ch)), (v0, .inr (3, [.int v_n, .ref v1, .ref v2, .ref v3, .ref v4, .ref v5])), (v1, .inl (cI, 10, .inl v_L)), (v2, .inl (cI, 10, .inl v_U)), (v3, .inl (cI, 12, .inl v_H)), (v4, .inl (cI, 10, .inl v_O)), (v5, .inl (cI, 10, .inl v_B))] H := hP
        have hD : va_D A [(q0, .inr (0, [.int q_nt, .int q_iv, .ref q1, .ref v0, .int q_fd, .ref q2, .ref q3, .ref q4, .ref q5])), (q1, .inl (cI, 10, .inl q_or)), (q2, .inl (cI, 10, .inl q_df)), (q3, .inl (cI, 1024, .inl (upd q_se rv2.toNatClampNeg ((q_se x2.toNatClampNeg) ||| (v_U x1.toNatClampNeg))))), (q4, .inl (cI, 1024, .inl q_co)), (q5, .inl (cI, 1024, .inl q_ch)), (v0, .inr (3, [.int v_n, .ref v1, .ref v2, .ref v3, .ref v4, .ref v5])), (v1, .inl (cI, 10, .inl v_L)), (v2, .inl (cI, 10, .inl v_U)), (v3, .inl (cI, 12, .inl v_H)), (v4, .inl (cI, 10, .inl v_O)), (v5, .inl (cI, 10, .inl v_B))] := hD
        refine lv_iinc (v := (x2 + (nI 1))) (lv' := [(2, .int (x2 + (nI 1))), (0, .ref q0), (1, .int x1)]) hx hb dX0_gatherTerms_69 hl (k := 2) rfl (ii_1 _) (by decide) rfl (fun ls hl => ?_)
        refine lv_goto (tgt := 36) hx hb dX0_gatherTerms_72 (by decide) ?_
        exact ih (x2 + (nI 1)) (upd q_se rv2.toNatClampNeg ((q_se x2.toNatClampNeg) ||| (v_U x1.toNatClampNeg))) hf _ _ hP hD hS ls (lv_sub hl [1, 2, 0] rfl)
  have hB_9 : ∀ (fn : Nat) (x1 : Int32) (q_df : Nat → Int32) (q_se : Nat → Int32), m_X0_gatherTerms_9 fu v_n v_U v_H fn q_df q_se x1 = some (q_df', q_se') → ∀ (H : Heap) (locs : List Loc), va_P D vwCl [(q0, .inr (0, [.int q_nt, .int q_iv, .ref q1, .ref v0, .int q_fd, .ref q2, .ref q3, .ref q4, .ref q5])), (q1, .inl (cI, 10, .inl q_or)), (q2, .inl (cI, 10, .inl q_df)), (q3, .inl (cI, 1024, .inl q_se)), (q4, .inl (cI, 1024, .inl q_co)), (q5, .inl (cI, 1024, .inl q_ch)), (v0, .inr (3, [.int v_n, .ref v1, .ref v2, .ref v3, .ref v4, .ref v5])), (v1, .inl (cI, 10, .inl v_L)), (v2, .inl (cI, 10, .inl v_U)), (v3, .inl (cI, 12, .inl v_H)), (v4, .inl (cI, 10, .inl v_O)), (v5, .inl (cI, 10, .inl v_B))] H → va_D A [(q0, .inr (0, [.int q_nt, .int q_iv, .ref q1, .ref v0, .int q_fd, .ref q2, .ref q3, .ref q4, .ref q5])), (q1, .inl (cI, 10, .inl q_or)), (q2, .inl (cI, 10, .inl q_df)), (q3, .inl (cI, 1024, .inl q_se)), (q4, .inl (cI, 1024, .inl q_co)), (q5, .inl (cI, 1024, .inl q_ch)), (v0, .inr (3, [.int v_n, .ref v1, .ref v2, .ref v3, .ref v4, .ref v5])), (v1, .inl (cI, 10, .inl v_L)), (v2, .inl (cI, 10, .inl v_U)), (v3, .inl (cI, 12, .inl v_H)), (v4, .inl (cI, 10, .inl v_O)), (v5, .inl (cI, 10, .inl v_B))] → va_S A s.heap H locs → ∀ ls : Array Slot, lv_has ls 3 [(0, .ref q0), (1, .int x1)] → W p l e (headSpec wsX0_gatherTerms { frames := 2, cells := 0, slots := 0, locals := 44 }).room s m ([.ref q0] : List Value).toArray below meth c H locs 0 0 (MQ below (qV D [(q0, .inr (0, [.int q_nt, .int q_iv, .ref q1, .ref v0, .int q_fd, .ref q2, .ref q3, .ref q4, .ref q5])), (q1, .inl (cI, 10, .inl q_or)), (q2, .inl (cI, 10, .inl q_df')), (q3, .inl (cI, 1024, .inl q_se')), (q4, .inl (cI, 1024, .inl q_co)), (q5, .inl (cI, 1024, .inl q_ch)), (v0, .inr (3, [.int v_n, .ref v1, .ref v2, .ref v3, .ref v4, .ref v5])), (v1, .inl (cI, 10, .inl v_L)), (v2, .inl (cI, 10, .inl v_U)), (v3, .inl (cI, 12, .inl v_H)), (v4, .inl (cI, 10, .inl v_O)), (v5, .inl (cI, 10, .inl v_B))] A) ([.ref q0] : List Value).toArray s 0 0 A) (F0 m 9 ls []) := by
    intro fn
    induction fn with
    | zero => intro x1 q_df q_se hf; rw [m_X0_gatherTerms_9] at hf; cases hf
    | succ fn ih =>
      intro x1 q_df q_se hf H locs hP hD hS ls hl
      rw [m_X0_gatherTerms_9] at hf
      refine lv_iload_n hx hb dX0_gatherTerms_9 rfl (lv_at hl 1 rfl) ?_
      refine lv_aload_n hx hb dX0_gatherTerms_10 rfl (lv_at hl 0 rfl) ?_
      refine va_get (D := D) (ci := 0) (v := .ref v0) (C := RX0) (T := TX0) (N := 9) hx hb hts hiX0 hown hK.1 hP 0 rfl rfl 3 (by decide) hfl_25 (fun _ h9 => h9) rfl dX0_gatherTerms_11 ?_
      refine va_get (D := D) (ci := 3) (v := .int v_n) (C := RX3) (T := TX3) (N := 6) hx hb hts hiX3 hown hK.1 hP 6 rfl rfl 0 (by decide) hfl_56 (fun _ h9 => h9) rfl dX0_gatherTerms_14 ?_
      refine lv_icmp_ge (tgt := 81) hx hb dX0_gatherTerms_17 (by decide) (fun hc => ?_) (fun hc => ?_)
      · have hf := ifp hc hf
        cases hf
        exact W.vret hx hb hr (fun t ht _ => ⟨⟨rfl, by rw [ht]; exact hP, hD⟩, hS.F ht⟩) hS.2.2 dX0_gatherTerms_81
      · have hf := ifn hc hf
        refine lv_aload_n hx hb dX0_gatherTerms_20 rfl (lv_at hl 0 rfl) ?_
        refine va_get (D := D) (ci := 0) (v := .ref q2) (C := RX0) (T := TX0) (N := 9) hx hb hts hiX0 hown hK.1 hP 0 rfl rfl 5 (by decide) hfl_33 (fun _ h9 => h9) rfl dX0_gatherTerms_21 ?_
        refine lv_iload_n hx hb dX0_gatherTerms_24 rfl (lv_at hl 1 rfl) ?_
        refine lv_aload_n hx hb dX0_gatherTerms_25 rfl (lv_at hl 0 rfl) ?_
        refine va_get (D := D) (ci := 0) (v := .ref v0) (C := RX0) (T := TX0) (N := 9) hx hb hts hiX0 hown hK.1 hP 0 rfl rfl 3 (by decide) hfl_25 (fun _ h9 => h9) rfl dX0_gatherTerms_26 ?_
        refine lv_iload_n hx hb dX0_gatherTerms_29 rfl (lv_at hl 1 rfl) ?_
        obtain ⟨rv1, hrv1, hf⟩ := bd hf
        refine roI (va_runV (As := [.int x1]) (rest := [.int x1, .ref q2]) ⟨hx, hb, hml, hown, hts⟩ (c_X3_termsAtHome l D cI cZ cM v0 v1 v2 v3 v4 v5 v_n v_L v_U v_H v_O v_B x1 fu rv1 hrv1) (cwV 1 hts gX0_gatherTerms_X3_termsAtHome rfl rfl rfl ⟨rfl, hdc_X3_termsAtHome⟩ ⟨Nat.le_of_ble_eq_true rfl, Nat.le_of_ble_eq_true rfl⟩) (prV hK hP [6, 7, 8, 9, 10, 11] rfl (ci := 3) (q0 := 6) rfl rfl) rfl rfl hl.1 rfl (lv_room (Nat.le_of_ble_eq_true rfl)) dX0_gatherTerms_30 ⟨Nat.zero_le _, Nat.zero_le _⟩) ?_
        obtain ⟨hi, hf⟩ := gd_some hf
        refine va_iast hx hb hK.1 hP hD hS 2 0 rfl rfl hi dX0_gatherTerms_33 (fun H locs hP hD hS => ?_)
        have hP : va_P D vwCl [(q0, .inr (0, [.int q_nt, .int q_iv, .ref q1, .ref v0, .int q_fd, .ref q2, .ref q3, .ref q4, .ref q5])), (q1, .inl (cI, 10, .inl q_or)), (q2, .inl (cI, 10, .inl (upd q_df x1.toNatClampNeg rv1))), (q3, .inl (cI, 1024, .inl q_se)), (q4, .inl (cI, 1024, .inl q_co)), (q5, .inl (cI, 1024, .inl q_ch)), (v0, .inr (3, [.int v_n, .ref v1, .ref v2, .ref v3, .ref v4, .ref v5])), (v1, .inl (cI, 10, .inl v_L)), (v2, .inl (cI, 10, .inl v_U)), (v3, .inl (cI, 12, .inl v_H)), (v4, .inl (cI, 10, .inl v_O)), (v5, .inl (cI, 10, .inl v_B))] H := hP
        have hD : va_D A [(q0, .inr (0, [.int q_nt, .int q_iv, .ref q1, .ref v0, .int q_fd, .ref q2, .ref q3, .ref q4, .ref q5])), (q1, .inl (cI, 10, .inl q_or)), (q2, .inl (cI, 10, .inl (upd q_df x1.toNatClampNeg rv1))), (q3, .inl (cI, 1024, .inl q_se)), (q4, .inl (cI, 1024, .inl q_co)), (q5, .inl (cI, 1024, .inl q_ch)), (v0, .inr (3, [.int v_n, .ref v1, .ref v2, .ref v3, .ref v4, .ref v5])), (v1, .inl (cI, 10, .inl v_L)), (v2, .inl (cI, 10, .inl v_U)), (v3, .inl (cI, 12, .inl v_H)), (v4, .inl (cI, 10, .inl v_O)), (v5, .inl (cI, 10, .inl v_B))] := hD
        refine lv_iconst (v := (nI 0)) hx hb dX0_gatherTerms_34 ic_0 ?_
        refine lv_istore_n (lv' := [(2, .int (nI 0)), (0, .ref q0), (1, .int x1)]) hx hb dX0_gatherTerms_35 rfl hl (by decide) rfl (fun ls hl => ?_)
        exact hB_36 x1 (upd q_df x1.toNatClampNeg rv1) _ ih fu (nI 0) q_se hf _ _ hP hD hS ls (lv_sub hl [1, 2, 0] rfl)
  have hl := lv_entry ([.ref q0]) (n := 3) (Nat.le_of_ble_eq_true rfl)
  rw [lg_entry_eq]
  generalize (lg_sl ([.ref q0]) ++ List.replicate (3 - (lg_sl ([.ref q0])).length) Slot.unset).toArray = ls at hl ⊢
  have hl : lv_has ls 3 [(0, .ref q0)] := hl
  have hS : va_S A s.heap s.heap [] := va_S.rf
  unfold m_X0_gatherTerms at hf
  refine lv_aload_n hx hb dX0_gatherTerms_0 rfl (lv_at hl 0 rfl) ?_
  refine va_get (D := D) (ci := 0) (v := .ref q3) (C := RX0) (T := TX0) (N := 9) hx hb hts hiX0 hown hK.1 hP 0 rfl rfl 6 (by decide) hfl_36 (fun _ h9 => h9) rfl dX0_gatherTerms_1 ?_
  refine lv_iconst (v := (nI 0)) hx hb dX0_gatherTerms_4 ic_0 ?_
  refine lv_iconst (v := (nI 0)) hx hb dX0_gatherTerms_5 ic_0 ?_
  obtain ⟨hi, hf⟩ := gd_some hf
  refine va_iast hx hb hK.1 hP hD hS 3 0 rfl rfl hi dX0_gatherTerms_6 (fun H locs hP hD hS => ?_)
  have hP : va_P D vwCl [(q0, .inr (0, [.int q_nt, .int q_iv, .ref q1, .ref v0, .int q_fd, .ref q2, .ref q3, .ref q4, .ref q5])), (q1, .inl (cI, 10, .inl q_or)), (q2, .inl (cI, 10, .inl q_df)), (q3, .inl (cI, 1024, .inl (upd q_se (nI 0).toNatClampNeg (nI 0)))), (q4, .inl (cI, 1024, .inl q_co)), (q5, .inl (cI, 1024, .inl q_ch)), (v0, .inr (3, [.int v_n, .ref v1, .ref v2, .ref v3, .ref v4, .ref v5])), (v1, .inl (cI, 10, .inl v_L)), (v2, .inl (cI, 10, .inl v_U)), (v3, .inl (cI, 12, .inl v_H)), (v4, .inl (cI, 10, .inl v_O)), (v5, .inl (cI, 10, .inl v_B))] H := hP
  have hD : va_D A [(q0, .inr (0, [.int q_nt, .int q_iv, .ref q1, .ref v0, .int q_fd, .ref q2, .ref q3, .ref q4, .ref q5])), (q1, .inl (cI, 10, .inl q_or)), (q2, .inl (cI, 10, .inl q_df)), (q3, .inl (cI, 1024, .inl (upd q_se (nI 0).toNatClampNeg (nI 0)))), (q4, .inl (cI, 1024, .inl q_co)), (q5, .inl (cI, 1024, .inl q_ch)), (v0, .inr (3, [.int v_n, .ref v1, .ref v2, .ref v3, .ref v4, .ref v5])), (v1, .inl (cI, 10, .inl v_L)), (v2, .inl (cI, 10, .inl v_U)), (v3, .inl (cI, 12, .inl v_H)), (v4, .inl (cI, 10, .inl v_O)), (v5, .inl (cI, 10, .inl v_B))] := hD
  refine lv_iconst (v := (nI 0)) hx hb dX0_gatherTerms_7 ic_0 ?_
  refine lv_istore_n (lv' := [(1, .int (nI 0)), (0, .ref q0)]) hx hb dX0_gatherTerms_8 rfl hl (by decide) rfl (fun ls hl => ?_)
  exact hB_9 fu (nI 0) q_df (upd q_se (nI 0).toNatClampNeg (nI 0)) hf _ _ hP hD hS ls (lv_sub hl [1, 0] rfl)
theorem hdc_X6_has : yX6_has.cls ≠ "java/lang/invoke/MethodHandle" ∧ yX6_has.cls ≠ "java/lang/invoke/VarHandle" ∧ (parseMethodDescriptor yX6_has.desc).map (fun d => d.parameters.length) = some 2 := by decide +kernel
set_option maxHeartbeats 4000000 in
set_option maxRecDepth 100000 in
theorem c_X6_has (l : Launch) (D : va_G) (cI cZ cM : ClassId) (x0 : Int32) (x1 : Int32) (r : Int32) (hf : m_X6_has x0 x1 = some r) : Met l yX6_has wsX6_has ({ frames := 0, cells := 0, slots := 0, locals := 0 }) (pR D cI cZ cM [] [.int x0, .int x1]) (qR r) 0 0 (fun _ => False) := by
  refine Met.ofW (cc := cX6_has) (maxL := 2) (ret := (some .boolean)) (by decide) rfl ?_
  intro p e s m args below meth c s₁ B hml hv
  obtain ⟨rfl, hP, hK⟩ := hv
  have hx := B.exec
  have hb := B.bytes
  have hr := B.returns
  have hts := atoms_spec (ws := wsX6_has) B.pre
  have hown : s.vm.findClass RX6 = some m.cls := findClass_of_methodNamed B.named
  have hlocks := B.notSynchronized
  have hl := lv_entry ([.int x0, .int x1]) (n := 2) (Nat.le_of_ble_eq_true rfl)
  rw [lg_entry_eq]
  generalize (lg_sl ([.int x0, .int x1]) ++ List.replicate (2 - (lg_sl ([.int x0, .int x1])).length) Slot.unset).toArray = ls at hl ⊢
  have hl : lv_has ls 2 [(0, .int x0), (1, .int x1)] := hl
  unfold m_X6_has at hf
  refine lv_iload_n hx hb dX6_has_0 rfl (lv_at hl 0 rfl) ?_
  refine lv_iconst (v := (nI 1)) hx hb dX6_has_1 ic_1 ?_
  refine lv_iload_n hx hb dX6_has_2 rfl (lv_at hl 1 rfl) ?_
  refine lv_ishl hx hb dX6_has_3 ?_
  refine lv_iand hx hb dX6_has_4 ?_
  refine lv_if_eq (tgt := 12) hx hb dX6_has_5 (by decide) (fun hc => ?_) (fun hc => ?_)
  · have hf := ifp hc hf
    refine lv_iconst (v := (nI 0)) hx hb dX6_has_12 ic_0 ?_
    cases hf
    exact W.zret hx hb hr zbl_0.1 (fun t ht _ => ⟨rfl, ht⟩) (fun _ h => nomatch h) dX6_has_13
  · have hf := ifn hc hf
    refine lv_iconst (v := (nI 1)) hx hb dX6_has_8 ic_1 ?_
    refine lv_goto (tgt := 13) hx hb dX6_has_9 (by decide) ?_
    cases hf
    exact W.zret hx hb hr zbl_1.1 (fun t ht _ => ⟨rfl, ht⟩) (fun _ h => nomatch h) dX6_has_13
theorem hdc_J6_bitCount_0f7a4 : yJ6_bitCount_0f7a4.cls ≠ "java/lang/invoke/MethodHandle" ∧ yJ6_bitCount_0f7a4.cls ≠ "java/lang/invoke/VarHandle" ∧ (parseMethodDescriptor yJ6_bitCount_0f7a4.desc).map (fun d => d.parameters.length) = some 1 := by decide +kernel
set_option maxHeartbeats 4000000 in
set_option maxRecDepth 100000 in
theorem c_J6_bitCount_0f7a4 (l : Launch) (D : va_G) (cI cZ cM : ClassId) (x0 : Int32) (r : Int32) (hf : m_J6_bitCount_0f7a4 x0 = some r) : Met l yJ6_bitCount_0f7a4 wsJ6_bitCount_0f7a4 ({ frames := 0, cells := 0, slots := 0, locals := 0 }) (pR D cI cZ cM [] [.int x0]) (qR r) 0 0 (fun _ => False) := by
  refine Met.ofW (cc := cJ6_bitCount_0f7a4) (maxL := 1) (ret := (some .int)) (by decide) rfl ?_
  intro p e s m args below meth c s₁ B hml hv
  obtain ⟨rfl, hP, hK⟩ := hv
  have hx := B.exec
  have hb := B.bytes
  have hr := B.returns
  have hts := atoms_spec (ws := wsJ6_bitCount_0f7a4) B.pre
  have hown : s.vm.findClass RJ6 = some m.cls := findClass_of_methodNamed B.named
  have hlocks := B.notSynchronized
  have hki_265 := hts (.constant RJ6 265 (1431655765)) (List.mem_cons_of_mem _ (List.mem_of_getElem? (i := 0) rfl))
  have hki_266 := hts (.constant RJ6 266 (858993459)) (List.mem_cons_of_mem _ (List.mem_of_getElem? (i := 1) rfl))
  have hki_267 := hts (.constant RJ6 267 (252645135)) (List.mem_cons_of_mem _ (List.mem_of_getElem? (i := 2) rfl))
  have hl := lv_entry ([.int x0]) (n := 1) (Nat.le_of_ble_eq_true rfl)
  rw [lg_entry_eq]
  generalize (lg_sl ([.int x0]) ++ List.replicate (1 - (lg_sl ([.int x0])).length) Slot.unset).toArray = ls at hl ⊢
  have hl : lv_has ls 1 [(0, .int x0)] := hl
  unfold m_J6_bitCount_0f7a4 at hf
  refine lv_iload_n hx hb dJ6_bitCount_0f7a4_0 rfl (lv_at hl 0 rfl) ?_
  refine lv_iload_n hx hb dJ6_bitCount_0f7a4_1 rfl (lv_at hl 0 rfl) ?_
  refine lv_iconst (v := (nI 1)) hx hb dJ6_bitCount_0f7a4_2 ic_1 ?_
  refine lv_iushr (v := (x0.toUInt32 >>> ((nI 1).toUInt32 &&& Int32.toUInt32 31)).toInt32) hx hb dJ6_bitCount_0f7a4_3 rfl ?_
  refine lv_ldcw (v := (nI 1431655765)) hx hb hown hki_265 dJ6_bitCount_0f7a4_4 ?_
  refine lv_iand hx hb dJ6_bitCount_0f7a4_7 ?_
  refine lv_isub hx hb dJ6_bitCount_0f7a4_8 ?_
  refine lv_topi (fun nv1 env1 => ?_)
  have hf := nmE env1 hf
  refine lv_istore_n (lv' := [(0, .int nv1)]) hx hb dJ6_bitCount_0f7a4_9 rfl hl (by decide) rfl (fun ls hl => ?_)
  refine lv_iload_n hx hb dJ6_bitCount_0f7a4_10 rfl (lv_at hl 0 rfl) ?_
  refine lv_ldcw (v := (nI 858993459)) hx hb hown hki_266 dJ6_bitCount_0f7a4_11 ?_
  refine lv_iand hx hb dJ6_bitCount_0f7a4_14 ?_
  refine lv_iload_n hx hb dJ6_bitCount_0f7a4_15 rfl (lv_at hl 0 rfl) ?_
  refine lv_iconst (v := (nI 2)) hx hb dJ6_bitCount_0f7a4_16 ic_2 ?_
  refine lv_iushr (v := (nv1.toUInt32 >>> ((nI 2).toUInt32 &&& Int32.toUInt32 31)).toInt32) hx hb dJ6_bitCount_0f7a4_17 rfl ?_
  refine lv_ldcw (v := (nI 858993459)) hx hb hown hki_266 dJ6_bitCount_0f7a4_18 ?_
  refine lv_iand hx hb dJ6_bitCount_0f7a4_21 ?_
  refine lv_iadd hx hb dJ6_bitCount_0f7a4_22 ?_
  refine lv_topi (fun nv2 env2 => ?_)
  have hf := nmE env2 hf
  refine lv_istore_n (lv' := [(0, .int nv2)]) hx hb dJ6_bitCount_0f7a4_23 rfl hl (by decide) rfl (fun ls hl => ?_)
  refine lv_iload_n hx hb dJ6_bitCount_0f7a4_24 rfl (lv_at hl 0 rfl) ?_
  refine lv_iload_n hx hb dJ6_bitCount_0f7a4_25 rfl (lv_at hl 0 rfl) ?_
  refine lv_iconst (v := (nI 4)) hx hb dJ6_bitCount_0f7a4_26 ic_4 ?_
  refine lv_iushr (v := (nv2.toUInt32 >>> ((nI 4).toUInt32 &&& Int32.toUInt32 31)).toInt32) hx hb dJ6_bitCount_0f7a4_27 rfl ?_
  refine lv_iadd hx hb dJ6_bitCount_0f7a4_28 ?_
  refine lv_ldcw (v := (nI 252645135)) hx hb hown hki_267 dJ6_bitCount_0f7a4_29 ?_
  refine lv_iand hx hb dJ6_bitCount_0f7a4_32 ?_
  refine lv_topi (fun nv3 env3 => ?_)
  have hf := nmE env3 hf
  refine lv_istore_n (lv' := [(0, .int nv3)]) hx hb dJ6_bitCount_0f7a4_33 rfl hl (by decide) rfl (fun ls hl => ?_)
  refine lv_iload_n hx hb dJ6_bitCount_0f7a4_34 rfl (lv_at hl 0 rfl) ?_
  refine lv_iload_n hx hb dJ6_bitCount_0f7a4_35 rfl (lv_at hl 0 rfl) ?_
  refine lv_bipush (v := (nI 8)) hx hb dJ6_bitCount_0f7a4_36 bp_8 ?_
  refine lv_iushr (v := (nv3.toUInt32 >>> ((nI 8).toUInt32 &&& Int32.toUInt32 31)).toInt32) hx hb dJ6_bitCount_0f7a4_38 rfl ?_
  refine lv_iadd hx hb dJ6_bitCount_0f7a4_39 ?_
  refine lv_istore_n (lv' := [(0, .int (nv3 + (nv3.toUInt32 >>> ((nI 8).toUInt32 &&& Int32.toUInt32 31)).toInt32))]) hx hb dJ6_bitCount_0f7a4_40 rfl hl (by decide) rfl (fun ls hl => ?_)
  refine lv_iload_n hx hb dJ6_bitCount_0f7a4_41 rfl (lv_at hl 0 rfl) ?_
  refine lv_iload_n hx hb dJ6_bitCount_0f7a4_42 rfl (lv_at hl 0 rfl) ?_
  refine lv_bipush (v := (nI 16)) hx hb dJ6_bitCount_0f7a4_43 bp_16 ?_
  refine lv_iushr (v := ((nv3 + (nv3.toUInt32 >>> ((nI 8).toUInt32 &&& Int32.toUInt32 31)).toInt32).toUInt32 >>> ((nI 16).toUInt32 &&& Int32.toUInt32 31)).toInt32) hx hb dJ6_bitCount_0f7a4_45 rfl ?_
  refine lv_iadd hx hb dJ6_bitCount_0f7a4_46 ?_
  refine lv_topi (fun nv4 env4 => ?_)
  have hf := nmE env4 hf
  refine lv_istore_n (lv' := [(0, .int nv4)]) hx hb dJ6_bitCount_0f7a4_47 rfl hl (by decide) rfl (fun ls hl => ?_)
  refine lv_iload_n hx hb dJ6_bitCount_0f7a4_48 rfl (lv_at hl 0 rfl) ?_
  refine lv_bipush (v := (nI 63)) hx hb dJ6_bitCount_0f7a4_49 bp_63 ?_
  refine lv_iand hx hb dJ6_bitCount_0f7a4_51 ?_
  cases hf
  exact W.iret hx hb hr (fun t ht _ => ⟨rfl, ht⟩) (fun _ h => nomatch h) dJ6_bitCount_0f7a4_52
theorem hdc_X0_noteCost : yX0_noteCost.cls ≠ "java/lang/invoke/MethodHandle" ∧ yX0_noteCost.cls ≠ "java/lang/invoke/VarHandle" ∧ (parseMethodDescriptor yX0_noteCost.desc).map (fun d => d.parameters.length) = some 2 := by decide +kernel
set_option maxHeartbeats 4000000 in
set_option maxRecDepth 100000 in
theorem c_X0_noteCost (l : Launch) (D : va_G) (cI cZ cM : ClassId) (q0 q1 q2 q3 q4 q5 v0 v1 v2 v3 v4 v5 : Nat) (q_nt : Int32) (q_iv : Int32) (q_fd : Int32) (q_or : Nat → Int32) (q_df : Nat → Int32) (q_se : Nat → Int32) (q_co : Nat → Int32) (q_ch : Nat → Int32) (v_n : Int32) (v_L : Nat → Int32) (v_U : Nat → Int32) (v_H : Nat → Int32) (v_O : Nat → Int32) (v_B : Nat → Int32) (x1 : Int32) (x2 : Int32) (r : Int32) (hf : m_X0_noteCost q_df q_se x1 x2 = some r) : Met l yX0_noteCost wsX0_noteCost ({ frames := 1, cells := 0, slots := 0, locals := 20 }) (pR D cI cZ cM [(q0, .inr (0, [.int q_nt, .int q_iv, .ref q1, .ref v0, .int q_fd, .ref q2, .ref q3, .ref q4, .ref q5])), (q1, .inl (cI, 10, .inl q_or)), (q2, .inl (cI, 10, .inl q_df)), (q3, .inl (cI, 1024, .inl q_se)), (q4, .inl (cI, 1024, .inl q_co)), (q5, .inl (cI, 1024, .inl q_ch)), (v0, .inr (3, [.int v_n, .ref v1, .ref v2, .ref v3, .ref v4, .ref v5])), (v1, .inl (cI, 10, .inl v_L)), (v2, .inl (cI, 10, .inl v_U)), (v3, .inl (cI, 12, .inl v_H)), (v4, .inl (cI, 10, .inl v_O)), (v5, .inl (cI, 10, .inl v_B))] [.ref q0, .int x1, .int x2]) (qR r) 0 0 (fun _ => False) := by
  refine Met.ofW (cc := cX0_noteCost) (maxL := 4) (ret := (some .int)) (by decide) rfl ?_
  intro p e s m args below meth c s₁ B hml hv
  obtain ⟨rfl, hP, hK⟩ := hv
  have hx := B.exec
  have hb := B.bytes
  have hr := B.returns
  have hts := atoms_spec (ws := wsX0_noteCost) B.pre
  have hown : s.vm.findClass RX0 = some m.cls := findClass_of_methodNamed B.named
  have hlocks := B.notSynchronized
  have hfl_33 := hts (.fieldLink RX0 33 "TermsFirst$BestOrder" "defined" "[I") (List.mem_cons_of_mem _ (List.mem_append_left _ (List.mem_of_getElem? (i := 0) rfl)))
  have hfl_36 := hts (.fieldLink RX0 36 "TermsFirst$BestOrder" "seen" "[I") (List.mem_cons_of_mem _ (List.mem_append_left _ (List.mem_of_getElem? (i := 1) rfl)))
  have hiX0 : ∀ w ∈ u_ws RX0 TX0 9, w ∈ wsX0_noteCost := fun _ h => (List.mem_cons_of_mem _ (List.mem_append_right _ h))
  have hl := lv_entry ([.ref q0, .int x1, .int x2]) (n := 4) (Nat.le_of_ble_eq_true rfl)
  rw [lg_entry_eq]
  generalize (lg_sl ([.ref q0, .int x1, .int x2]) ++ List.replicate (4 - (lg_sl ([.ref q0, .int x1, .int x2])).length) Slot.unset).toArray = ls at hl ⊢
  have hl : lv_has ls 4 [(0, .ref q0), (1, .int x1), (2, .int x2)] := hl
  unfold m_X0_noteCost at hf
  refine lv_aload_n hx hb dX0_noteCost_0 rfl (lv_at hl 0 rfl) ?_
  refine va_get (D := D) (ci := 0) (v := .ref q2) (C := RX0) (T := TX0) (N := 9) hx hb hts hiX0 hown hK.1 hP 0 rfl rfl 5 (by decide) hfl_33 (fun _ h9 => h9) rfl dX0_noteCost_1 ?_
  refine lv_iload_n hx hb dX0_noteCost_4 rfl (lv_at hl 2 rfl) ?_
  obtain ⟨hi, hf⟩ := gd_some hf
  refine va_iald hx hb hK.1 hP 2 0 rfl rfl hi dX0_noteCost_5 ?_
  refine lv_aload_n hx hb dX0_noteCost_6 rfl (lv_at hl 0 rfl) ?_
  refine va_get (D := D) (ci := 0) (v := .ref q3) (C := RX0) (T := TX0) (N := 9) hx hb hts hiX0 hown hK.1 hP 0 rfl rfl 6 (by decide) hfl_36 (fun _ h9 => h9) rfl dX0_noteCost_7 ?_
  refine lv_iload_n hx hb dX0_noteCost_10 rfl (lv_at hl 1 rfl) ?_
  obtain ⟨hi, hf⟩ := gd_some hf
  refine va_iald hx hb hK.1 hP 3 0 rfl rfl hi dX0_noteCost_11 ?_
  refine lv_iand hx hb dX0_noteCost_12 ?_
  refine lv_istore_n (lv' := [(3, .int ((q_df x2.toNatClampNeg) &&& (q_se x1.toNatClampNeg))), (0, .ref q0), (1, .int x1), (2, .int x2)]) hx hb dX0_noteCost_13 rfl hl (by decide) rfl (fun ls hl => ?_)
  refine lv_iload_n hx hb dX0_noteCost_14 rfl (lv_at hl 0 rfl) ?_
  refine lv_if_ne (tgt := 22) hx hb dX0_noteCost_15 (by decide) (fun hc => ?_) (fun hc => ?_)
  · have hf := ifn hc hf
    refine lv_iload_n hx hb dX0_noteCost_22 rfl (lv_at hl 0 rfl) ?_
    obtain ⟨rv1, hrv1, hf⟩ := bd hf
    refine roI (va_runS (As := [.int ((q_df x2.toNatClampNeg) &&& (q_se x1.toNatClampNeg))]) (rest := []) ⟨hx, hb, hml, hown, hts⟩ (c_J6_bitCount_0f7a4 l D cI cZ cM ((q_df x2.toNatClampNeg) &&& (q_se x1.toNatClampNeg)) rv1 hrv1) (va_cwS 1 hts gX0_noteCost_J6_bitCount_0f7a4 rfl rfl rfl hdc_J6_bitCount_0f7a4 ⟨Nat.le_of_ble_eq_true rfl, Nat.le_of_ble_eq_true rfl⟩) (prS hK hP [] rfl) rfl rfl hl.1 rfl (lv_room (Nat.le_of_ble_eq_true rfl)) dX0_noteCost_23 ⟨Nat.zero_le _, Nat.zero_le _⟩) ?_
    refine lv_bipush (v := (nI 64)) hx hb dX0_noteCost_26 bp_64 ?_
    refine lv_imul hx hb dX0_noteCost_28 ?_
    cases hf
    exact W.iret hx hb hr (fun t ht _ => ⟨rfl, ht⟩) (fun _ h => nomatch h) dX0_noteCost_29
  · have hf := ifp hc hf
    refine lv_iconst (v := (nI 0)) hx hb dX0_noteCost_18 ic_0 ?_
    refine lv_goto (tgt := 29) hx hb dX0_noteCost_19 (by decide) ?_
    cases hf
    exact W.iret hx hb hr (fun t ht _ => ⟨rfl, ht⟩) (fun _ h => nomatch h) dX0_noteCost_29
theorem hdc_X0_choose : yX0_choose.cls ≠ "java/lang/invoke/MethodHandle" ∧ yX0_choose.cls ≠ "java/lang/invoke/VarHandle" ∧ (parseMethodDescriptor yX0_choose.desc).map (fun d => d.parameters.length) = some 1 := by decide +kernel
set_option maxHeartbeats 4000000 in
set_option maxRecDepth 100000 in
theorem c_X0_choose (l : Launch) (D : va_G) (cI cZ cM : ClassId) (q0 q1 q2 q3 q4 q5 v0 v1 v2 v3 v4 v5 : Nat) (sz : Nat) (q_nt : Int32) (q_iv : Int32) (q_fd : Int32) (q_or : Nat → Int32) (q_df : Nat → Int32) (q_se : Nat → Int32) (q_co : Nat → Int32) (q_ch : Nat → Int32) (v_n : Int32) (v_L : Nat → Int32) (v_U : Nat → Int32) (v_H : Nat → Int32) (v_O : Nat → Int32) (v_B : Nat → Int32) (x1 : Int32) (fu : Nat) (q_co' : Nat → Int32) (q_ch' : Nat → Int32) (hf : m_X0_choose fu q_df q_se q_co q_ch v_n v_O v_B x1 = some (q_co', q_ch')) : Met l yX0_choose wsX0_choose ({ frames := 2, cells := 0, slots := 0, locals := 43 }) (pM D cI cZ cM sz [(q0, .inr (0, [.int q_nt, .int q_iv, .ref q1, .ref v0, .int q_fd, .ref q2, .ref q3, .ref q4, .ref q5])), (q1, .inl (cI, 10, .inl q_or)), (q2, .inl (cI, 10, .inl q_df)), (q3, .inl (cI, 1024, .inl q_se)), (q4, .inl (cI, 1024, .inl q_co)), (q5, .inl (cI, 1024, .inl q_ch)), (v0, .inr (3, [.int v_n, .ref v1, .ref v2, .ref v3, .ref v4, .ref v5])), (v1, .inl (cI, 10, .inl v_L)), (v2, .inl (cI, 10, .inl v_U)), (v3, .inl (cI, 12, .inl v_H)), (v4, .inl (cI, 10, .inl v_O)), (v5, .inl (cI, 10, .inl v_B))] [.ref q0, .int x1]) (qV D [(q0, .inr (0, [.int q_nt, .int q_iv, .ref q1, .ref v0, .int q_fd, .ref q2, .ref q3, .ref q4, .ref q5])), (q1, .inl (cI, 10, .inl q_or)), (q2, .inl (cI, 10, .inl q_df)), (q3, .inl (cI, 1024, .inl q_se)), (q4, .inl (cI, 1024, .inl q_co')), (q5, .inl (cI, 1024, .inl q_ch')), (v0, .inr (3, [.int v_n, .ref v1, .ref v2, .ref v3, .ref v4, .ref v5])), (v1, .inl (cI, 10, .inl v_L)), (v2, .inl (cI, 10, .inl v_U)), (v3, .inl (cI, 12, .inl v_H)), (v4, .inl (cI, 10, .inl v_O)), (v5, .inl (cI, 10, .inl v_B))] (va_A [(q0, .inr (0, [.int q_nt, .int q_iv, .ref q1, .ref v0, .int q_fd, .ref q2, .ref q3, .ref q4, .ref q5])), (q1, .inl (cI, 10, .inl q_or)), (q2, .inl (cI, 10, .inl q_df)), (q3, .inl (cI, 1024, .inl q_se)), (q4, .inl (cI, 1024, .inl q_co)), (q5, .inl (cI, 1024, .inl q_ch)), (v0, .inr (3, [.int v_n, .ref v1, .ref v2, .ref v3, .ref v4, .ref v5])), (v1, .inl (cI, 10, .inl v_L)), (v2, .inl (cI, 10, .inl v_U)), (v3, .inl (cI, 12, .inl v_H)), (v4, .inl (cI, 10, .inl v_O)), (v5, .inl (cI, 10, .inl v_B))] sz)) 0 0 (va_A [(q0, .inr (0, [.int q_nt, .int q_iv, .ref q1, .ref v0, .int q_fd, .ref q2, .ref q3, .ref q4, .ref q5])), (q1, .inl (cI, 10, .inl q_or)), (q2, .inl (cI, 10, .inl q_df)), (q3, .inl (cI, 1024, .inl q_se)), (q4, .inl (cI, 1024, .inl q_co)), (q5, .inl (cI, 1024, .inl q_ch)), (v0, .inr (3, [.int v_n, .ref v1, .ref v2, .ref v3, .ref v4, .ref v5])), (v1, .inl (cI, 10, .inl v_L)), (v2, .inl (cI, 10, .inl v_U)), (v3, .inl (cI, 12, .inl v_H)), (v4, .inl (cI, 10, .inl v_O)), (v5, .inl (cI, 10, .inl v_B))] sz) := by
  refine Met.ofW (cc := cX0_choose) (maxL := 8) (ret := none) (by decide) rfl ?_
  intro p e s m args below meth c s₁ B hml hv
  obtain ⟨rfl, hsz, hP, hK, hD0⟩ := hv
  have hx := B.exec
  have hb := B.bytes
  have hr := B.returns
  have hts := atoms_spec (ws := wsX0_choose) B.pre
  have hown : s.vm.findClass RX0 = some m.cls := findClass_of_methodNamed B.named
  have hlocks := B.notSynchronized
  subst hsz
  have hD := hD0.self (sz := s.heap.size)
  generalize hAe : va_A [(q0, .inr (0, [.int q_nt, .int q_iv, .ref q1, .ref v0, .int q_fd, .ref q2, .ref q3, .ref q4, .ref q5])), (q1, .inl (cI, 10, .inl q_or)), (q2, .inl (cI, 10, .inl q_df)), (q3, .inl (cI, 1024, .inl q_se)), (q4, .inl (cI, 1024, .inl q_co)), (q5, .inl (cI, 1024, .inl q_ch)), (v0, .inr (3, [.int v_n, .ref v1, .ref v2, .ref v3, .ref v4, .ref v5])), (v1, .inl (cI, 10, .inl v_L)), (v2, .inl (cI, 10, .inl v_U)), (v3, .inl (cI, 12, .inl v_H)), (v4, .inl (cI, 10, .inl v_O)), (v5, .inl (cI, 10, .inl v_B))] s.heap.size = A at hD ⊢
  have hA : ∀ q : Nat, s.heap.size ≤ q → A q := fun q h => by rw [← hAe]; exact Or.inr h
  clear hAe hD0
  have hfl_25 := hts (.fieldLink RX0 25 "TermsFirst$BestOrder" "manual" "LTermsFirst$Manual;") (List.mem_cons_of_mem _ (List.mem_append_left _ (List.mem_append_left _ (List.mem_append_left _ (List.mem_of_getElem? (i := 1) rfl)))))
  have hfl_39 := hts (.fieldLink RX0 39 "TermsFirst$BestOrder" "costs" "[I") (List.mem_cons_of_mem _ (List.mem_append_left _ (List.mem_append_left _ (List.mem_append_left _ (List.mem_of_getElem? (i := 5) rfl)))))
  have hfl_42 := hts (.fieldLink RX0 42 "TermsFirst$BestOrder" "choices" "[I") (List.mem_cons_of_mem _ (List.mem_append_left _ (List.mem_append_left _ (List.mem_append_left _ (List.mem_of_getElem? (i := 6) rfl)))))
  have hfl_56 := hts (.fieldLink RX0 56 "TermsFirst$Manual" "n" "I") (List.mem_cons_of_mem _ (List.mem_append_left _ (List.mem_append_left _ (List.mem_append_left _ (List.mem_of_getElem? (i := 2) rfl)))))
  have hfl_78 := hts (.fieldLink RX0 78 "TermsFirst$Manual" "order" "[I") (List.mem_cons_of_mem _ (List.mem_append_left _ (List.mem_append_left _ (List.mem_append_left _ (List.mem_of_getElem? (i := 3) rfl)))))
  have hfl_83 := hts (.fieldLink RX0 83 "TermsFirst$Manual" "before" "[I") (List.mem_cons_of_mem _ (List.mem_append_left _ (List.mem_append_left _ (List.mem_append_left _ (List.mem_of_getElem? (i := 4) rfl)))))
  have hki_77 := hts (.constant RX0 77 (1000000)) (List.mem_cons_of_mem _ (List.mem_append_left _ (List.mem_append_left _ (List.mem_append_left _ (List.mem_of_getElem? (i := 0) rfl)))))
  have hn_3 : va_Nw (.methodLinkNest RX0 70 yX6_with RX6) s := nw_3 hK
  have hin_RX6 : (Cond.initialized yX6_with.cls).before _ s = true := hts (.initialized RX6) (List.mem_cons_of_mem _ (List.mem_append_left _ (List.mem_append_left _ (List.mem_append_left _ (List.mem_of_getElem? (i := 8) rfl)))))
  have hst_X6_with := hts (.static yX6_with) (List.mem_cons_of_mem _ (List.mem_append_left _ (List.mem_append_left _ (List.mem_append_right _ (List.mem_of_getElem? (i := 0) rfl)))))
  have hn_4 : va_Nw (.methodLinkNest RX0 79 yX6_has RX6) s := nw_4 hK
  have hin_RX6 : (Cond.initialized yX6_has.cls).before _ s = true := hts (.initialized RX6) (List.mem_cons_of_mem _ (List.mem_append_left _ (List.mem_append_left _ (List.mem_append_left _ (List.mem_of_getElem? (i := 8) rfl)))))
  have hst_X6_has := hts (.static yX6_has) (List.mem_cons_of_mem _ (List.mem_append_left _ (List.mem_append_left _ (List.mem_append_left _ (List.mem_of_getElem? (i := 7) rfl)))))
  have hiX0 : ∀ w ∈ u_ws RX0 TX0 9, w ∈ wsX0_choose := fun _ h => (List.mem_cons_of_mem _ (List.mem_append_left _ (List.mem_append_right _ h)))
  have hiX3 : ∀ w ∈ u_ws RX3 TX3 6, w ∈ wsX0_choose := fun _ h => (List.mem_cons_of_mem _ (List.mem_append_right _ h))
  have hB_19 : ∀ (fn : Nat) (x2 : Int32) (x3 : Int32) (x4 : Int32) (x5 : Int32), m_X0_choose_19 q_df q_se q_co q_ch v_O v_B x1 fn x2 x3 x4 x5 = some (q_co', q_ch') → ∀ (H : Heap) (locs : List Loc), va_P D vwCl [(q0, .inr (0, [.int q_nt, .int q_iv, .ref q1, .ref v0, .int q_fd, .ref q2, .ref q3, .ref q4, .ref q5])), (q1, .inl (cI, 10, .inl q_or)), (q2, .inl (cI, 10, .inl q_df)), (q3, .inl (cI, 1024, .inl q_se)), (q4, .inl (cI, 1024, .inl q_co)), (q5, .inl (cI, 1024, .inl q_ch)), (v0, .inr (3, [.int v_n, .ref v1, .ref v2, .ref v3, .ref v4, .ref v5])), (v1, .inl (cI, 10, .inl v_L)), (v2, .inl (cI, 10, .inl v_U)), (v3, .inl (cI, 12, .inl v_H)), (v4, .inl (cI, 10, .inl v_O)), (v5, .inl (cI, 10, .inl v_B))] H → va_D A [(q0, .inr (0, [.int q_nt, .int q_iv, .ref q1, .ref v0, .int q_fd, .ref q2, .ref q3, .ref q4, .ref q5])), (q1, .inl (cI, 10, .inl q_or)), (q2, .inl (cI, 10, .inl q_df)), (q3, .inl (cI, 1024, .inl q_se)), (q4, .inl (cI, 1024, .inl q_co)), (q5, .inl (cI, 1024, .inl q_ch)), (v0, .inr (3, [.int v_n, .ref v1, .ref v2, .ref v3, .ref v4, .ref v5])), (v1, .inl (cI, 10, .inl v_L)), (v2, .inl (cI, 10, .inl v_U)), (v3, .inl (cI, 12, .inl v_H)), (v4, .inl (cI, 10, .inl v_O)), (v5, .inl (cI, 10, .inl v_B))] → va_S A s.heap H locs → ∀ ls : Array Slot, lv_has ls 8 [(0, .ref q0), (1, .int x1), (2, .int x2), (3, .int x3), (4, .int x4), (5, .int x5)] → W p l e (headSpec wsX0_choose { frames := 2, cells := 0, slots := 0, locals := 43 }).room s m ([.ref q0, .int x1] : List Value).toArray below meth c H locs 0 0 (MQ below (qV D [(q0, .inr (0, [.int q_nt, .int q_iv, .ref q1, .ref v0, .int q_fd, .ref q2, .ref q3, .ref q4, .ref q5])), (q1, .inl (cI, 10, .inl q_or)), (q2, .inl (cI, 10, .inl q_df)), (q3, .inl (cI, 1024, .inl q_se)), (q4, .inl (cI, 1024, .inl q_co')), (q5, .inl (cI, 1024, .inl q_ch')), (v0, .inr (3, [.int v_n, .ref v1, .ref v2, .ref v3, .ref v4, .ref v5])), (v1, .inl (cI, 10, .inl v_L)), (v2, .inl (cI, 10, .inl v_U)), (v3, .inl (cI, 12, .inl v_H)), (v4, .inl (cI, 10, .inl v_O)), (v5, .inl (cI, 10, .inl v_B))] A) ([.ref q0, .int x1] : List Value).toArray s 0 0 A) (F0 m 19 ls []) := by
    intro fn
    induction fn with
    | zero => intro x2 x3 x4 x5 hf; rw [m_X0_choose_19] at hf; cases hf
    | succ fn ih =>
      intro x2 x3 x4 x5 hf H locs hP hD hS ls hl
      rw [m_X0_choose_19] at hf
      refine lv_iload hx hb dX0_choose_19 (lv_at hl 5 rfl) ?_
      refine lv_if_lt (tgt := 110) hx hb dX0_choose_21 (by decide) (fun hc => ?_) (fun hc => ?_)
      · have hf := ifp hc hf
        refine lv_aload_n hx hb dX0_choose_110 rfl (lv_at hl 0 rfl) ?_
        refine va_get (D := D) (ci := 0) (v := .ref q4) (C := RX0) (T := TX0) (N := 9) hx hb hts hiX0 hown hK.1 hP 0 rfl rfl 7 (by decide) hfl_39 (fun _ h9 => h9) rfl dX0_choose_111 ?_
        refine lv_iload_n hx hb dX0_choose_114 rfl (lv_at hl 1 rfl) ?_
        refine lv_iload_n hx hb dX0_choose_115 rfl (lv_at hl 2 rfl) ?_
        obtain ⟨hi, hf⟩ := gd_some hf
        refine va_iast hx hb hK.1 hP hD hS 4 0 rfl rfl hi dX0_choose_116 (fun H locs hP hD hS => ?_)
        have hP : va_P D vwCl [(q0, .inr (0, [.int q_nt, .int q_iv, .ref q1, .ref v0, .int q_fd, .ref q2, .ref q3, .ref q4, .ref q5])), (q1, .inl (cI, 10, .inl q_or)), (q2, .inl (cI, 10, .inl q_df)), (q3, .inl (cI, 1024, .inl q_se)), (q4, .inl (cI, 1024, .inl (upd q_co x1.toNatClampNeg x2))), (q5, .inl (cI, 1024, .inl q_ch)), (v0, .inr (3, [.int v_n, .ref v1, .ref v2, .ref v3, .ref v4, .ref v5])), (v1, .inl (cI, 10, .inl v_L)), (v2, .inl (cI, 10, .inl v_U)), (v3, .inl (cI, 12, .inl v_H)), (v4, .inl (cI, 10, .inl v_O)), (v5, .inl (cI, 10, .inl v_B))] H := hP
        have hD : va_D A [(q0, .inr (0, [.int q_nt, .int q_iv, .ref q1, .ref v0, .int q_fd, .ref q2, .ref q3, .ref q4, .ref q5])), (q1, .inl (cI, 10, .inl q_or)), (q2, .inl (cI, 10, .inl q_df)), (q3, .inl (cI, 1024, .inl q_se)), (q4, .inl (cI, 1024, .inl (upd q_co x1.toNatClampNeg x2))), (q5, .inl (cI, 1024, .inl q_ch)), (v0, .inr (3, [.int v_n, .ref v1, .ref v2, .ref v3, .ref v4, .ref v5])), (v1, .inl (cI, 10, .inl v_L)), (v2, .inl (cI, 10, .inl v_U)), (v3, .inl (cI, 12, .inl v_H)), (v4, .inl (cI, 10, .inl v_O)), (v5, .inl (cI, 10, .inl v_B))] := hD
        refine lv_aload_n hx hb dX0_choose_117 rfl (lv_at hl 0 rfl) ?_
        refine va_get (D := D) (ci := 0) (v := .ref q5) (C := RX0) (T := TX0) (N := 9) hx hb hts hiX0 hown hK.1 hP 0 rfl rfl 8 (by decide) hfl_42 (fun _ h9 => h9) rfl dX0_choose_118 ?_
        refine lv_iload_n hx hb dX0_choose_121 rfl (lv_at hl 1 rfl) ?_
        refine lv_iload_n hx hb dX0_choose_122 rfl (lv_at hl 3 rfl) ?_
        obtain ⟨hi, hf⟩ := gd_some hf
        refine va_iast hx hb hK.1 hP hD hS 5 0 rfl rfl hi dX0_choose_123 (fun H locs hP hD hS => ?_)
        have hP : va_P D vwCl [(q0, .inr (0, [.int q_nt, .int q_iv, .ref q1, .ref v0, .int q_fd, .ref q2, .ref q3, .ref q4, .ref q5])), (q1, .inl (cI, 10, .inl q_or)), (q2, .inl (cI, 10, .inl q_df)), (q3, .inl (cI, 1024, .inl q_se)), (q4, .inl (cI, 1024, .inl (upd q_co x1.toNatClampNeg x2))), (q5, .inl (cI, 1024, .inl (upd q_ch x1.toNatClampNeg x3))), (v0, .inr (3, [.int v_n, .ref v1, .ref v2, .ref v3, .ref v4, .ref v5])), (v1, .inl (cI, 10, .inl v_L)), (v2, .inl (cI, 10, .inl v_U)), (v3, .inl (cI, 12, .inl v_H)), (v4, .inl (cI, 10, .inl v_O)), (v5, .inl (cI, 10, .inl v_B))] H := hP
        have hD : va_D A [(q0, .inr (0, [.int q_nt, .int q_iv, .ref q1, .ref v0, .int q_fd, .ref q2, .ref q3, .ref q4, .ref q5])), (q1, .inl (cI, 10, .inl q_or)), (q2, .inl (cI, 10, .inl q_df)), (q3, .inl (cI, 1024, .inl q_se)), (q4, .inl (cI, 1024, .inl (upd q_co x1.toNatClampNeg x2))), (q5, .inl (cI, 1024, .inl (upd q_ch x1.toNatClampNeg x3))), (v0, .inr (3, [.int v_n, .ref v1, .ref v2, .ref v3, .ref v4, .ref v5])), (v1, .inl (cI, 10, .inl v_L)), (v2, .inl (cI, 10, .inl v_U)), (v3, .inl (cI, 12, .inl v_H)), (v4, .inl (cI, 10, .inl v_O)), (v5, .inl (cI, 10, .inl v_B))] := hD
        cases hf
        exact W.vret hx hb hr (fun t ht _ => ⟨⟨rfl, by rw [ht]; exact hP, hD⟩, hS.F ht⟩) hS.2.2 dX0_choose_124
      · have hf := ifn hc hf
        refine lv_aload_n hx hb dX0_choose_24 rfl (lv_at hl 0 rfl) ?_
        refine va_get (D := D) (ci := 0) (v := .ref v0) (C := RX0) (T := TX0) (N := 9) hx hb hts hiX0 hown hK.1 hP 0 rfl rfl 3 (by decide) hfl_25 (fun _ h9 => h9) rfl dX0_choose_25 ?_
        refine va_get (D := D) (ci := 3) (v := .ref v4) (C := RX3) (T := TX3) (N := 6) hx hb hts hiX3 hown hK.1 hP 6 rfl rfl 4 (by decide) hfl_78 (fun _ h9 => h9) rfl dX0_choose_28 ?_
        refine lv_iload hx hb dX0_choose_31 (lv_at hl 5 rfl) ?_
        obtain ⟨hi, hf⟩ := gd_some hf
        refine va_iald hx hb hK.1 hP 10 0 rfl rfl hi dX0_choose_33 ?_
        refine lv_istore (lv' := [(6, .int (v_O x5.toNatClampNeg)), (0, .ref q0), (1, .int x1), (2, .int x2), (3, .int x3), (4, .int x4), (5, .int x5)]) hx hb dX0_choose_34 hl (by decide) rfl (fun ls hl => ?_)
        refine lv_iload_n hx hb dX0_choose_36 rfl (lv_at hl 2 rfl) ?_
        refine lv_iload hx hb dX0_choose_37 (lv_at hl 0 rfl) ?_
        obtain ⟨rv1, hrv1, hf⟩ := bd hf
        refine roI (va_runSN (As := [.int x1, .int (v_O x5.toNatClampNeg)]) (rest := []) ⟨hx, hb, hml, hown, hts⟩ (c_X6_has l D cI cZ cM x1 (v_O x5.toNatClampNeg) rv1 hrv1) ⟨va_cnB (host := RX6) 2 hts gX0_choose_X6_has_n79 rfl rfl rfl hn_4 hin_RX6 hdc_X6_has ⟨Nat.le_of_ble_eq_true rfl, Nat.le_of_ble_eq_true rfl⟩, hst_X6_has, trivial⟩ (prS hK hP [] rfl) rfl rfl hl.1 rfl (lv_room (Nat.le_of_ble_eq_true rfl)) dX0_choose_39 ⟨Nat.zero_le _, Nat.zero_le _⟩) ?_
        refine lv_if_eq (tgt := 51) hx hb dX0_choose_42 (by decide) (fun hc => ?_) (fun hc => ?_)
        · have hf := ifp hc hf
          refine lv_aload_n hx hb dX0_choose_51 rfl (lv_at hl 1 rfl) ?_
          refine va_get (D := D) (ci := 0) (v := .ref v0) (C := RX0) (T := TX0) (N := 9) hx hb hts hiX0 hown hK.1 hP 0 rfl rfl 3 (by decide) hfl_25 (fun _ h9 => h9) rfl dX0_choose_52 ?_
          refine va_get (D := D) (ci := 3) (v := .ref v5) (C := RX3) (T := TX3) (N := 6) hx hb hts hiX3 hown hK.1 hP 6 rfl rfl 5 (by decide) hfl_83 (fun _ h9 => h9) rfl dX0_choose_55 ?_
          refine lv_iload hx hb dX0_choose_58 (lv_at hl 0 rfl) ?_
          obtain ⟨hi, hf⟩ := gd_some hf
          refine va_iald hx hb hK.1 hP 11 0 rfl rfl hi dX0_choose_60 ?_
          refine lv_iload_n hx hb dX0_choose_61 rfl (lv_at hl 2 rfl) ?_
          refine lv_iconst (v := (-1 : Int32)) hx hb dX0_choose_62 ic_m1 ?_
          refine lv_ixor hx hb dX0_choose_63 ?_
          refine lv_iand hx hb dX0_choose_64 ?_
          refine lv_if_ne (tgt := 104) hx hb dX0_choose_65 (by decide) (fun hc => ?_) (fun hc => ?_)
          · have hf := ifn hc hf
            refine lv_iinc (v := (x5 + (-1 : Int32))) (lv' := [(5, .int (x5 + (-1 : Int32))), (6, .int (v_O x5.toNatClampNeg)), (0, .ref q0), (1, .int x1), (2, .int x2), (3, .int x3), (4, .int x4)]) hx hb dX0_choose_104 hl (k := 6) rfl (ii_m1 _) (by decide) rfl (fun ls hl => ?_)
            refine lv_goto (tgt := 19) hx hb dX0_choose_107 (by decide) ?_
            exact ih x2 x3 x4 (x5 + (-1 : Int32)) hf _ _ hP hD hS ls (lv_sub hl [2, 3, 4, 5, 6, 0] rfl)
          · have hf := ifp hc hf
            refine lv_aload_n hx hb dX0_choose_68 rfl (lv_at hl 1 rfl) ?_
            refine lv_iload_n hx hb dX0_choose_69 rfl (lv_at hl 2 rfl) ?_
            refine lv_iload hx hb dX0_choose_70 (lv_at hl 0 rfl) ?_
            obtain ⟨rv2, hrv2, hf⟩ := bd hf
            refine roI (va_runV (As := [.int x1, .int (v_O x5.toNatClampNeg)]) (rest := []) ⟨hx, hb, hml, hown, hts⟩ (c_X0_noteCost l D cI cZ cM q0 q1 q2 q3 q4 q5 v0 v1 v2 v3 v4 v5 q_nt q_iv q_fd q_or q_df q_se q_co q_ch v_n v_L v_U v_H v_O v_B x1 (v_O x5.toNatClampNeg) rv2 hrv2) (cwV 2 hts gX0_choose_X0_noteCost rfl rfl rfl ⟨rfl, hdc_X0_noteCost⟩ ⟨Nat.le_of_ble_eq_true rfl, Nat.le_of_ble_eq_true rfl⟩) (prV hK hP [0, 1, 2, 3, 4, 5, 6, 7, 8, 9, 10, 11] rfl (ci := 0) (q0 := 0) rfl rfl) rfl rfl hl.1 rfl (lv_room (Nat.le_of_ble_eq_true rfl)) dX0_choose_72 ⟨Nat.zero_le _, Nat.zero_le _⟩) ?_
            refine lv_iload hx hb dX0_choose_75 (lv_at hl 5 rfl) ?_
            refine lv_iadd hx hb dX0_choose_77 ?_
            refine lv_aload_n hx hb dX0_choose_78 rfl (lv_at hl 1 rfl) ?_
            refine va_get (D := D) (ci := 0) (v := .ref q4) (C := RX0) (T := TX0) (N := 9) hx hb hts hiX0 hown hK.1 hP 0 rfl rfl 7 (by decide) hfl_39 (fun _ h9 => h9) rfl dX0_choose_79 ?_
            refine lv_iload_n hx hb dX0_choose_82 rfl (lv_at hl 2 rfl) ?_
            refine lv_iload hx hb dX0_choose_83 (lv_at hl 0 rfl) ?_
            obtain ⟨rv3, hrv3, hf⟩ := bd hf
            refine roI (va_runSN (As := [.int x1, .int (v_O x5.toNatClampNeg)]) (rest := [.ref q4, .int (rv2 + x4)]) ⟨hx, hb, hml, hown, hts⟩ (c_X6_with l D cI cZ cM x1 (v_O x5.toNatClampNeg) rv3 hrv3) ⟨va_cnB (host := RX6) 2 hts gX0_choose_X6_with_n70 rfl rfl rfl hn_3 hin_RX6 hdc_X6_with ⟨Nat.le_of_ble_eq_true rfl, Nat.le_of_ble_eq_true rfl⟩, hst_X6_with, trivial⟩ (prS hK hP [] rfl) rfl rfl hl.1 rfl (lv_room (Nat.le_of_ble_eq_true rfl)) dX0_choose_85 ⟨Nat.zero_le _, Nat.zero_le _⟩) ?_
            obtain ⟨hi, hf⟩ := gd_some hf
            refine va_iald hx hb hK.1 hP 4 0 rfl rfl hi dX0_choose_88 ?_
            refine lv_iadd hx hb dX0_choose_89 ?_
            refine lv_istore (lv' := [(7, .int ((rv2 + x4) + (q_co rv3.toNatClampNeg))), (6, .int (v_O x5.toNatClampNeg)), (0, .ref q0), (1, .int x1), (2, .int x2), (3, .int x3), (4, .int x4), (5, .int x5)]) hx hb dX0_choose_90 hl (by decide) rfl (fun ls hl => ?_)
            refine lv_iload hx hb dX0_choose_92 (lv_at hl 0 rfl) ?_
            refine lv_iload_n hx hb dX0_choose_94 rfl (lv_at hl 4 rfl) ?_
            refine lv_icmp_gt (tgt := 104) hx hb dX0_choose_95 (by decide) (fun hc => ?_) (fun hc => ?_)
            · have hf := ifp hc hf
              refine lv_iinc (v := (x5 + (-1 : Int32))) (lv' := [(5, .int (x5 + (-1 : Int32))), (7, .int ((rv2 + x4) + (q_co rv3.toNatClampNeg))), (6, .int (v_O x5.toNatClampNeg)), (0, .ref q0), (1, .int x1), (2, .int x2), (3, .int x3), (4, .int x4)]) hx hb dX0_choose_104 hl (k := 7) rfl (ii_m1 _) (by decide) rfl (fun ls hl => ?_)
              refine lv_goto (tgt := 19) hx hb dX0_choose_107 (by decide) ?_
              exact ih x2 x3 x4 (x5 + (-1 : Int32)) hf _ _ hP hD hS ls (lv_sub hl [3, 4, 5, 6, 7, 0] rfl)
            · have hf := ifn hc hf
              refine lv_iload hx hb dX0_choose_98 (lv_at hl 0 rfl) ?_
              refine lv_istore_n (lv' := [(2, .int ((rv2 + x4) + (q_co rv3.toNatClampNeg))), (7, .int ((rv2 + x4) + (q_co rv3.toNatClampNeg))), (6, .int (v_O x5.toNatClampNeg)), (0, .ref q0), (1, .int x1), (3, .int x3), (4, .int x4), (5, .int x5)]) hx hb dX0_choose_100 rfl hl (by decide) rfl (fun ls hl => ?_)
              refine lv_iload hx hb dX0_choose_101 (lv_at hl 2 rfl) ?_
              refine lv_istore_n (lv' := [(3, .int (v_O x5.toNatClampNeg)), (2, .int ((rv2 + x4) + (q_co rv3.toNatClampNeg))), (7, .int ((rv2 + x4) + (q_co rv3.toNatClampNeg))), (6, .int (v_O x5.toNatClampNeg)), (0, .ref q0), (1, .int x1), (4, .int x4), (5, .int x5)]) hx hb dX0_choose_103 rfl hl (by decide) rfl (fun ls hl => ?_)
              refine lv_iinc (v := (x5 + (-1 : Int32))) (lv' := [(5, .int (x5 + (-1 : Int32))), (3, .int (v_O x5.toNatClampNeg)), (2, .int ((rv2 + x4) + (q_co rv3.toNatClampNeg))), (7, .int ((rv2 + x4) + (q_co rv3.toNatClampNeg))), (6, .int (v_O x5.toNatClampNeg)), (0, .ref q0), (1, .int x1), (4, .int x4)]) hx hb dX0_choose_104 hl (k := 7) rfl (ii_m1 _) (by decide) rfl (fun ls hl => ?_)
              refine lv_goto (tgt := 19) hx hb dX0_choose_107 (by decide) ?_
              exact ih ((rv2 + x4) + (q_co rv3.toNatClampNeg)) (v_O x5.toNatClampNeg) x4 (x5 + (-1 : Int32)) hf _ _ hP hD hS ls (lv_sub hl [5, 6, 2, 1, 7, 0] rfl)
        · have hf := ifn hc hf
          refine lv_iinc (v := (x4 + (nI 1))) (lv' := [(4, .int (x4 + (nI 1))), (6, .int (v_O x5.toNatClampNeg)), (0, .ref q0), (1, .int x1), (2, .int x2), (3, .int x3), (5, .int x5)]) hx hb dX0_choose_45 hl (k := 5) rfl (ii_1 _) (by decide) rfl (fun ls hl => ?_)
          refine lv_goto (tgt := 104) hx hb dX0_choose_48 (by decide) ?_
          refine lv_iinc (v := (x5 + (-1 : Int32))) (lv' := [(5, .int (x5 + (-1 : Int32))), (4, .int (x4 + (nI 1))), (6, .int (v_O x5.toNatClampNeg)), (0, .ref q0), (1, .int x1), (2, .int x2), (3, .int x3)]) hx hb dX0_choose_104 hl (k := 6) rfl (ii_m1 _) (by decide) rfl (fun ls hl => ?_)
          refine lv_goto (tgt := 19) hx hb dX0_choose_107 (by decide) ?_
          exact ih x2 x3 (x4 + (nI 1)) (x5 + (-1 : Int32)) hf _ _ hP hD hS ls (lv_sub hl [3, 4, 5, 6, 1, 0] rfl)
  have hl := lv_entry ([.ref q0, .int x1]) (n := 8) (Nat.le_of_ble_eq_true rfl)
  rw [lg_entry_eq]
  generalize (lg_sl ([.ref q0, .int x1]) ++ List.replicate (8 - (lg_sl ([.ref q0, .int x1])).length) Slot.unset).toArray = ls at hl ⊢
  have hl : lv_has ls 8 [(0, .ref q0), (1, .int x1)] := hl
  have hS : va_S A s.heap s.heap [] := va_S.rf
  unfold m_X0_choose at hf
  refine lv_ldc (v := (nI 1000000)) hx hb hown hki_77 dX0_choose_0 ?_
  refine lv_istore_n (lv' := [(2, .int (nI 1000000)), (0, .ref q0), (1, .int x1)]) hx hb dX0_choose_2 rfl hl (by decide) rfl (fun ls hl => ?_)
  refine lv_iconst (v := (nI 0)) hx hb dX0_choose_3 ic_0 ?_
  refine lv_istore_n (lv' := [(3, .int (nI 0)), (2, .int (nI 1000000)), (0, .ref q0), (1, .int x1)]) hx hb dX0_choose_4 rfl hl (by decide) rfl (fun ls hl => ?_)
  refine lv_iconst (v := (nI 0)) hx hb dX0_choose_5 ic_0 ?_
  refine lv_istore (lv' := [(4, .int (nI 0)), (3, .int (nI 0)), (2, .int (nI 1000000)), (0, .ref q0), (1, .int x1)]) hx hb dX0_choose_6 hl (by decide) rfl (fun ls hl => ?_)
  refine lv_aload_n hx hb dX0_choose_8 rfl (lv_at hl 3 rfl) ?_
  refine va_get (D := D) (ci := 0) (v := .ref v0) (C := RX0) (T := TX0) (N := 9) hx hb hts hiX0 hown hK.1 hP 0 rfl rfl 3 (by decide) hfl_25 (fun _ h9 => h9) rfl dX0_choose_9 ?_
  refine va_get (D := D) (ci := 3) (v := .int v_n) (C := RX3) (T := TX3) (N := 6) hx hb hts hiX3 hown hK.1 hP 6 rfl rfl 0 (by decide) hfl_56 (fun _ h9 => h9) rfl dX0_choose_12 ?_
  refine lv_iconst (v := (nI 1)) hx hb dX0_choose_15 ic_1 ?_
  refine lv_isub hx hb dX0_choose_16 ?_
  refine lv_istore (lv' := [(5, .int (v_n - (nI 1))), (4, .int (nI 0)), (3, .int (nI 0)), (2, .int (nI 1000000)), (0, .ref q0), (1, .int x1)]) hx hb dX0_choose_17 hl (by decide) rfl (fun ls hl => ?_)
  exact hB_19 fu (nI 1000000) (nI 0) (nI 0) (v_n - (nI 1)) hf _ _ hP hD hS ls (lv_sub hl [4, 5, 3, 2, 1, 0] rfl)
theorem hdc_X0_writeOrder : yX0_writeOrder.cls ≠ "java/lang/invoke/MethodHandle" ∧ yX0_writeOrder.cls ≠ "java/lang/invoke/VarHandle" ∧ (parseMethodDescriptor yX0_writeOrder.desc).map (fun d => d.parameters.length) = some 0 := by decide +kernel
set_option maxHeartbeats 4000000 in
set_option maxRecDepth 100000 in
theorem c_X0_writeOrder (l : Launch) (D : va_G) (cI cZ cM : ClassId) (q0 q1 q2 q3 q4 q5 v0 v1 v2 v3 v4 v5 : Nat) (sz : Nat) (q_nt : Int32) (q_iv : Int32) (q_fd : Int32) (q_or : Nat → Int32) (q_df : Nat → Int32) (q_se : Nat → Int32) (q_co : Nat → Int32) (q_ch : Nat → Int32) (v_n : Int32) (v_L : Nat → Int32) (v_U : Nat → Int32) (v_H : Nat → Int32) (v_O : Nat → Int32) (v_B : Nat → Int32) (fu : Nat) (q_or' : Nat → Int32) (hf : m_X0_writeOrder fu q_or q_ch v_n = some q_or') : Met l yX0_writeOrder wsX0_writeOrder ({ frames := 1, cells := 0, slots := 0, locals := 21 }) (pM D cI cZ cM sz [(q0, .inr (0, [.int q_nt, .int q_iv, .ref q1, .ref v0, .int q_fd, .ref q2, .ref q3, .ref q4, .ref q5])), (q1, .inl (cI, 10, .inl q_or)), (q2, .inl (cI, 10, .inl q_df)), (q3, .inl (cI, 1024, .inl q_se)), (q4, .inl (cI, 1024, .inl q_co)), (q5, .inl (cI, 1024, .inl q_ch)), (v0, .inr (3, [.int v_n, .ref v1, .ref v2, .ref v3, .ref v4, .ref v5])), (v1, .inl (cI, 10, .inl v_L)), (v2, .inl (cI, 10, .inl v_U)), (v3, .inl (cI, 12, .inl v_H)), (v4, .inl (cI, 10, .inl v_O)), (v5, .inl (cI, 10, .inl v_B))] [.ref q0]) (qV D [(q0, .inr (0, [.int q_nt, .int q_iv, .ref q1, .ref v0, .int q_fd, .ref q2, .ref q3, .ref q4, .ref q5])), (q1, .inl (cI, 10, .inl q_or')), (q2, .inl (cI, 10, .inl q_df)), (q3, .inl (cI, 1024, .inl q_se)), (q4, .inl (cI, 1024, .inl q_co)), (q5, .inl (cI, 1024, .inl q_ch)), (v0, .inr (3, [.int v_n, .ref v1, .ref v2, .ref v3, .ref v4, .ref v5])), (v1, .inl (cI, 10, .inl v_L)), (v2, .inl (cI, 10, .inl v_U)), (v3, .inl (cI, 12, .inl v_H)), (v4, .inl (cI, 10, .inl v_O)), (v5, .inl (cI, 10, .inl v_B))] (va_A [(q0, .inr (0, [.int q_nt, .int q_iv, .ref q1, .ref v0, .int q_fd, .ref q2, .ref q3, .ref q4, .ref q5])), (q1, .inl (cI, 10, .inl q_or)), (q2, .inl (cI, 10, .inl q_df)), (q3, .inl (cI, 1024, .inl q_se)), (q4, .inl (cI, 1024, .inl q_co)), (q5, .inl (cI, 1024, .inl q_ch)), (v0, .inr (3, [.int v_n, .ref v1, .ref v2, .ref v3, .ref v4, .ref v5])), (v1, .inl (cI, 10, .inl v_L)), (v2, .inl (cI, 10, .inl v_U)), (v3, .inl (cI, 12, .inl v_H)), (v4, .inl (cI, 10, .inl v_O)), (v5, .inl (cI, 10, .inl v_B))] sz)) 0 0 (va_A [(q0, .inr (0, [.int q_nt, .int q_iv, .ref q1, .ref v0, .int q_fd, .ref q2, .ref q3, .ref q4, .ref q5])), (q1, .inl (cI, 10, .inl q_or)), (q2, .inl (cI, 10, .inl q_df)), (q3, .inl (cI, 1024, .inl q_se)), (q4, .inl (cI, 1024, .inl q_co)), (q5, .inl (cI, 1024, .inl q_ch)), (v0, .inr (3, [.int v_n, .ref v1, .ref v2, .ref v3, .ref v4, .ref v5])), (v1, .inl (cI, 10, .inl v_L)), (v2, .inl (cI, 10, .inl v_U)), (v3, .inl (cI, 12, .inl v_H)), (v4, .inl (cI, 10, .inl v_O)), (v5, .inl (cI, 10, .inl v_B))] sz) := by
  refine Met.ofW (cc := cX0_writeOrder) (maxL := 3) (ret := none) (by decide) rfl ?_
  intro p e s m args below meth c s₁ B hml hv
  obtain ⟨rfl, hsz, hP, hK, hD0⟩ := hv
  have hx := B.exec
  have hb := B.bytes
  have hr := B.returns
  have hts := atoms_spec (ws := wsX0_writeOrder) B.pre
  have hown : s.vm.findClass RX0 = some m.cls := findClass_of_methodNamed B.named
  have hlocks := B.notSynchronized
  subst hsz
  have hD := hD0.self (sz := s.heap.size)
  generalize hAe : va_A [(q0, .inr (0, [.int q_nt, .int q_iv, .ref q1, .ref v0, .int q_fd, .ref q2, .ref q3, .ref q4, .ref q5])), (q1, .inl (cI, 10, .inl q_or)), (q2, .inl (cI, 10, .inl q_df)), (q3, .inl (cI, 1024, .inl q_se)), (q4, .inl (cI, 1024, .inl q_co)), (q5, .inl (cI, 1024, .inl q_ch)), (v0, .inr (3, [.int v_n, .ref v1, .ref v2, .ref v3, .ref v4, .ref v5])), (v1, .inl (cI, 10, .inl v_L)), (v2, .inl (cI, 10, .inl v_U)), (v3, .inl (cI, 12, .inl v_H)), (v4, .inl (cI, 10, .inl v_O)), (v5, .inl (cI, 10, .inl v_B))] s.heap.size = A at hD ⊢
  have hA : ∀ q : Nat, s.heap.size ≤ q → A q := fun q h => by rw [← hAe]; exact Or.inr h
  clear hAe hD0
  have hfl_18 := hts (.fieldLink RX0 18 "TermsFirst$BestOrder" "order" "[I") (List.mem_cons_of_mem _ (List.mem_append_left _ (List.mem_append_left _ (List.mem_of_getElem? (i := 2) rfl))))
  have hfl_25 := hts (.fieldLink RX0 25 "TermsFirst$BestOrder" "manual" "LTermsFirst$Manual;") (List.mem_cons_of_mem _ (List.mem_append_left _ (List.mem_append_left _ (List.mem_of_getElem? (i := 0) rfl))))
  have hfl_42 := hts (.fieldLink RX0 42 "TermsFirst$BestOrder" "choices" "[I") (List.mem_cons_of_mem _ (List.mem_append_left _ (List.mem_append_left _ (List.mem_of_getElem? (i := 3) rfl))))
  have hfl_56 := hts (.fieldLink RX0 56 "TermsFirst$Manual" "n" "I") (List.mem_cons_of_mem _ (List.mem_append_left _ (List.mem_append_left _ (List.mem_of_getElem? (i := 1) rfl))))
  have hn_3 : va_Nw (.methodLinkNest RX0 70 yX6_with RX6) s := nw_3 hK
  have hin_RX6 : (Cond.initialized yX6_with.cls).before _ s = true := hts (.initialized RX6) (List.mem_cons_of_mem _ (List.mem_append_left _ (List.mem_append_left _ (List.mem_of_getElem? (i := 5) rfl))))
  have hst_X6_with := hts (.static yX6_with) (List.mem_cons_of_mem _ (List.mem_append_left _ (List.mem_append_left _ (List.mem_of_getElem? (i := 4) rfl))))
  have hiX0 : ∀ w ∈ u_ws RX0 TX0 9, w ∈ wsX0_writeOrder := fun _ h => (List.mem_cons_of_mem _ (List.mem_append_left _ (List.mem_append_right _ h)))
  have hiX3 : ∀ w ∈ u_ws RX3 TX3 6, w ∈ wsX0_writeOrder := fun _ h => (List.mem_cons_of_mem _ (List.mem_append_right _ h))
  have hB_4 : ∀ (fn : Nat) (x1 : Int32) (x2 : Int32) (q_or : Nat → Int32), m_X0_writeOrder_4 q_ch v_n fn q_or x1 x2 = some q_or' → ∀ (H : Heap) (locs : List Loc), va_P D vwCl [(q0, .inr (0, [.int q_nt, .int q_iv, .ref q1, .ref v0, .int q_fd, .ref q2, .ref q3, .ref q4, .ref q5])), (q1, .inl (cI, 10, .inl q_or)), (q2, .inl (cI, 10, .inl q_df)), (q3, .inl (cI, 1024, .inl q_se)), (q4, .inl (cI, 1024, .inl q_co)), (q5, .inl (cI, 1024, .inl q_ch)), (v0, .inr (3, [.int v_n, .ref v1, .ref v2, .ref v3, .ref v4, .ref v5])), (v1, .inl (cI, 10, .inl v_L)), (v2, .inl (cI, 10, .inl v_U)), (v3, .inl (cI, 12, .inl v_H)), (v4, .inl (cI, 10, .inl v_O)), (v5, .inl (cI, 10, .inl v_B))] H → va_D A [(q0, .inr (0, [.int q_nt, .int q_iv, .ref q1, .ref v0, .int q_fd, .ref q2, .ref q3, .ref q4, .ref q5])), (q1, .inl (cI, 10, .inl q_or)), (q2, .inl (cI, 10, .inl q_df)), (q3, .inl (cI, 1024, .inl q_se)), (q4, .inl (cI, 1024, .inl q_co)), (q5, .inl (cI, 1024, .inl q_ch)), (v0, .inr (3, [.int v_n, .ref v1, .ref v2, .ref v3, .ref v4, .ref v5])), (v1, .inl (cI, 10, .inl v_L)), (v2, .inl (cI, 10, .inl v_U)), (v3, .inl (cI, 12, .inl v_H)), (v4, .inl (cI, 10, .inl v_O)), (v5, .inl (cI, 10, .inl v_B))] → va_S A s.heap H locs → ∀ ls : Array Slot, lv_has ls 3 [(0, .ref q0), (1, .int x1), (2, .int x2)] → W p l e (headSpec wsX0_writeOrder { frames := 1, cells := 0, slots := 0, locals := 21 }).room s m ([.ref q0] : List Value).toArray below meth c H locs 0 0 (MQ below (qV D [(q0, .inr (0, [.int q_nt, .int q_iv, .ref q1, .ref v0, .int q_fd, .ref q2, .ref q3, .ref q4, .ref q5])), (q1, .inl (cI, 10, .inl q_or')), (q2, .inl (cI, 10, .inl q_df)), (q3, .inl (cI, 1024, .inl q_se)), (q4, .inl (cI, 1024, .inl q_co)), (q5, .inl (cI, 1024, .inl q_ch)), (v0, .inr (3, [.int v_n, .ref v1, .ref v2, .ref v3, .ref v4, .ref v5])), (v1, .inl (cI, 10, .inl v_L)), (v2, .inl (cI, 10, .inl v_U)), (v3, .inl (cI, 12, .inl v_H)), (v4, .inl (cI, 10, .inl v_O)), (v5, .inl (cI, 10, .inl v_B))] A) ([.ref q0] : List Value).toArray s 0 0 A) (F0 m 4 ls []) := by
    intro fn
    induction fn with
    | zero => intro x1 x2 q_or hf; rw [m_X0_writeOrder_4] at hf; cases hf
    | succ fn ih =>
      intro x1 x2 q_or hf H locs hP hD hS ls hl
      rw [m_X0_writeOrder_4] at hf
      refine lv_iload_n hx hb dX0_writeOrder_4 rfl (lv_at hl 2 rfl) ?_
      refine lv_aload_n hx hb dX0_writeOrder_5 rfl (lv_at hl 0 rfl) ?_
      refine va_get (D := D) (ci := 0) (v := .ref v0) (C := RX0) (T := TX0) (N := 9) hx hb hts hiX0 hown hK.1 hP 0 rfl rfl 3 (by decide) hfl_25 (fun _ h9 => h9) rfl dX0_writeOrder_6 ?_
      refine va_get (D := D) (ci := 3) (v := .int v_n) (C := RX3) (T := TX3) (N := 6) hx hb hts hiX3 hown hK.1 hP 6 rfl rfl 0 (by decide) hfl_56 (fun _ h9 => h9) rfl dX0_writeOrder_9 ?_
      refine lv_icmp_ge (tgt := 44) hx hb dX0_writeOrder_12 (by decide) (fun hc => ?_) (fun hc => ?_)
      · have hf := ifp hc hf
        cases hf
        exact W.vret hx hb hr (fun t ht _ => ⟨⟨rfl, by rw [ht]; exact hP, hD⟩, hS.F ht⟩) hS.2.2 dX0_writeOrder_44
      · have hf := ifn hc hf
        refine lv_aload_n hx hb dX0_writeOrder_15 rfl (lv_at hl 0 rfl) ?_
        refine va_get (D := D) (ci := 0) (v := .ref q1) (C := RX0) (T := TX0) (N := 9) hx hb hts hiX0 hown hK.1 hP 0 rfl rfl 2 (by decide) hfl_18 (fun _ h9 => h9) rfl dX0_writeOrder_16 ?_
        refine lv_iload_n hx hb dX0_writeOrder_19 rfl (lv_at hl 2 rfl) ?_
        refine lv_aload_n hx hb dX0_writeOrder_20 rfl (lv_at hl 0 rfl) ?_
        refine va_get (D := D) (ci := 0) (v := .ref q5) (C := RX0) (T := TX0) (N := 9) hx hb hts hiX0 hown hK.1 hP 0 rfl rfl 8 (by decide) hfl_42 (fun _ h9 => h9) rfl dX0_writeOrder_21 ?_
        refine lv_iload_n hx hb dX0_writeOrder_24 rfl (lv_at hl 1 rfl) ?_
        obtain ⟨hi, hf⟩ := gd_some hf
        refine va_iald hx hb hK.1 hP 5 0 rfl rfl hi dX0_writeOrder_25 ?_
        obtain ⟨hi, hf⟩ := gd_some hf
        refine va_iast hx hb hK.1 hP hD hS 1 0 rfl rfl hi dX0_writeOrder_26 (fun H locs hP hD hS => ?_)
        have hP : va_P D vwCl [(q0, .inr (0, [.int q_nt, .int q_iv, .ref q1, .ref v0, .int q_fd, .ref q2, .ref q3, .ref q4, .ref q5])), (q1, .inl (cI, 10, .inl (upd q_or x2.toNatClampNeg (q_ch x1.toNatClampNeg)))), (q2, .inl (cI, 10, .inl q_df)), (q3, .inl (cI, 1024, .inl q_se)), (q4, .inl (cI, 1024, .inl q_co)), (q5, .inl (cI, 1024, .inl q_ch)), (v0, .inr (3, [.int v_n, .ref v1, .ref v2, .ref v3, .ref v4, .ref v5])), (v1, .inl (cI, 10, .inl v_L)), (v2, .inl (cI, 10, .inl v_U)), (v3, .inl (cI, 12, .inl v_H)), (v4, .inl (cI, 10, .inl v_O)), (v5, .inl (cI, 10, .inl v_B))] H := hP
        have hD : va_D A [(q0, .inr (0, [.int q_nt, .int q_iv, .ref q1, .ref v0, .int q_fd, .ref q2, .ref q3, .ref q4, .ref q5])), (q1, .inl (cI, 10, .inl (upd q_or x2.toNatClampNeg (q_ch x1.toNatClampNeg)))), (q2, .inl (cI, 10, .inl q_df)), (q3, .inl (cI, 1024, .inl q_se)), (q4, .inl (cI, 1024, .inl q_co)), (q5, .inl (cI, 1024, .inl q_ch)), (v0, .inr (3, [.int v_n, .ref v1, .ref v2, .ref v3, .ref v4, .ref v5])), (v1, .inl (cI, 10, .inl v_L)), (v2, .inl (cI, 10, .inl v_U)), (v3, .inl (cI, 12, .inl v_H)), (v4, .inl (cI, 10, .inl v_O)), (v5, .inl (cI, 10, .inl v_B))] := hD
        refine lv_iload_n hx hb dX0_writeOrder_27 rfl (lv_at hl 1 rfl) ?_
        refine lv_aload_n hx hb dX0_writeOrder_28 rfl (lv_at hl 0 rfl) ?_
        refine va_get (D := D) (ci := 0) (v := .ref q1) (C := RX0) (T := TX0) (N := 9) hx hb hts hiX0 hown hK.1 hP 0 rfl rfl 2 (by decide) hfl_18 (fun _ h9 => h9) rfl dX0_writeOrder_29 ?_
        refine lv_iload_n hx hb dX0_writeOrder_32 rfl (lv_at hl 2 rfl) ?_
        obtain ⟨hi, hf⟩ := gd_some hf
        refine va_iald hx hb hK.1 hP 1 0 rfl rfl hi dX0_writeOrder_33 ?_
        obtain ⟨rv1, hrv1, hf⟩ := bd hf
        refine roI (va_runSN (As := [.int x1, .int ((upd q_or x2.toNatClampNeg (q_ch x1.toNatClampNeg)) x2.toNatClampNeg)]) (rest := []) ⟨hx, hb, hml, hown, hts⟩ (c_X6_with l D cI cZ cM x1 ((upd q_or x2.toNatClampNeg (q_ch x1.toNatClampNeg)) x2.toNatClampNeg) rv1 hrv1) ⟨va_cnB (host := RX6) 2 hts gX0_writeOrder_X6_with_n70 rfl rfl rfl hn_3 hin_RX6 hdc_X6_with ⟨Nat.le_of_ble_eq_true rfl, Nat.le_of_ble_eq_true rfl⟩, hst_X6_with, trivial⟩ (prS hK hP [] rfl) rfl rfl hl.1 rfl (lv_room (Nat.le_of_ble_eq_true rfl)) dX0_writeOrder_34 ⟨Nat.zero_le _, Nat.zero_le _⟩) ?_
        refine lv_istore_n (lv' := [(1, .int rv1), (0, .ref q0), (2, .int x2)]) hx hb dX0_writeOrder_37 rfl hl (by decide) rfl (fun ls hl => ?_)
        refine lv_iinc (v := (x2 + (nI 1))) (lv' := [(2, .int (x2 + (nI 1))), (1, .int rv1), (0, .ref q0)]) hx hb dX0_writeOrder_38 hl (k := 2) rfl (ii_1 _) (by decide) rfl (fun ls hl => ?_)
        refine lv_goto (tgt := 4) hx hb dX0_writeOrder_41 (by decide) ?_
        exact ih rv1 (x2 + (nI 1)) (upd q_or x2.toNatClampNeg (q_ch x1.toNatClampNeg)) hf _ _ hP hD hS ls (lv_sub hl [2, 1, 0] rfl)
  have hl := lv_entry ([.ref q0]) (n := 3) (Nat.le_of_ble_eq_true rfl)
  rw [lg_entry_eq]
  generalize (lg_sl ([.ref q0]) ++ List.replicate (3 - (lg_sl ([.ref q0])).length) Slot.unset).toArray = ls at hl ⊢
  have hl : lv_has ls 3 [(0, .ref q0)] := hl
  have hS : va_S A s.heap s.heap [] := va_S.rf
  unfold m_X0_writeOrder at hf
  refine lv_iconst (v := (nI 0)) hx hb dX0_writeOrder_0 ic_0 ?_
  refine lv_istore_n (lv' := [(1, .int (nI 0)), (0, .ref q0)]) hx hb dX0_writeOrder_1 rfl hl (by decide) rfl (fun ls hl => ?_)
  refine lv_iconst (v := (nI 0)) hx hb dX0_writeOrder_2 ic_0 ?_
  refine lv_istore_n (lv' := [(2, .int (nI 0)), (1, .int (nI 0)), (0, .ref q0)]) hx hb dX0_writeOrder_3 rfl hl (by decide) rfl (fun ls hl => ?_)
  exact hB_4 fu (nI 0) (nI 0) q_or hf _ _ hP hD hS ls (lv_sub hl [2, 1, 0] rfl)
