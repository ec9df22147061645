theorem hdc_X3_sumNoteLengths : yX3_sumNoteLengths.cls ≠ "java/lang/invoke/MethodHandle" ∧ yX3_sumNoteLengths.cls ≠ "java/lang/invoke/VarHandle" ∧ (parseMethodDescriptor yX3_sumNoteLengths.desc).map (fun d => d.parameters.length) = some 1 := by decide +kernel
set_option maxHeartbeats 4000000 in
set_option maxRecDepth 100000 in
theorem c_X3_sumNoteLengths (l : Launch) (D : va_G) (cI cZ cM : ClassId) (a0 a1 a2 a3 a4 a5 w0 : Nat) (a_n : Int32) (a_L : Nat → Int32) (a_U : Nat → Int32) (a_H : Nat → Int32) (a_O : Nat → Int32) (a_B : Nat → Int32) (w_a : Nat → Int32) (fu : Nat) (r : Int32) (hf : m_X3_sumNoteLengths fu a_n a_L a_U a_H w_a = some r) : Met l yX3_sumNoteLengths wsX3_sumNoteLengths ({ frames := 2, cells := 0, slots := 0, locals := 48 }) (pR D cI cZ cM [(a0, .inr (3, [.int a_n, .ref a1, .ref a2, .ref a3, .ref a4, .ref a5])), (a1, .inl (cI, 10, .inl a_L)), (a2, .inl (cI, 10, .inl a_U)), (a3, .inl (cI, 12, .inl a_H)), (a4, .inl (cI, 10, .inl a_O)), (a5, .inl (cI, 10, .inl a_B)), (w0, .inl (cI, 10, .inl w_a))] [.ref a0, .ref w0]) (qR r) 0 0 (fun _ => False) := by
  refine Met.ofW (cc := cX3_sumNoteLengths) (maxL := 4) (ret := (some .int)) (by decide) rfl ?_
  intro p e s m args below meth c s₁ B hml hv
  obtain ⟨rfl, hP, hK⟩ := hv
  have hx := B.exec
  have hb := B.bytes
  have hr := B.returns
  have hts := atoms_spec (ws := wsX3_sumNoteLengths) B.pre
  have hown : s.vm.findClass RX3 = some m.cls := findClass_of_methodNamed B.named
  have hlocks := B.notSynchronized
  have hB_4 : ∀ (fn : Nat) (x2 : Int32) (x3 : Int32), m_X3_sumNoteLengths_4 fu a_n a_L a_U a_H w_a fn x2 x3 = some r → ∀ ls : Array Slot, lv_has ls 4 [(0, .ref a0), (1, .ref w0), (2, .int x2), (3, .int x3)] → W p l e (headSpec wsX3_sumNoteLengths { frames := 2, cells := 0, slots := 0, locals := 48 }).room s m ([.ref a0, .ref w0] : List Value).toArray below meth c s.heap [] 0 0 (MQ below (qR r) ([.ref a0, .ref w0] : List Value).toArray s 0 0 (fun _ => False)) (F0 m 4 ls []) := by
    intro fn
    induction fn with
    | zero => intro x2 x3 hf; rw [m_X3_sumNoteLengths_4] at hf; cases hf
    | succ fn ih =>
      intro x2 x3 hf ls hl
      rw [m_X3_sumNoteLengths_4] at hf
      refine lv_iload_n hx hb dX3_sumNoteLengths_4 rfl (lv_at hl 3 rfl) ?_
      refine lv_bipush (v := (nI 12)) hx hb dX3_sumNoteLengths_5 bp_12 ?_
      refine lv_icmp_ge (tgt := 25) hx hb dX3_sumNoteLengths_7 (by decide) (fun hc => ?_) (fun hc => ?_)
      · have hf := ifp hc hf
        refine lv_iload_n hx hb dX3_sumNoteLengths_25 rfl (lv_at hl 2 rfl) ?_
        cases hf
        exact W.iret hx hb hr (fun t ht _ => ⟨rfl, ht⟩) (fun _ h => nomatch h) dX3_sumNoteLengths_26
      · have hf := ifn hc hf
        refine lv_iload_n hx hb dX3_sumNoteLengths_10 rfl (lv_at hl 2 rfl) ?_
        refine lv_aload_n hx hb dX3_sumNoteLengths_11 rfl (lv_at hl 0 rfl) ?_
        refine lv_iload_n hx hb dX3_sumNoteLengths_12 rfl (lv_at hl 3 rfl) ?_
        refine lv_aload_n hx hb dX3_sumNoteLengths_13 rfl (lv_at hl 1 rfl) ?_
        obtain ⟨rv1, hrv1, hf⟩ := bd hf
        refine roI (va_runV (As := [.int x3, .ref w0]) (rest := [.int x2]) ⟨hx, hb, hml, hown, hts⟩ (c_X3_noteLength l D cI cZ cM a0 a1 a2 a3 a4 a5 w0 a_n a_L a_U a_H a_O a_B w_a x3 fu rv1 hrv1) (cwV 2 hts gX3_sumNoteLengths_X3_noteLength rfl rfl rfl ⟨rfl, hdc_X3_noteLength⟩ ⟨Nat.le_of_ble_eq_true rfl, Nat.le_of_ble_eq_true rfl⟩) (prV hK hP [0, 1, 2, 3, 4, 5, 6] rfl (ci := 3) (q0 := 0) rfl rfl) rfl rfl hl.1 rfl (lv_room (Nat.le_of_ble_eq_true rfl)) dX3_sumNoteLengths_14 ⟨Nat.zero_le _, Nat.zero_le _⟩) ?_
        refine lv_iadd hx hb dX3_sumNoteLengths_17 ?_
        refine lv_istore_n (lv' := [(2, .int (x2 + rv1)), (0, .ref a0), (1, .ref w0), (3, .int x3)]) hx hb dX3_sumNoteLengths_18 rfl hl (by decide) rfl (fun ls hl => ?_)
        refine lv_iinc (v := (x3 + (nI 1))) (lv' := [(3, .int (x3 + (nI 1))), (2, .int (x2 + rv1)), (0, .ref a0), (1, .ref w0)]) hx hb dX3_sumNoteLengths_19 hl (k := 3) rfl (ii_1 _) (by decide) rfl (fun ls hl => ?_)
        refine lv_goto (tgt := 4) hx hb dX3_sumNoteLengths_22 (by decide) ?_
        exact ih (x2 + rv1) (x3 + (nI 1)) hf  ls (lv_sub hl [2, 3, 1, 0] rfl)
  have hl := lv_entry ([.ref a0, .ref w0]) (n := 4) (Nat.le_of_ble_eq_true rfl)
  rw [lg_entry_eq]
  generalize (lg_sl ([.ref a0, .ref w0]) ++ List.replicate (4 - (lg_sl ([.ref a0, .ref w0])).length) Slot.unset).toArray = ls at hl ⊢
  have hl : lv_has ls 4 [(0, .ref a0), (1, .ref w0)] := hl
  unfold m_X3_sumNoteLengths at hf
  refine lv_iconst (v := (nI 0)) hx hb dX3_sumNoteLengths_0 ic_0 ?_
  refine lv_istore_n (lv' := [(2, .int (nI 0)), (0, .ref a0), (1, .ref w0)]) hx hb dX3_sumNoteLengths_1 rfl hl (by decide) rfl (fun ls hl => ?_)
  refine lv_iconst (v := (nI 0)) hx hb dX3_sumNoteLengths_2 ic_0 ?_
  refine lv_istore_n (lv' := [(3, .int (nI 0)), (2, .int (nI 0)), (0, .ref a0), (1, .ref w0)]) hx hb dX3_sumNoteLengths_3 rfl hl (by decide) rfl (fun ls hl => ?_)
  exact hB_4 fu (nI 0) (nI 0) hf  ls (lv_sub hl [2, 3, 1, 0] rfl)
theorem hdc_X4_draw : yX4_draw.cls ≠ "java/lang/invoke/MethodHandle" ∧ yX4_draw.cls ≠ "java/lang/invoke/VarHandle" ∧ (parseMethodDescriptor yX4_draw.desc).map (fun d => d.parameters.length) = some 1 := by decide +kernel
set_option maxHeartbeats 4000000 in
set_option maxRecDepth 100000 in
theorem c_X4_draw (l : Launch) (D : va_G) (cI cZ cM : ClassId) (g0 g1 g2 g3 g4 a0 a1 a2 a3 a4 a5 : Nat) (sz : Nat) (g_rl : Int32) (g_n : Int32) (g_ri : Nat → Int32) (g_ne : Nat → Int32) (g_re : Nat → Int32) (g_ts : Nat → Int32) (a_n : Int32) (a_L : Nat → Int32) (a_U : Nat → Int32) (a_H : Nat → Int32) (a_O : Nat → Int32) (a_B : Nat → Int32) (fu : Nat) (g_n' : Int32) (g_ne' : Nat → Int32) (g_re' : Nat → Int32) (hf : m_X4_draw fu g_ne g_re a_n a_U a_H = some (g_n', g_ne', g_re')) : Met l yX4_draw wsX4_draw ({ frames := 2, cells := 0, slots := 0, locals := 45 }) (pM D cI cZ cM sz [(g0, .inr (4, [.int g_rl, .ref g1, .int g_n, .ref g2, .ref g3, .ref g4])), (g1, .inl (cI, 10, .inl g_ri)), (g2, .inl (cI, 10, .inl g_ne)), (g3, .inl (cI, 10, .inl g_re)), (g4, .inl (cI, 11, .inl g_ts)), (a0, .inr (3, [.int a_n, .ref a1, .ref a2, .ref a3, .ref a4, .ref a5])), (a1, .inl (cI, 10, .inl a_L)), (a2, .inl (cI, 10, .inl a_U)), (a3, .inl (cI, 12, .inl a_H)), (a4, .inl (cI, 10, .inl a_O)), (a5, .inl (cI, 10, .inl a_B))] [.ref g0, .ref a0]) (qV D [(g0, .inr (4, [.int g_rl, .ref g1, .int g_n', .ref g2, .ref g3, .ref g4])), (g1, .inl (cI, 10, .inl g_ri)), (g2, .inl (cI, 10, .inl g_ne')), (g3, .inl (cI, 10, .inl g_re')), (g4, .inl (cI, 11, .inl g_ts)), (a0, .inr (3, [.int a_n, .ref a1, .ref a2, .ref a3, .ref a4, .ref a5])), (a1, .inl (cI, 10, .inl a_L)), (a2, .inl (cI, 10, .inl a_U)), (a3, .inl (cI, 12, .inl a_H)), (a4, .inl (cI, 10, .inl a_O)), (a5, .inl (cI, 10, .inl a_B))] (va_A [(g0, .inr (4, [.int g_rl, .ref g1, .int g_n, .ref g2, .ref g3, .ref g4])), (g1, .inl (cI, 10, .inl g_ri)), (g2, .inl (cI, 10, .inl g_ne)), (g3, .inl (cI, 10, .inl g_re)), (g4, .inl (cI, 11, .inl g_ts)), (a0, .inr (3, [.int a_n, .ref a1, .ref a2, .ref a3, .ref a4, .ref a5])), (a1, .inl (cI, 10, .inl a_L)), (a2, .inl (cI, 10, .inl a_U)), (a3, .inl (cI, 12, .inl a_H)), (a4, .inl (cI, 10, .inl a_O)), (a5, .inl (cI, 10, .inl a_B))] sz)) 0 0 (va_A [(g0, .inr (4, [.int g_rl, .ref g1, .int g_n, .ref g2, .ref g3, .ref g4])), (g1, .inl (cI, 10, .inl g_ri)), (g2, .inl (cI, 10, .inl g_ne)), (g3, .inl (cI, 10, .inl g_re)), (g4, .inl (cI, 11, .inl g_ts)), (a0, .inr (3, [.int a_n, .ref a1, .ref a2, .ref a3, .ref a4, .ref a5])), (a1, .inl (cI, 10, .inl a_L)), (a2, .inl (cI, 10, .inl a_U)), (a3, .inl (cI, 12, .inl a_H)), (a4, .inl (cI, 10, .inl a_O)), (a5, .inl (cI, 10, .inl a_B))] sz) := by
  refine Met.ofW (cc := cX4_draw) (maxL := 4) (ret := none) (by decide) rfl ?_
  intro p e s m args below meth c s₁ B hml hv
  obtain ⟨rfl, hsz, hP, hK, hD0⟩ := hv
  have hx := B.exec
  have hb := B.bytes
  have hr := B.returns
  have hts := atoms_spec (ws := wsX4_draw) B.pre
  have hown : s.vm.findClass RX4 = some m.cls := findClass_of_methodNamed B.named
  have hlocks := B.notSynchronized
  subst hsz
  have hD := hD0.self (sz := s.heap.size)
  generalize hAe : va_A [(g0, .inr (4, [.int g_rl, .ref g1, .int g_n, .ref g2, .ref g3, .ref g4])), (g1, .inl (cI, 10, .inl g_ri)), (g2, .inl (cI, 10, .inl g_ne)), (g3, .inl (cI, 10, .inl g_re)), (g4, .inl (cI, 11, .inl g_ts)), (a0, .inr (3, [.int a_n, .ref a1, .ref a2, .ref a3, .ref a4, .ref a5])), (a1, .inl (cI, 10, .inl a_L)), (a2, .inl (cI, 10, .inl a_U)), (a3, .inl (cI, 12, .inl a_H)), (a4, .inl (cI, 10, .inl a_O)), (a5, .inl (cI, 10, .inl a_B))] s.heap.size = A at hD ⊢
  have hA : ∀ q : Nat, s.heap.size ≤ q → A q := fun q h => by rw [← hAe]; exact Or.inr h
  clear hAe hD0
  have hfl_15 := hts (.fieldLink RX4 15 "TermsFirst$NeedGraph" "needs" "[I") (List.mem_cons_of_mem _ (List.mem_append_left _ (List.mem_append_left _ (List.mem_of_getElem? (i := 2) rfl))))
  have hfl_18 := hts (.fieldLink RX4 18 "TermsFirst$NeedGraph" "reach" "[I") (List.mem_cons_of_mem _ (List.mem_append_left _ (List.mem_append_left _ (List.mem_of_getElem? (i := 3) rfl))))
  have hfl_24 := hts (.fieldLink RX4 24 "TermsFirst$Manual" "n" "I") (List.mem_cons_of_mem _ (List.mem_append_left _ (List.mem_append_left _ (List.mem_of_getElem? (i := 0) rfl))))
  have hfl_30 := hts (.fieldLink RX4 30 "TermsFirst$NeedGraph" "n" "I") (List.mem_cons_of_mem _ (List.mem_append_left _ (List.mem_append_left _ (List.mem_of_getElem? (i := 1) rfl))))
  have hn_9 : va_Nw (.methodLinkNest RX4 35 yX6_with RX6) s := nw_9 hK
  have hin_RX6 : (Cond.initialized yX6_with.cls).before _ s = true := hts (.initialized RX6) (List.mem_cons_of_mem _ (List.mem_append_left _ (List.mem_append_left _ (List.mem_of_getElem? (i := 12) rfl))))
  have hst_X6_with := hts (.static yX6_with) (List.mem_cons_of_mem _ (List.mem_append_left _ (List.mem_append_left _ (List.mem_of_getElem? (i := 14) rfl))))
  have hn_10 : va_Nw (.methodLinkNest RX4 39 yX6_has RX6) s := nw_10 hK
  have hin_RX6 : (Cond.initialized yX6_has.cls).before _ s = true := hts (.initialized RX6) (List.mem_cons_of_mem _ (List.mem_append_left _ (List.mem_append_left _ (List.mem_of_getElem? (i := 12) rfl))))
  have hst_X6_has := hts (.static yX6_has) (List.mem_cons_of_mem _ (List.mem_append_left _ (List.mem_append_left _ (List.mem_of_getElem? (i := 11) rfl))))
  have hiX3 : ∀ w ∈ u_ws RX3 TX3 6, w ∈ wsX4_draw := fun _ h => (List.mem_cons_of_mem _ (List.mem_append_left _ (List.mem_append_right _ h)))
  have hiX4 : ∀ w ∈ u_ws RX4 TX4 6, w ∈ wsX4_draw := fun _ h => (List.mem_cons_of_mem _ (List.mem_append_right _ h))
  have hB_63 : ∀ (x2 : Int32) (g_n : Int32) (g_ne : Nat → Int32) (kt53 : (Nat → Int32) → Int32 → Option (Int32 × (Nat → Int32) × (Nat → Int32))) (hkt53 : ∀ (x2 : Int32) (g_re : Nat → Int32), kt53 g_re x2 = some (g_n', g_ne', g_re') → ∀ (H : Heap) (locs : List Loc), va_P D vwCl [(g0, .inr (4, [.int g_rl, .ref g1, .int g_n, .ref g2, .ref g3, .ref g4])), (g1, .inl (cI, 10, .inl g_ri)), (g2, .inl (cI, 10, .inl g_ne)), (g3, .inl (cI, 10, .inl g_re)), (g4, .inl (cI, 11, .inl g_ts)), (a0, .inr (3, [.int a_n, .ref a1, .ref a2, .ref a3, .ref a4, .ref a5])), (a1, .inl (cI, 10, .inl a_L)), (a2, .inl (cI, 10, .inl a_U)), (a3, .inl (cI, 12, .inl a_H)), (a4, .inl (cI, 10, .inl a_O)), (a5, .inl (cI, 10, .inl a_B))] H → va_D A [(g0, .inr (4, [.int g_rl, .ref g1, .int g_n, .ref g2, .ref g3, .ref g4])), (g1, .inl (cI, 10, .inl g_ri)), (g2, .inl (cI, 10, .inl g_ne)), (g3, .inl (cI, 10, .inl g_re)), (g4, .inl (cI, 11, .inl g_ts)), (a0, .inr (3, [.int a_n, .ref a1, .ref a2, .ref a3, .ref a4, .ref a5])), (a1, .inl (cI, 10, .inl a_L)), (a2, .inl (cI, 10, .inl a_U)), (a3, .inl (cI, 12, .inl a_H)), (a4, .inl (cI, 10, .inl a_O)), (a5, .inl (cI, 10, .inl a_B))] → va_S A s.heap H locs → ∀ ls : Array Slot, lv_has ls 4 [(0, .ref g0), (2, .int x2)] → W p l e (headSpec wsX4_draw { frames := 2, cells := 0, slots := 0, locals := 45 }).room s m ([.ref g0, .ref a0] : List Value).toArray below meth c H locs 0 0 (MQ below (qV D [(g0, .inr (4, [.int g_rl, .ref g1, .int g_n', .ref g2, .ref g3, .ref g4])), (g1, .inl (cI, 10, .inl g_ri)), (g2, .inl (cI, 10, .inl g_ne')), (g3, .inl (cI, 10, .inl g_re')), (g4, .inl (cI, 11, .inl g_ts)), (a0, .inr (3, [.int a_n, .ref a1, .ref a2, .ref a3, .ref a4, .ref a5])), (a1, .inl (cI, 10, .inl a_L)), (a2, .inl (cI, 10, .inl a_U)), (a3, .inl (cI, 12, .inl a_H)), (a4, .inl (cI, 10, .inl a_O)), (a5, .inl (cI, 10, .inl a_B))] A) ([.ref g0, .ref a0] : List Value).toArray s 0 0 A) (F0 m 53 ls [])) (fn : Nat) (x3 : Int32) (g_re : Nat → Int32), m_X4_draw_63 g_n x2 kt53 fn g_re x3 = some (g_n', g_ne', g_re') → ∀ (H : Heap) (locs : List Loc), va_P D vwCl [(g0, .inr (4, [.int g_rl, .ref g1, .int g_n, .ref g2, .ref g3, .ref g4])), (g1, .inl (cI, 10, .inl g_ri)), (g2, .inl (cI, 10, .inl g_ne)), (g3, .inl (cI, 10, .inl g_re)), (g4, .inl (cI, 11, .inl g_ts)), (a0, .inr (3, [.int a_n, .ref a1, .ref a2, .ref a3, .ref a4, .ref a5])), (a1, .inl (cI, 10, .inl a_L)), (a2, .inl (cI, 10, .inl a_U)), (a3, .inl (cI, 12, .inl a_H)), (a4, .inl (cI, 10, .inl a_O)), (a5, .inl (cI, 10, .inl a_B))] H → va_D A [(g0, .inr (4, [.int g_rl, .ref g1, .int g_n, .ref g2, .ref g3, .ref g4])), (g1, .inl (cI, 10, .inl g_ri)), (g2, .inl (cI, 10, .inl g_ne)), (g3, .inl (cI, 10, .inl g_re)), (g4, .inl (cI, 11, .inl g_ts)), (a0, .inr (3, [.int a_n, .ref a1, .ref a2, .ref a3, .ref a4, .ref a5])), (a1, .inl (cI, 10, .inl a_L)), (a2, .inl (cI, 10, .inl a_U)), (a3, .inl (cI, 12, .inl a_H)), (a4, .inl (cI, 10, .inl a_O)), (a5, .inl (cI, 10, .inl a_B))] → va_S A s.heap H locs → ∀ ls : Array Slot, lv_has ls 4 [(0, .ref g0), (2, .int x2), (3, .int x3)] → W p l e (headSpec wsX4_draw { frames := 2, cells := 0, slots := 0, locals := 45 }).room s m ([.ref g0, .ref a0] : List Value).toArray below meth c H locs 0 0 (MQ below (qV D [(g0, .inr (4, [.int g_rl, .ref g1, .int g_n', .ref g2, .ref g3, .ref g4])), (g1, .inl (cI, 10, .inl g_ri)), (g2, .inl (cI, 10, .inl g_ne')), (g3, .inl (cI, 10, .inl g_re')), (g4, .inl (cI, 11, .inl g_ts)), (a0, .inr (3, [.int a_n, .ref a1, .ref a2, .ref a3, .ref a4, .ref a5])), (a1, .inl (cI, 10, .inl a_L)), (a2, .inl (cI, 10, .inl a_U)), (a3, .inl (cI, 12, .inl a_H)), (a4, .inl (cI, 10, .inl a_O)), (a5, .inl (cI, 10, .inl a_B))] A) ([.ref g0, .ref a0] : List Value).toArray s 0 0 A) (F0 m 63 ls []) := by
    intro x2 g_n g_ne kt53 hkt53 fn
    induction fn with
    | zero => intro x3 g_re hf; rw [m_X4_draw_63] at hf; cases hf
    | succ fn ih =>
      intro x3 g_re hf H locs hP hD hS ls hl
      rw [m_X4_draw_63] at hf
      refine lv_iload_n hx hb dX4_draw_63 rfl (lv_at hl 2 rfl) ?_
      refine lv_aload_n hx hb dX4_draw_64 rfl (lv_at hl 0 rfl) ?_
      refine va_get (D := D) (ci := 4) (v := .int g_n) (C := RX4) (T := TX4) (N := 6) hx hb hts hiX4 hown hK.1 hP 0 rfl rfl 2 (by decide) hfl_30 (fun _ h9 => h9) rfl dX4_draw_65 ?_
      refine lv_icmp_ge (tgt := 105) hx hb dX4_draw_68 (by decide) (fun hc => ?_) (fun hc => ?_)
      · have hf := ifp hc hf
        refine lv_iinc (v := (x2 + (nI 1))) (lv' := [(2, .int (x2 + (nI 1))), (0, .ref g0), (3, .int x3)]) hx hb dX4_draw_105 hl (k := 1) rfl (ii_1 _) (by decide) rfl (fun ls hl => ?_)
        refine lv_goto (tgt := 53) hx hb dX4_draw_108 (by decide) ?_
        exact hkt53 (x2 + (nI 1)) g_re hf _ _ hP hD hS ls (lv_sub hl [1, 0] rfl)
      · have hf := ifn hc hf
        refine lv_aload_n hx hb dX4_draw_71 rfl (lv_at hl 0 rfl) ?_
        refine va_get (D := D) (ci := 4) (v := .ref g3) (C := RX4) (T := TX4) (N := 6) hx hb hts hiX4 hown hK.1 hP 0 rfl rfl 4 (by decide) hfl_18 (fun _ h9 => h9) rfl dX4_draw_72 ?_
        refine lv_iload_n hx hb dX4_draw_75 rfl (lv_at hl 2 rfl) ?_
        obtain ⟨hi, hf⟩ := gd_some hf
        refine va_iald hx hb hK.1 hP 3 0 rfl rfl hi dX4_draw_76 ?_
        refine lv_iload_n hx hb dX4_draw_77 rfl (lv_at hl 1 rfl) ?_
        obtain ⟨rv3, hrv3, hf⟩ := bd hf
        refine roI (va_runSN (As := [.int (g_re x3.toNatClampNeg), .int x2]) (rest := []) ⟨hx, hb, hml, hown, hts⟩ (c_X6_has l D cI cZ cM (g_re x3.toNatClampNeg) x2 rv3 hrv3) ⟨va_cnB (host := RX6) 2 hts gX4_draw_X6_has_n39 rfl rfl rfl hn_10 hin_RX6 hdc_X6_has ⟨Nat.le_of_ble_eq_true rfl, Nat.le_of_ble_eq_true rfl⟩, hst_X6_has, trivial⟩ (prS hK hP [] rfl) rfl rfl hl.1 rfl (lv_room (Nat.le_of_ble_eq_true rfl)) dX4_draw_78 ⟨Nat.zero_le _, Nat.zero_le _⟩) ?_
        refine lv_if_eq (tgt := 99) hx hb dX4_draw_81 (by decide) (fun hc => ?_) (fun hc => ?_)
        · have hf := ifp hc hf
          refine lv_iinc (v := (x3 + (nI 1))) (lv' := [(3, .int (x3 + (nI 1))), (0, .ref g0), (2, .int x2)]) hx hb dX4_draw_99 hl (k := 2) rfl (ii_1 _) (by decide) rfl (fun ls hl => ?_)
          refine lv_goto (tgt := 63) hx hb dX4_draw_102 (by decide) ?_
          exact ih (x3 + (nI 1)) g_re hf _ _ hP hD hS ls (lv_sub hl [1, 2, 0] rfl)
        · have hf := ifn hc hf
          refine lv_aload_n hx hb dX4_draw_84 rfl (lv_at hl 0 rfl) ?_
          refine va_get (D := D) (ci := 4) (v := .ref g3) (C := RX4) (T := TX4) (N := 6) hx hb hts hiX4 hown hK.1 hP 0 rfl rfl 4 (by decide) hfl_18 (fun _ h9 => h9) rfl dX4_draw_85 ?_
          refine lv_iload_n hx hb dX4_draw_88 rfl (lv_at hl 2 rfl) ?_
          refine lv_dup2_11 hx hb dX4_draw_89 rfl rfl ?_
          obtain ⟨hi, hf⟩ := gd_some hf
          refine va_iald hx hb hK.1 hP 3 0 rfl rfl hi dX4_draw_90 ?_
          refine lv_aload_n hx hb dX4_draw_91 rfl (lv_at hl 0 rfl) ?_
          refine va_get (D := D) (ci := 4) (v := .ref g3) (C := RX4) (T := TX4) (N := 6) hx hb hts hiX4 hown hK.1 hP 0 rfl rfl 4 (by decide) hfl_18 (fun _ h9 => h9) rfl dX4_draw_92 ?_
          refine lv_iload_n hx hb dX4_draw_95 rfl (lv_at hl 1 rfl) ?_
          obtain ⟨hi, hf⟩ := gd_some hf
          refine va_iald hx hb hK.1 hP 3 0 rfl rfl hi dX4_draw_96 ?_
          refine lv_ior hx hb dX4_draw_97 ?_
          obtain ⟨hi, hf⟩ := gd_some hf
          refine va_iast hx hb hK.1 hP hD hS 3 0 rfl rfl hi dX4_draw_98 (fun H locs hP hD hS => ?_)
          have hP : va_P D vwCl [(g0, .inr (4, [.int g_rl, .ref g1, .int g_n, .ref g2, .ref g3, .ref g4])), (g1, .inl (cI, 10, .inl g_ri)), (g2, .inl (cI, 10, .inl g_ne)), (g3, .inl (cI, 10, .inl (upd g_re x3.toNatClampNeg ((g_re x3.toNatClampNeg) ||| (g_re x2.toNatClampNeg))))), (g4, .inl (cI, 11, .inl g_ts)), (a0, .inr (3, [.int a_n, .ref a1, .ref a2, .ref a3, .ref a4, .ref a5])), (a1, .inl (cI, 10, .inl a_L)), (a2, .inl (cI, 10, .inl a_U)), (a3, .inl (cI, 12, .inl a_H)), (a4, .inl (cI, 10, .inl a_O)), (a5, .inl (cI, 10, .inl a_B))] H := hP
          have hD : va_D A [(g0, .inr (4, [.int g_rl, .ref g1, .int g_n, .ref g2, .ref g3, .ref g4])), (g1, .inl (cI, 10, .inl g_ri)), (g2, .inl (cI, 10, .inl g_ne)), (g3, .inl (cI, 10, .inl (upd g_re x3.toNatClampNeg ((g_re x3.toNatClampNeg) ||| (g_re x2.toNatClampNeg))))), (g4, .inl (cI, 11, .inl g_ts)), (a0, .inr (3, [.int a_n, .ref a1, .ref a2, .ref a3, .ref a4, .ref a5])), (a1, .inl (cI, 10, .inl a_L)), (a2, .inl (cI, 10, .inl a_U)), (a3, .inl (cI, 12, .inl a_H)), (a4, .inl (cI, 10, .inl a_O)), (a5, .inl (cI, 10, .inl a_B))] := hD
          refine lv_iinc (v := (x3 + (nI 1))) (lv' := [(3, .int (x3 + (nI 1))), (0, .ref g0), (2, .int x2)]) hx hb dX4_draw_99 hl (k := 2) rfl (ii_1 _) (by decide) rfl (fun ls hl => ?_)
          refine lv_goto (tgt := 63) hx hb dX4_draw_102 (by decide) ?_
          exact ih (x3 + (nI 1)) (upd g_re x3.toNatClampNeg ((g_re x3.toNatClampNeg) ||| (g_re x2.toNatClampNeg))) hf _ _ hP hD hS ls (lv_sub hl [1, 2, 0] rfl)
  have hB_53 : ∀ (g_n : Int32) (g_ne : Nat → Int32) (fn : Nat) (x2 : Int32) (g_re : Nat → Int32), m_X4_draw_53 fu g_n g_ne fn g_re x2 = some (g_n', g_ne', g_re') → ∀ (H : Heap) (locs : List Loc), va_P D vwCl [(g0, .inr (4, [.int g_rl, .ref g1, .int g_n, .ref g2, .ref g3, .ref g4])), (g1, .inl (cI, 10, .inl g_ri)), (g2, .inl (cI, 10, .inl g_ne)), (g3, .inl (cI, 10, .inl g_re)), (g4, .inl (cI, 11, .inl g_ts)), (a0, .inr (3, [.int a_n, .ref a1, .ref a2, .ref a3, .ref a4, .ref a5])), (a1, .inl (cI, 10, .inl a_L)), (a2, .inl (cI, 10, .inl a_U)), (a3, .inl (cI, 12, .inl a_H)), (a4, .inl (cI, 10, .inl a_O)), (a5, .inl (cI, 10, .inl a_B))] H → va_D A [(g0, .inr (4, [.int g_rl, .ref g1, .int g_n, .ref g2, .ref g3, .ref g4])), (g1, .inl (cI, 10, .inl g_ri)), (g2, .inl (cI, 10, .inl g_ne)), (g3, .inl (cI, 10, .inl g_re)), (g4, .inl (cI, 11, .inl g_ts)), (a0, .inr (3, [.int a_n, .ref a1, .ref a2, .ref a3, .ref a4, .ref a5])), (a1, .inl (cI, 10, .inl a_L)), (a2, .inl (cI, 10, .inl a_U)), (a3, .inl (cI, 12, .inl a_H)), (a4, .inl (cI, 10, .inl a_O)), (a5, .inl (cI, 10, .inl a_B))] → va_S A s.heap H locs → ∀ ls : Array Slot, lv_has ls 4 [(0, .ref g0), (2, .int x2)] → W p l e (headSpec wsX4_draw { frames := 2, cells := 0, slots := 0, locals := 45 }).room s m ([.ref g0, .ref a0] : List Value).toArray below meth c H locs 0 0 (MQ below (qV D [(g0, .inr (4, [.int g_rl, .ref g1, .int g_n', .ref g2, .ref g3, .ref g4])), (g1, .inl (cI, 10, .inl g_ri)), (g2, .inl (cI, 10, .inl g_ne')), (g3, .inl (cI, 10, .inl g_re')), (g4, .inl (cI, 11, .inl g_ts)), (a0, .inr (3, [.int a_n, .ref a1, .ref a2, .ref a3, .ref a4, .ref a5])), (a1, .inl (cI, 10, .inl a_L)), (a2, .inl (cI, 10, .inl a_U)), (a3, .inl (cI, 12, .inl a_H)), (a4, .inl (cI, 10, .inl a_O)), (a5, .inl (cI, 10, .inl a_B))] A) ([.ref g0, .ref a0] : List Value).toArray s 0 0 A) (F0 m 53 ls []) := by
    intro g_n g_ne fn
    induction fn with
    | zero => intro x2 g_re hf; rw [m_X4_draw_53] at hf; cases hf
    | succ fn ih =>
      intro x2 g_re hf H locs hP hD hS ls hl
      rw [m_X4_draw_53] at hf
      refine lv_iload_n hx hb dX4_draw_53 rfl (lv_at hl 1 rfl) ?_
      refine lv_aload_n hx hb dX4_draw_54 rfl (lv_at hl 0 rfl) ?_
      refine va_get (D := D) (ci := 4) (v := .int g_n) (C := RX4) (T := TX4) (N := 6) hx hb hts hiX4 hown hK.1 hP 0 rfl rfl 2 (by decide) hfl_30 (fun _ h9 => h9) rfl dX4_draw_55 ?_
      refine lv_icmp_ge (tgt := 111) hx hb dX4_draw_58 (by decide) (fun hc => ?_) (fun hc => ?_)
      · have hf := ifp hc hf
        cases hf
        exact W.vret hx hb hr (fun t ht _ => ⟨⟨rfl, by rw [ht]; exact hP, hD⟩, hS.F ht⟩) hS.2.2 dX4_draw_111
      · have hf := ifn hc hf
        refine lv_iconst (v := (nI 0)) hx hb dX4_draw_61 ic_0 ?_
        refine lv_istore_n (lv' := [(3, .int (nI 0)), (0, .ref g0), (2, .int x2)]) hx hb dX4_draw_62 rfl hl (by decide) rfl (fun ls hl => ?_)
        exact hB_63 x2 g_n g_ne _ ih fu (nI 0) g_re hf _ _ hP hD hS ls (lv_sub hl [1, 2, 0] rfl)
  have hB_10 : ∀ (g_n : Int32) (fn : Nat) (x2 : Int32) (g_ne : Nat → Int32) (g_re : Nat → Int32), m_X4_draw_10 fu g_n a_U a_H fn g_ne g_re x2 = some (g_n', g_ne', g_re') → ∀ (H : Heap) (locs : List Loc), va_P D vwCl [(g0, .inr (4, [.int g_rl, .ref g1, .int g_n, .ref g2, .ref g3, .ref g4])), (g1, .inl (cI, 10, .inl g_ri)), (g2, .inl (cI, 10, .inl g_ne)), (g3, .inl (cI, 10, .inl g_re)), (g4, .inl (cI, 11, .inl g_ts)), (a0, .inr (3, [.int a_n, .ref a1, .ref a2, .ref a3, .ref a4, .ref a5])), (a1, .inl (cI, 10, .inl a_L)), (a2, .inl (cI, 10, .inl a_U)), (a3, .inl (cI, 12, .inl a_H)), (a4, .inl (cI, 10, .inl a_O)), (a5, .inl (cI, 10, .inl a_B))] H → va_D A [(g0, .inr (4, [.int g_rl, .ref g1, .int g_n, .ref g2, .ref g3, .ref g4])), (g1, .inl (cI, 10, .inl g_ri)), (g2, .inl (cI, 10, .inl g_ne)), (g3, .inl (cI, 10, .inl g_re)), (g4, .inl (cI, 11, .inl g_ts)), (a0, .inr (3, [.int a_n, .ref a1, .ref a2, .ref a3, .ref a4, .ref a5])), (a1, .inl (cI, 10, .inl a_L)), (a2, .inl (cI, 10, .inl a_U)), (a3, .inl (cI, 12, .inl a_H)), (a4, .inl (cI, 10, .inl a_O)), (a5, .inl (cI, 10, .inl a_B))] → va_S A s.heap H locs → ∀ ls : Array Slot, lv_has ls 4 [(0, .ref g0), (1, .ref a0), (2, .int x2)] → W p l e (headSpec wsX4_draw { frames := 2, cells := 0, slots := 0, locals := 45 }).room s m ([.ref g0, .ref a0] : List Value).toArray below meth c H locs 0 0 (MQ below (qV D [(g0, .inr (4, [.int g_rl, .ref g1, .int g_n', .ref g2, .ref g3, .ref g4])), (g1, .inl (cI, 10, .inl g_ri)), (g2, .inl (cI, 10, .inl g_ne')), (g3, .inl (cI, 10, .inl g_re')), (g4, .inl (cI, 11, .inl g_ts)), (a0, .inr (3, [.int a_n, .ref a1, .ref a2, .ref a3, .ref a4, .ref a5])), (a1, .inl (cI, 10, .inl a_L)), (a2, .inl (cI, 10, .inl a_U)), (a3, .inl (cI, 12, .inl a_H)), (a4, .inl (cI, 10, .inl a_O)), (a5, .inl (cI, 10, .inl a_B))] A) ([.ref g0, .ref a0] : List Value).toArray s 0 0 A) (F0 m 10 ls []) := by
    intro g_n fn
    induction fn with
    | zero => intro x2 g_ne g_re hf; rw [m_X4_draw_10] at hf; cases hf
    | succ fn ih =>
      intro x2 g_ne g_re hf H locs hP hD hS ls hl
      rw [m_X4_draw_10] at hf
      refine lv_iload_n hx hb dX4_draw_10 rfl (lv_at hl 2 rfl) ?_
      refine lv_aload_n hx hb dX4_draw_11 rfl (lv_at hl 0 rfl) ?_
      refine va_get (D := D) (ci := 4) (v := .int g_n) (C := RX4) (T := TX4) (N := 6) hx hb hts hiX4 hown hK.1 hP 0 rfl rfl 2 (by decide) hfl_30 (fun _ h9 => h9) rfl dX4_draw_12 ?_
      refine lv_icmp_ge (tgt := 51) hx hb dX4_draw_15 (by decide) (fun hc => ?_) (fun hc => ?_)
      · have hf := ifp hc hf
        refine lv_iconst (v := (nI 0)) hx hb dX4_draw_51 ic_0 ?_
        refine lv_istore_n (lv' := [(2, .int (nI 0)), (0, .ref g0), (1, .ref a0)]) hx hb dX4_draw_52 rfl hl (by decide) rfl (fun ls hl => ?_)
        exact hB_53 g_n g_ne fu (nI 0) g_re hf _ _ hP hD hS ls (lv_sub hl [1, 0] rfl)
      · have hf := ifn hc hf
        refine lv_aload_n hx hb dX4_draw_18 rfl (lv_at hl 0 rfl) ?_
        refine va_get (D := D) (ci := 4) (v := .ref g2) (C := RX4) (T := TX4) (N := 6) hx hb hts hiX4 hown hK.1 hP 0 rfl rfl 3 (by decide) hfl_15 (fun _ h9 => h9) rfl dX4_draw_19 ?_
        refine lv_iload_n hx hb dX4_draw_22 rfl (lv_at hl 2 rfl) ?_
        refine lv_aload_n hx hb dX4_draw_23 rfl (lv_at hl 1 rfl) ?_
        refine lv_iload_n hx hb dX4_draw_24 rfl (lv_at hl 2 rfl) ?_
        obtain ⟨rv1, hrv1, hf⟩ := bd hf
        refine roI (va_runV (As := [.int x2]) (rest := [.int x2, .ref g2]) ⟨hx, hb, hml, hown, hts⟩ (c_X3_neededBy l D cI cZ cM a0 a1 a2 a3 a4 a5 a_n a_L a_U a_H a_O a_B x2 fu rv1 hrv1) (cwV 1 hts gX4_draw_X3_neededBy rfl rfl rfl ⟨rfl, hdc_X3_neededBy⟩ ⟨Nat.le_of_ble_eq_true rfl, Nat.le_of_ble_eq_true rfl⟩) (prV hK hP [5, 6, 7, 8, 9, 10] rfl (ci := 3) (q0 := 5) rfl rfl) rfl rfl hl.1 rfl (lv_room (Nat.le_of_ble_eq_true rfl)) dX4_draw_25 ⟨Nat.zero_le _, Nat.zero_le _⟩) ?_
        obtain ⟨hi, hf⟩ := gd_some hf
        refine va_iast hx hb hK.1 hP hD hS 2 0 rfl rfl hi dX4_draw_28 (fun H locs hP hD hS => ?_)
        have hP : va_P D vwCl [(g0, .inr (4, [.int g_rl, .ref g1, .int g_n, .ref g2, .ref g3, .ref g4])), (g1, .inl (cI, 10, .inl g_ri)), (g2, .inl (cI, 10, .inl (upd g_ne x2.toNatClampNeg rv1))), (g3, .inl (cI, 10, .inl g_re)), (g4, .inl (cI, 11, .inl g_ts)), (a0, .inr (3, [.int a_n, .ref a1, .ref a2, .ref a3, .ref a4, .ref a5])), (a1, .inl (cI, 10, .inl a_L)), (a2, .inl (cI, 10, .inl a_U)), (a3, .inl (cI, 12, .inl a_H)), (a4, .inl (cI, 10, .inl a_O)), (a5, .inl (cI, 10, .inl a_B))] H := hP
        have hD : va_D A [(g0, .inr (4, [.int g_rl, .ref g1, .int g_n, .ref g2, .ref g3, .ref g4])), (g1, .inl (cI, 10, .inl g_ri)), (g2, .inl (cI, 10, .inl (upd g_ne x2.toNatClampNeg rv1))), (g3, .inl (cI, 10, .inl g_re)), (g4, .inl (cI, 11, .inl g_ts)), (a0, .inr (3, [.int a_n, .ref a1, .ref a2, .ref a3, .ref a4, .ref a5])), (a1, .inl (cI, 10, .inl a_L)), (a2, .inl (cI, 10, .inl a_U)), (a3, .inl (cI, 12, .inl a_H)), (a4, .inl (cI, 10, .inl a_O)), (a5, .inl (cI, 10, .inl a_B))] := hD
        refine lv_aload_n hx hb dX4_draw_29 rfl (lv_at hl 0 rfl) ?_
        refine va_get (D := D) (ci := 4) (v := .ref g3) (C := RX4) (T := TX4) (N := 6) hx hb hts hiX4 hown hK.1 hP 0 rfl rfl 4 (by decide) hfl_18 (fun _ h9 => h9) rfl dX4_draw_30 ?_
        refine lv_iload_n hx hb dX4_draw_33 rfl (lv_at hl 2 rfl) ?_
        refine lv_aload_n hx hb dX4_draw_34 rfl (lv_at hl 0 rfl) ?_
        refine va_get (D := D) (ci := 4) (v := .ref g2) (C := RX4) (T := TX4) (N := 6) hx hb hts hiX4 hown hK.1 hP 0 rfl rfl 3 (by decide) hfl_15 (fun _ h9 => h9) rfl dX4_draw_35 ?_
        refine lv_iload_n hx hb dX4_draw_38 rfl (lv_at hl 2 rfl) ?_
        obtain ⟨hi, hf⟩ := gd_some hf
        refine va_iald hx hb hK.1 hP 2 0 rfl rfl hi dX4_draw_39 ?_
        refine lv_iload_n hx hb dX4_draw_40 rfl (lv_at hl 2 rfl) ?_
        obtain ⟨rv2, hrv2, hf⟩ := bd hf
        refine roI (va_runSN (As := [.int ((upd g_ne x2.toNatClampNeg rv1) x2.toNatClampNeg), .int x2]) (rest := [.int x2, .ref g3]) ⟨hx, hb, hml, hown, hts⟩ (c_X6_with l D cI cZ cM ((upd g_ne x2.toNatClampNeg rv1) x2.toNatClampNeg) x2 rv2 hrv2) ⟨va_cnB (host := RX6) 2 hts gX4_draw_X6_with_n35 rfl rfl rfl hn_9 hin_RX6 hdc_X6_with ⟨Nat.le_of_ble_eq_true rfl, Nat.le_of_ble_eq_true rfl⟩, hst_X6_with, trivial⟩ (prS hK hP [] rfl) rfl rfl hl.1 rfl (lv_room (Nat.le_of_ble_eq_true rfl)) dX4_draw_41 ⟨Nat.zero_le _, Nat.zero_le _⟩) ?_
        obtain ⟨hi, hf⟩ := gd_some hf
        refine va_iast hx hb hK.1 hP hD hS 3 0 rfl rfl hi dX4_draw_44 (fun H locs hP hD hS => ?_)
        have hP : va_P D vwCl [(g0, .inr (4, [.int g_rl, .ref g1, .int g_n, .ref g2, .ref g3, .ref g4])), (g1, .inl (cI, 10, .inl g_ri)), (g2, .inl (cI, 10, .inl (upd g_ne x2.toNatClampNeg rv1))), (g3, .inl (cI, 10, .inl (upd g_re x2.toNatClampNeg rv2))), (g4, .inl (cI, 11, .inl g_ts)), (a0, .inr (3, [.int a_n, .ref a1, .ref a2, .ref a3, .ref a4, .ref a5])), (a1, .inl (cI, 10, .inl a_L)), (a2, .inl (cI, 10, .inl a_U)), (a3, .inl (cI, 12, .inl a_H)), (a4, .inl (cI, 10, .inl a_O)), (a5, .inl (cI, 10, .inl a_B))] H := hP
        have hD : va_D A [(g0, .inr (4, [.int g_rl, .ref g1, .int g_n, .ref g2, .ref g3, .ref g4])), (g1, .inl (cI, 10, .inl g_ri)), (g2, .inl (cI, 10, .inl (upd g_ne x2.toNatClampNeg rv1))), (g3, .inl (cI, 10, .inl (upd g_re x2.toNatClampNeg rv2))), (g4, .inl (cI, 11, .inl g_ts)), (a0, .inr (3, [.int a_n, .ref a1, .ref a2, .ref a3, .ref a4, .ref a5])), (a1, .inl (cI, 10, .inl a_L)), (a2, .inl (cI, 10, .inl a_U)), (a3, .inl (cI, 12, .inl a_H)), (a4, .inl (cI, 10, .inl a_O)), (a5, .inl (cI, 10, .inl a_B))] := hD
        refine lv_iinc (v := (x2 + (nI 1))) (lv' := [(2, .int (x2 + (nI 1))), (0, .ref g0), (1, .ref a0)]) hx hb dX4_draw_45 hl (k := 2) rfl (ii_1 _) (by decide) rfl (fun ls hl => ?_)
        refine lv_goto (tgt := 10) hx hb dX4_draw_48 (by decide) ?_
        exact ih (x2 + (nI 1)) (upd g_ne x2.toNatClampNeg rv1) (upd g_re x2.toNatClampNeg rv2) hf _ _ hP hD hS ls (lv_sub hl [1, 2, 0] rfl)
  have hl := lv_entry ([.ref g0, .ref a0]) (n := 4) (Nat.le_of_ble_eq_true rfl)
  rw [lg_entry_eq]
  generalize (lg_sl ([.ref g0, .ref a0]) ++ List.replicate (4 - (lg_sl ([.ref g0, .ref a0])).length) Slot.unset).toArray = ls at hl ⊢
  have hl : lv_has ls 4 [(0, .ref g0), (1, .ref a0)] := hl
  have hS : va_S A s.heap s.heap [] := va_S.rf
  unfold m_X4_draw at hf
  refine lv_aload_n hx hb dX4_draw_0 rfl (lv_at hl 0 rfl) ?_
  refine lv_aload_n hx hb dX4_draw_1 rfl (lv_at hl 1 rfl) ?_
  refine va_get (D := D) (ci := 3) (v := .int a_n) (C := RX3) (T := TX3) (N := 6) hx hb hts hiX3 hown hK.1 hP 5 rfl rfl 0 (by decide) hfl_24 (fun _ h9 => h9) rfl dX4_draw_2 ?_
  refine va_put (D := D) (ci := 4) (v := .int a_n) (ty := .int) (C := RX4) (T := TX4) (N := 6) hx hb hts hiX4 tyX4 tyX4_ok nmX4 hown hK.1 hP hD hS 0 rfl rfl 2 (by decide) hfl_30 (fun _ h9 => h9) rfl (tyX4_ok 2 (by decide)) rfl rfl (Nat.le_of_ble_eq_true rfl) dX4_draw_5 (fun H locs hP hD hS => ?_)
  have hP : va_P D vwCl [(g0, .inr (4, [.int g_rl, .ref g1, .int a_n, .ref g2, .ref g3, .ref g4])), (g1, .inl (cI, 10, .inl g_ri)), (g2, .inl (cI, 10, .inl g_ne)), (g3, .inl (cI, 10, .inl g_re)), (g4, .inl (cI, 11, .inl g_ts)), (a0, .inr (3, [.int a_n, .ref a1, .ref a2, .ref a3, .ref a4, .ref a5])), (a1, .inl (cI, 10, .inl a_L)), (a2, .inl (cI, 10, .inl a_U)), (a3, .inl (cI, 12, .inl a_H)), (a4, .inl (cI, 10, .inl a_O)), (a5, .inl (cI, 10, .inl a_B))] H := hP
  have hD : va_D A [(g0, .inr (4, [.int g_rl, .ref g1, .int a_n, .ref g2, .ref g3, .ref g4])), (g1, .inl (cI, 10, .inl g_ri)), (g2, .inl (cI, 10, .inl g_ne)), (g3, .inl (cI, 10, .inl g_re)), (g4, .inl (cI, 11, .inl g_ts)), (a0, .inr (3, [.int a_n, .ref a1, .ref a2, .ref a3, .ref a4, .ref a5])), (a1, .inl (cI, 10, .inl a_L)), (a2, .inl (cI, 10, .inl a_U)), (a3, .inl (cI, 12, .inl a_H)), (a4, .inl (cI, 10, .inl a_O)), (a5, .inl (cI, 10, .inl a_B))] := hD
  refine lv_iconst (v := (nI 0)) hx hb dX4_draw_8 ic_0 ?_
  refine lv_istore_n (lv' := [(2, .int (nI 0)), (0, .ref g0), (1, .ref a0)]) hx hb dX4_draw_9 rfl hl (by decide) rfl (fun ls hl => ?_)
  exact hB_10 a_n fu (nI 0) g_ne g_re hf _ _ hP hD hS ls (lv_sub hl [1, 2, 0] rfl)
theorem hdc_X4_component : yX4_component.cls ≠ "java/lang/invoke/MethodHandle" ∧ yX4_component.cls ≠ "java/lang/invoke/VarHandle" ∧ (parseMethodDescriptor yX4_component.desc).map (fun d => d.parameters.length) = some 1 := by decide +kernel
set_option maxHeartbeats 4000000 in
set_option maxRecDepth 100000 in
theorem c_X4_component (l : Launch) (D : va_G) (cI cZ cM : ClassId) (g0 g1 g2 g3 g4 : Nat) (g_rl : Int32) (g_n : Int32) (g_ri : Nat → Int32) (g_ne : Nat → Int32) (g_re : Nat → Int32) (g_ts : Nat → Int32) (x1 : Int32) (fu : Nat) (r : Int32) (hf : m_X4_component fu g_n g_re x1 = some r) : Met l yX4_component wsX4_component ({ frames := 1, cells := 0, slots := 0, locals := 21 }) (pR D cI cZ cM [(g0, .inr (4, [.int g_rl, .ref g1, .int g_n, .ref g2, .ref g3, .ref g4])), (g1, .inl (cI, 10, .inl g_ri)), (g2, .inl (cI, 10, .inl g_ne)), (g3, .inl (cI, 10, .inl g_re)), (g4, .inl (cI, 11, .inl g_ts))] [.ref g0, .int x1]) (qR r) 0 0 (fun _ => False) := by
  refine Met.ofW (cc := cX4_component) (maxL := 4) (ret := (some .int)) (by decide) rfl ?_
  intro p e s m args below meth c s₁ B hml hv
  obtain ⟨rfl, hP, hK⟩ := hv
  have hx := B.exec
  have hb := B.bytes
  have hr := B.returns
  have hts := atoms_spec (ws := wsX4_component) B.pre
  have hown : s.vm.findClass RX4 = some m.cls := findClass_of_methodNamed B.named
  have hlocks := B.notSynchronized
  have hfl_18 := hts (.fieldLink RX4 18 "TermsFirst$NeedGraph" "reach" "[I") (List.mem_cons_of_mem _ (List.mem_append_left _ (List.mem_of_getElem? (i := 1) rfl)))
  have hfl_30 := hts (.fieldLink RX4 30 "TermsFirst$NeedGraph" "n" "I") (List.mem_cons_of_mem _ (List.mem_append_left _ (List.mem_of_getElem? (i := 0) rfl)))
  have hn_9 : va_Nw (.methodLinkNest RX4 35 yX6_with RX6) s := nw_9 hK
  have hin_RX6 : (Cond.initialized yX6_with.cls).before _ s = true := hts (.initialized RX6) (List.mem_cons_of_mem _ (List.mem_append_left _ (List.mem_of_getElem? (i := 3) rfl)))
  have hst_X6_with := hts (.static yX6_with) (List.mem_cons_of_mem _ (List.mem_append_left _ (List.mem_of_getElem? (i := 5) rfl)))
  have hn_10 : va_Nw (.methodLinkNest RX4 39 yX6_has RX6) s := nw_10 hK
  have hin_RX6 : (Cond.initialized yX6_has.cls).before _ s = true := hts (.initialized RX6) (List.mem_cons_of_mem _ (List.mem_append_left _ (List.mem_of_getElem? (i := 3) rfl)))
  have hst_X6_has := hts (.static yX6_has) (List.mem_cons_of_mem _ (List.mem_append_left _ (List.mem_of_getElem? (i := 2) rfl)))
  have hiX4 : ∀ w ∈ u_ws RX4 TX4 6, w ∈ wsX4_component := fun _ h => (List.mem_cons_of_mem _ (List.mem_append_right _ h))
  have hB_4 : ∀ (fn : Nat) (x2 : Int32) (x3 : Int32), m_X4_component_4 g_n g_re x1 fn x2 x3 = some r → ∀ ls : Array Slot, lv_has ls 4 [(0, .ref g0), (1, .int x1), (2, .int x2), (3, .int x3)] → W p l e (headSpec wsX4_component { frames := 1, cells := 0, slots := 0, locals := 21 }).room s m ([.ref g0, .int x1] : List Value).toArray below meth c s.heap [] 0 0 (MQ below (qR r) ([.ref g0, .int x1] : List Value).toArray s 0 0 (fun _ => False)) (F0 m 4 ls []) := by
    intro fn
    induction fn with
    | zero => intro x2 x3 hf; rw [m_X4_component_4] at hf; cases hf
    | succ fn ih =>
      intro x2 x3 hf ls hl
      rw [m_X4_component_4] at hf
      refine lv_iload_n hx hb dX4_component_4 rfl (lv_at hl 3 rfl) ?_
      refine lv_aload_n hx hb dX4_component_5 rfl (lv_at hl 0 rfl) ?_
      refine va_get (D := D) (ci := 4) (v := .int g_n) (C := RX4) (T := TX4) (N := 6) hx hb hts hiX4 hown hK.1 hP 0 rfl rfl 2 (by decide) hfl_30 (fun _ h9 => h9) rfl dX4_component_6 ?_
      refine lv_icmp_ge (tgt := 50) hx hb dX4_component_9 (by decide) (fun hc => ?_) (fun hc => ?_)
      · have hf := ifp hc hf
        refine lv_iload_n hx hb dX4_component_50 rfl (lv_at hl 2 rfl) ?_
        cases hf
        exact W.iret hx hb hr (fun t ht _ => ⟨rfl, ht⟩) (fun _ h => nomatch h) dX4_component_51
      · have hf := ifn hc hf
        refine lv_aload_n hx hb dX4_component_12 rfl (lv_at hl 0 rfl) ?_
        refine va_get (D := D) (ci := 4) (v := .ref g3) (C := RX4) (T := TX4) (N := 6) hx hb hts hiX4 hown hK.1 hP 0 rfl rfl 4 (by decide) hfl_18 (fun _ h9 => h9) rfl dX4_component_13 ?_
        refine lv_iload_n hx hb dX4_component_16 rfl (lv_at hl 1 rfl) ?_
        obtain ⟨hi, hf⟩ := gd_some hf
        refine va_iald hx hb hK.1 hP 3 0 rfl rfl hi dX4_component_17 ?_
        refine lv_iload_n hx hb dX4_component_18 rfl (lv_at hl 3 rfl) ?_
        obtain ⟨rv1, hrv1, hf⟩ := bd hf
        refine roI (va_runSN (As := [.int (g_re x1.toNatClampNeg), .int x3]) (rest := []) ⟨hx, hb, hml, hown, hts⟩ (c_X6_has l D cI cZ cM (g_re x1.toNatClampNeg) x3 rv1 hrv1) ⟨va_cnB (host := RX6) 2 hts gX4_component_X6_has_n39 rfl rfl rfl hn_10 hin_RX6 hdc_X6_has ⟨Nat.le_of_ble_eq_true rfl, Nat.le_of_ble_eq_true rfl⟩, hst_X6_has, trivial⟩ (prS hK hP [] rfl) rfl rfl hl.1 rfl (lv_room (Nat.le_of_ble_eq_true rfl)) dX4_component_19 ⟨Nat.zero_le _, Nat.zero_le _⟩) ?_
        refine lv_if_eq (tgt := 44) hx hb dX4_component_22 (by decide) (fun hc => ?_) (fun hc => ?_)
        · have hf := ifp hc hf
          refine lv_iinc (v := (x3 + (nI 1))) (lv' := [(3, .int (x3 + (nI 1))), (0, .ref g0), (1, .int x1), (2, .int x2)]) hx hb dX4_component_44 hl (k := 3) rfl (ii_1 _) (by decide) rfl (fun ls hl => ?_)
          refine lv_goto (tgt := 4) hx hb dX4_component_47 (by decide) ?_
          exact ih x2 (x3 + (nI 1)) hf  ls (lv_sub hl [1, 2, 3, 0] rfl)
        · have hf := ifn hc hf
          refine lv_aload_n hx hb dX4_component_25 rfl (lv_at hl 0 rfl) ?_
          refine va_get (D := D) (ci := 4) (v := .ref g3) (C := RX4) (T := TX4) (N := 6) hx hb hts hiX4 hown hK.1 hP 0 rfl rfl 4 (by decide) hfl_18 (fun _ h9 => h9) rfl dX4_component_26 ?_
          refine lv_iload_n hx hb dX4_component_29 rfl (lv_at hl 3 rfl) ?_
          obtain ⟨hi, hf⟩ := gd_some hf
          refine va_iald hx hb hK.1 hP 3 0 rfl rfl hi dX4_component_30 ?_
          refine lv_iload_n hx hb dX4_component_31 rfl (lv_at hl 1 rfl) ?_
          obtain ⟨rv2, hrv2, hf⟩ := bd hf
          refine roI (va_runSN (As := [.int (g_re x3.toNatClampNeg), .int x1]) (rest := []) ⟨hx, hb, hml, hown, hts⟩ (c_X6_has l D cI cZ cM (g_re x3.toNatClampNeg) x1 rv2 hrv2) ⟨va_cnB (host := RX6) 2 hts gX4_component_X6_has_n39 rfl rfl rfl hn_10 hin_RX6 hdc_X6_has ⟨Nat.le_of_ble_eq_true rfl, Nat.le_of_ble_eq_true rfl⟩, hst_X6_has, trivial⟩ (prS hK hP [] rfl) rfl rfl hl.1 rfl (lv_room (Nat.le_of_ble_eq_true rfl)) dX4_component_32 ⟨Nat.zero_le _, Nat.zero_le _⟩) ?_
          refine lv_if_eq (tgt := 44) hx hb dX4_component_35 (by decide) (fun hc => ?_) (fun hc => ?_)
          · have hf := ifp hc hf
            refine lv_iinc (v := (x3 + (nI 1))) (lv' := [(3, .int (x3 + (nI 1))), (0, .ref g0), (1, .int x1), (2, .int x2)]) hx hb dX4_component_44 hl (k := 3) rfl (ii_1 _) (by decide) rfl (fun ls hl => ?_)
            refine lv_goto (tgt := 4) hx hb dX4_component_47 (by decide) ?_
            exact ih x2 (x3 + (nI 1)) hf  ls (lv_sub hl [1, 2, 3, 0] rfl)
          · have hf := ifn hc hf
            refine lv_iload_n hx hb dX4_component_38 rfl (lv_at hl 2 rfl) ?_
            refine lv_iload_n hx hb dX4_component_39 rfl (lv_at hl 3 rfl) ?_
            obtain ⟨rv3, hrv3, hf⟩ := bd hf
            refine roI (va_runSN (As := [.int x2, .int x3]) (rest := []) ⟨hx, hb, hml, hown, hts⟩ (c_X6_with l D cI cZ cM x2 x3 rv3 hrv3) ⟨va_cnB (host := RX6) 2 hts gX4_component_X6_with_n35 rfl rfl rfl hn_9 hin_RX6 hdc_X6_with ⟨Nat.le_of_ble_eq_true rfl, Nat.le_of_ble_eq_true rfl⟩, hst_X6_with, trivial⟩ (prS hK hP [] rfl) rfl rfl hl.1 rfl (lv_room (Nat.le_of_ble_eq_true rfl)) dX4_component_40 ⟨Nat.zero_le _, Nat.zero_le _⟩) ?_
            refine lv_istore_n (lv' := [(2, .int rv3), (0, .ref g0), (1, .int x1), (3, .int x3)]) hx hb dX4_component_43 rfl hl (by decide) rfl (fun ls hl => ?_)
            refine lv_iinc (v := (x3 + (nI 1))) (lv' := [(3, .int (x3 + (nI 1))), (2, .int rv3), (0, .ref g0), (1, .int x1)]) hx hb dX4_component_44 hl (k := 3) rfl (ii_1 _) (by decide) rfl (fun ls hl => ?_)
            refine lv_goto (tgt := 4) hx hb dX4_component_47 (by decide) ?_
            exact ih rv3 (x3 + (nI 1)) hf  ls (lv_sub hl [2, 3, 1, 0] rfl)
  have hl := lv_entry ([.ref g0, .int x1]) (n := 4) (Nat.le_of_ble_eq_true rfl)
  rw [lg_entry_eq]
  generalize (lg_sl ([.ref g0, .int x1]) ++ List.replicate (4 - (lg_sl ([.ref g0, .int x1])).length) Slot.unset).toArray = ls at hl ⊢
  have hl : lv_has ls 4 [(0, .ref g0), (1, .int x1)] := hl
  unfold m_X4_component at hf
  refine lv_iconst (v := (nI 0)) hx hb dX4_component_0 ic_0 ?_
  refine lv_istore_n (lv' := [(2, .int (nI 0)), (0, .ref g0), (1, .int x1)]) hx hb dX4_component_1 rfl hl (by decide) rfl (fun ls hl => ?_)
  refine lv_iconst (v := (nI 0)) hx hb dX4_component_2 ic_0 ?_
  refine lv_istore_n (lv' := [(3, .int (nI 0)), (2, .int (nI 0)), (0, .ref g0), (1, .int x1)]) hx hb dX4_component_3 rfl hl (by decide) rfl (fun ls hl => ?_)
  exact hB_4 fu (nI 0) (nI 0) hf  ls (lv_sub hl [2, 3, 1, 0] rfl)
theorem hdc_X4_countLargeComponents : yX4_countLargeComponents.cls ≠ "java/lang/invoke/MethodHandle" ∧ yX4_countLargeComponents.cls ≠ "java/lang/invoke/VarHandle" ∧ (parseMethodDescriptor yX4_countLargeComponents.desc).map (fun d => d.parameters.length) = some 0 := by decide +kernel
set_option maxHeartbeats 4000000 in
set_option maxRecDepth 100000 in
theorem c_X4_countLargeComponents (l : Launch) (D : va_G) (cI cZ cM : ClassId) (g0 g1 g2 g3 g4 : Nat) (g_rl : Int32) (g_n : Int32) (g_ri : Nat → Int32) (g_ne : Nat → Int32) (g_re : Nat → Int32) (g_ts : Nat → Int32) (fu : Nat) (r : Int32) (hf : m_X4_countLargeComponents fu g_n g_re = some r) : Met l yX4_countLargeComponents wsX4_countLargeComponents ({ frames := 2, cells := 0, slots := 0, locals := 44 }) (pR D cI cZ cM [(g0, .inr (4, [.int g_rl, .ref g1, .int g_n, .ref g2, .ref g3, .ref g4])), (g1, .inl (cI, 10, .inl g_ri)), (g2, .inl (cI, 10, .inl g_ne)), (g3, .inl (cI, 10, .inl g_re)), (g4, .inl (cI, 11, .inl g_ts))] [.ref g0]) (qR r) 0 0 (fun _ => False) := by
  refine Met.ofW (cc := cX4_countLargeComponents) (maxL := 5) (ret := (some .int)) (by decide) rfl ?_
  intro p e s m args below meth c s₁ B hml hv
  obtain ⟨rfl, hP, hK⟩ := hv
  have hx := B.exec
  have hb := B.bytes
  have hr := B.returns
  have hts := atoms_spec (ws := wsX4_countLargeComponents) B.pre
  have hown : s.vm.findClass RX4 = some m.cls := findClass_of_methodNamed B.named
  have hlocks := B.notSynchronized
  have hfl_30 := hts (.fieldLink RX4 30 "TermsFirst$NeedGraph" "n" "I") (List.mem_cons_of_mem _ (List.mem_append_left _ (List.mem_of_getElem? (i := 0) rfl)))
  have hiX4 : ∀ w ∈ u_ws RX4 TX4 6, w ∈ wsX4_countLargeComponents := fun _ h => (List.mem_cons_of_mem _ (List.mem_append_right _ h))
  have hB_33 : ∀ (x1 : Int32) (x2 : Int32) (x3 : Int32) (s0 : Int32) (kt4 : Int32 → Int32 → Option (Int32)) (hkt4 : ∀ (x1 : Int32) (x2 : Int32), kt4 x1 x2 = some r → ∀ ls : Array Slot, lv_has ls 5 [(0, .ref g0), (1, .int x1), (2, .int x2)] → W p l e (headSpec wsX4_countLargeComponents { frames := 2, cells := 0, slots := 0, locals := 44 }).room s m ([.ref g0] : List Value).toArray below meth c s.heap [] 0 0 (MQ below (qR r) ([.ref g0] : List Value).toArray s 0 0 (fun _ => False)) (F0 m 4 ls [])), m_X4_countLargeComponents_33 s0 x1 x2 x3 kt4 = some r → ∀ ls : Array Slot, lv_has ls 5 [(0, .ref g0), (1, .int x1), (2, .int x2), (3, .int x3)] → W p l e (headSpec wsX4_countLargeComponents { frames := 2, cells := 0, slots := 0, locals := 44 }).room s m ([.ref g0] : List Value).toArray below meth c s.heap [] 0 0 (MQ below (qR r) ([.ref g0] : List Value).toArray s 0 0 (fun _ => False)) (F0 m 33 ls [.int s0]) := by
    intro x1 x2 x3 s0 kt4 hkt4 hf ls hl
    unfold m_X4_countLargeComponents_33 at hf
    refine lv_istore (lv' := [(4, .int s0), (0, .ref g0), (1, .int x1), (2, .int x2), (3, .int x3)]) hx hb dX4_countLargeComponents_33 hl (by decide) rfl (fun ls hl => ?_)
    refine lv_iload hx hb dX4_countLargeComponents_35 (lv_at hl 0 rfl) ?_
    refine lv_if_eq (tgt := 51) hx hb dX4_countLargeComponents_37 (by decide) (fun hc => ?_) (fun hc => ?_)
    · have hf := ifp hc hf
      refine lv_iinc (v := (x2 + (nI 1))) (lv' := [(2, .int (x2 + (nI 1))), (4, .int s0), (0, .ref g0), (1, .int x1), (3, .int x3)]) hx hb dX4_countLargeComponents_51 hl (k := 3) rfl (ii_1 _) (by decide) rfl (fun ls hl => ?_)
      refine lv_goto (tgt := 4) hx hb dX4_countLargeComponents_54 (by decide) ?_
      exact hkt4 x1 (x2 + (nI 1)) hf  ls (lv_sub hl [2, 3, 0] rfl)
    · have hf := ifn hc hf
      refine lv_iload_n hx hb dX4_countLargeComponents_40 rfl (lv_at hl 4 rfl) ?_
      obtain ⟨rv2, hrv2, hf⟩ := bd hf
      refine roI (va_runS (As := [.int x3]) (rest := []) ⟨hx, hb, hml, hown, hts⟩ (c_J6_bitCount_0f7a4 l D cI cZ cM x3 rv2 hrv2) (va_cwS 1 hts gX4_countLargeComponents_J6_bitCount_0f7a4 rfl rfl rfl hdc_J6_bitCount_0f7a4 ⟨Nat.le_of_ble_eq_true rfl, Nat.le_of_ble_eq_true rfl⟩) (prS hK hP [] rfl) rfl rfl hl.1 rfl (lv_room (Nat.le_of_ble_eq_true rfl)) dX4_countLargeComponents_41 ⟨Nat.zero_le _, Nat.zero_le _⟩) ?_
      refine lv_iconst (v := (nI 2)) hx hb dX4_countLargeComponents_44 ic_2 ?_
      refine lv_icmp_lt (tgt := 51) hx hb dX4_countLargeComponents_45 (by decide) (fun hc => ?_) (fun hc => ?_)
      · have hf := ifp hc hf
        refine lv_iinc (v := (x2 + (nI 1))) (lv' := [(2, .int (x2 + (nI 1))), (4, .int s0), (0, .ref g0), (1, .int x1), (3, .int x3)]) hx hb dX4_countLargeComponents_51 hl (k := 3) rfl (ii_1 _) (by decide) rfl (fun ls hl => ?_)
        refine lv_goto (tgt := 4) hx hb dX4_countLargeComponents_54 (by decide) ?_
        exact hkt4 x1 (x2 + (nI 1)) hf  ls (lv_sub hl [2, 3, 0] rfl)
      · have hf := ifn hc hf
        refine lv_iinc (v := (x1 + (nI 1))) (lv' := [(1, .int (x1 + (nI 1))), (4, .int s0), (0, .ref g0), (2, .int x2), (3, .int x3)]) hx hb dX4_countLargeComponents_48 hl (k := 2) rfl (ii_1 _) (by decide) rfl (fun ls hl => ?_)
        refine lv_iinc (v := (x2 + (nI 1))) (lv' := [(2, .int (x2 + (nI 1))), (1, .int (x1 + (nI 1))), (4, .int s0), (0, .ref g0), (3, .int x3)]) hx hb dX4_countLargeComponents_51 hl (k := 3) rfl (ii_1 _) (by decide) rfl (fun ls hl => ?_)
        refine lv_goto (tgt := 4) hx hb dX4_countLargeComponents_54 (by decide) ?_
        exact hkt4 (x1 + (nI 1)) (x2 + (nI 1)) hf  ls (lv_sub hl [3, 1, 0] rfl)
  have hB_4 : ∀ (fn : Nat) (x1 : Int32) (x2 : Int32), m_X4_countLargeComponents_4 fu g_n g_re fn x1 x2 = some r → ∀ ls : Array Slot, lv_has ls 5 [(0, .ref g0), (1, .int x1), (2, .int x2)] → W p l e (headSpec wsX4_countLargeComponents { frames := 2, cells := 0, slots := 0, locals := 44 }).room s m ([.ref g0] : List Value).toArray below meth c s.heap [] 0 0 (MQ below (qR r) ([.ref g0] : List Value).toArray s 0 0 (fun _ => False)) (F0 m 4 ls []) := by
    intro fn
    induction fn with
    | zero => intro x1 x2 hf; rw [m_X4_countLargeComponents_4] at hf; cases hf
    | succ fn ih =>
      intro x1 x2 hf ls hl
      rw [m_X4_countLargeComponents_4] at hf
      refine lv_iload_n hx hb dX4_countLargeComponents_4 rfl (lv_at hl 2 rfl) ?_
      refine lv_aload_n hx hb dX4_countLargeComponents_5 rfl (lv_at hl 0 rfl) ?_
      refine va_get (D := D) (ci := 4) (v := .int g_n) (C := RX4) (T := TX4) (N := 6) hx hb hts hiX4 hown hK.1 hP 0 rfl rfl 2 (by decide) hfl_30 (fun _ h9 => h9) rfl dX4_countLargeComponents_6 ?_
      refine lv_icmp_ge (tgt := 57) hx hb dX4_countLargeComponents_9 (by decide) (fun hc => ?_) (fun hc => ?_)
      · have hf := ifp hc hf
        refine lv_iload_n hx hb dX4_countLargeComponents_57 rfl (lv_at hl 1 rfl) ?_
        cases hf
        exact W.iret hx hb hr (fun t ht _ => ⟨rfl, ht⟩) (fun _ h => nomatch h) dX4_countLargeComponents_58
      · have hf := ifn hc hf
        refine lv_aload_n hx hb dX4_countLargeComponents_12 rfl (lv_at hl 0 rfl) ?_
        refine lv_iload_n hx hb dX4_countLargeComponents_13 rfl (lv_at hl 2 rfl) ?_
        obtain ⟨rv1, hrv1, hf⟩ := bd hf
        refine roI (va_runV (As := [.int x2]) (rest := []) ⟨hx, hb, hml, hown, hts⟩ (c_X4_component l D cI cZ cM g0 g1 g2 g3 g4 g_rl g_n g_ri g_ne g_re g_ts x2 fu rv1 hrv1) (cwV 1 hts gX4_countLargeComponents_X4_component rfl rfl rfl ⟨rfl, hdc_X4_component⟩ ⟨Nat.le_of_ble_eq_true rfl, Nat.le_of_ble_eq_true rfl⟩) (prV hK hP [0, 1, 2, 3, 4] rfl (ci := 4) (q0 := 0) rfl rfl) rfl rfl hl.1 rfl (lv_room (Nat.le_of_ble_eq_true rfl)) dX4_countLargeComponents_14 ⟨Nat.zero_le _, Nat.zero_le _⟩) ?_
        refine lv_istore_n (lv' := [(3, .int rv1), (0, .ref g0), (1, .int x1), (2, .int x2)]) hx hb dX4_countLargeComponents_17 rfl hl (by decide) rfl (fun ls hl => ?_)
        refine lv_iload_n hx hb dX4_countLargeComponents_18 rfl (lv_at hl 0 rfl) ?_
        refine lv_iconst (v := (nI 1)) hx hb dX4_countLargeComponents_19 ic_1 ?_
        refine lv_iload_n hx hb dX4_countLargeComponents_20 rfl (lv_at hl 3 rfl) ?_
        refine lv_ishl hx hb dX4_countLargeComponents_21 ?_
        refine lv_iconst (v := (nI 1)) hx hb dX4_countLargeComponents_22 ic_1 ?_
        refine lv_isub hx hb dX4_countLargeComponents_23 ?_
        refine lv_iand hx hb dX4_countLargeComponents_24 ?_
        refine lv_if_ne (tgt := 32) hx hb dX4_countLargeComponents_25 (by decide) (fun hc => ?_) (fun hc => ?_)
        · have hf := ifn hc hf
          refine lv_iconst (v := (nI 0)) hx hb dX4_countLargeComponents_32 ic_0 ?_
          exact hB_33 x1 x2 rv1 (nI 0) _ ih hf  ls (lv_sub hl [1, 2, 3, 0] rfl)
        · have hf := ifp hc hf
          refine lv_iconst (v := (nI 1)) hx hb dX4_countLargeComponents_28 ic_1 ?_
          refine lv_goto (tgt := 33) hx hb dX4_countLargeComponents_29 (by decide) ?_
          exact hB_33 x1 x2 rv1 (nI 1) _ ih hf  ls (lv_sub hl [1, 2, 3, 0] rfl)
  have hl := lv_entry ([.ref g0]) (n := 5) (Nat.le_of_ble_eq_true rfl)
  rw [lg_entry_eq]
  generalize (lg_sl ([.ref g0]) ++ List.replicate (5 - (lg_sl ([.ref g0])).length) Slot.unset).toArray = ls at hl ⊢
  have hl : lv_has ls 5 [(0, .ref g0)] := hl
  unfold m_X4_countLargeComponents at hf
  refine lv_iconst (v := (nI 0)) hx hb dX4_countLargeComponents_0 ic_0 ?_
  refine lv_istore_n (lv' := [(1, .int (nI 0)), (0, .ref g0)]) hx hb dX4_countLargeComponents_1 rfl hl (by decide) rfl (fun ls hl => ?_)
  refine lv_iconst (v := (nI 0)) hx hb dX4_countLargeComponents_2 ic_0 ?_
  refine lv_istore_n (lv' := [(2, .int (nI 0)), (1, .int (nI 0)), (0, .ref g0)]) hx hb dX4_countLargeComponents_3 rfl hl (by decide) rfl (fun ls hl => ?_)
  exact hB_4 fu (nI 0) (nI 0) hf  ls (lv_sub hl [2, 1, 0] rfl)
theorem hdc_X4_sectionsThatNeedOneOf : yX4_sectionsThatNeedOneOf.cls ≠ "java/lang/invoke/MethodHandle" ∧ yX4_sectionsThatNeedOneOf.cls ≠ "java/lang/invoke/VarHandle" ∧ (parseMethodDescriptor yX4_sectionsThatNeedOneOf.desc).map (fun d => d.parameters.length) = some 1 := by decide +kernel
set_option maxHeartbeats 4000000 in
set_option maxRecDepth 100000 in
theorem c_X4_sectionsThatNeedOneOf (l : Launch) (D : va_G) (cI cZ cM : ClassId) (g0 g1 g2 g3 g4 : Nat) (g_rl : Int32) (g_n : Int32) (g_ri : Nat → Int32) (g_ne : Nat → Int32) (g_re : Nat → Int32) (g_ts : Nat → Int32) (x1 : Int32) (fu : Nat) (r : Int32) (hf : m_X4_sectionsThatNeedOneOf fu g_n g_ne x1 = some r) : Met l yX4_sectionsThatNeedOneOf wsX4_sectionsThatNeedOneOf ({ frames := 1, cells := 0, slots := 0, locals := 21 }) (pR D cI cZ cM [(g0, .inr (4, [.int g_rl, .ref g1, .int g_n, .ref g2, .ref g3, .ref g4])), (g1, .inl (cI, 10, .inl g_ri)), (g2, .inl (cI, 10, .inl g_ne)), (g3, .inl (cI, 10, .inl g_re)), (g4, .inl (cI, 11, .inl g_ts))] [.ref g0, .int x1]) (qR r) 0 0 (fun _ => False) := by
  refine Met.ofW (cc := cX4_sectionsThatNeedOneOf) (maxL := 4) (ret := (some .int)) (by decide) rfl ?_
  intro p e s m args below meth c s₁ B hml hv
  obtain ⟨rfl, hP, hK⟩ := hv
  have hx := B.exec
  have hb := B.bytes
  have hr := B.returns
  have hts := atoms_spec (ws := wsX4_sectionsThatNeedOneOf) B.pre
  have hown : s.vm.findClass RX4 = some m.cls := findClass_of_methodNamed B.named
  have hlocks := B.notSynchronized
  have hfl_15 := hts (.fieldLink RX4 15 "TermsFirst$NeedGraph" "needs" "[I") (List.mem_cons_of_mem _ (List.mem_append_left _ (List.mem_of_getElem? (i := 1) rfl)))
  have hfl_30 := hts (.fieldLink RX4 30 "TermsFirst$NeedGraph" "n" "I") (List.mem_cons_of_mem _ (List.mem_append_left _ (List.mem_of_getElem? (i := 0) rfl)))
  have hn_9 : va_Nw (.methodLinkNest RX4 35 yX6_with RX6) s := nw_9 hK
  have hin_RX6 : (Cond.initialized yX6_with.cls).before _ s = true := hts (.initialized RX6) (List.mem_cons_of_mem _ (List.mem_append_left _ (List.mem_of_getElem? (i := 3) rfl)))
  have hst_X6_with := hts (.static yX6_with) (List.mem_cons_of_mem _ (List.mem_append_left _ (List.mem_of_getElem? (i := 2) rfl)))
  have hiX4 : ∀ w ∈ u_ws RX4 TX4 6, w ∈ wsX4_sectionsThatNeedOneOf := fun _ h => (List.mem_cons_of_mem _ (List.mem_append_right _ h))
  have hB_4 : ∀ (fn : Nat) (x2 : Int32) (x3 : Int32), m_X4_sectionsThatNeedOneOf_4 g_n g_ne x1 fn x2 x3 = some r → ∀ ls : Array Slot, lv_has ls 4 [(0, .ref g0), (1, .int x1), (2, .int x2), (3, .int x3)] → W p l e (headSpec wsX4_sectionsThatNeedOneOf { frames := 1, cells := 0, slots := 0, locals := 21 }).room s m ([.ref g0, .int x1] : List Value).toArray below meth c s.heap [] 0 0 (MQ below (qR r) ([.ref g0, .int x1] : List Value).toArray s 0 0 (fun _ => False)) (F0 m 4 ls []) := by
    intro fn
    induction fn with
    | zero => intro x2 x3 hf; rw [m_X4_sectionsThatNeedOneOf_4] at hf; cases hf
    | succ fn ih =>
      intro x2 x3 hf ls hl
      rw [m_X4_sectionsThatNeedOneOf_4] at hf
      refine lv_iload_n hx hb dX4_sectionsThatNeedOneOf_4 rfl (lv_at hl 3 rfl) ?_
      refine lv_aload_n hx hb dX4_sectionsThatNeedOneOf_5 rfl (lv_at hl 0 rfl) ?_
      refine va_get (D := D) (ci := 4) (v := .int g_n) (C := RX4) (T := TX4) (N := 6) hx hb hts hiX4 hown hK.1 hP 0 rfl rfl 2 (by decide) hfl_30 (fun _ h9 => h9) rfl dX4_sectionsThatNeedOneOf_6 ?_
      refine lv_icmp_ge (tgt := 35) hx hb dX4_sectionsThatNeedOneOf_9 (by decide) (fun hc => ?_) (fun hc => ?_)
      · have hf := ifp hc hf
        refine lv_iload_n hx hb dX4_sectionsThatNeedOneOf_35 rfl (lv_at hl 2 rfl) ?_
        cases hf
        exact W.iret hx hb hr (fun t ht _ => ⟨rfl, ht⟩) (fun _ h => nomatch h) dX4_sectionsThatNeedOneOf_36
      · have hf := ifn hc hf
        refine lv_aload_n hx hb dX4_sectionsThatNeedOneOf_12 rfl (lv_at hl 0 rfl) ?_
        refine va_get (D := D) (ci := 4) (v := .ref g2) (C := RX4) (T := TX4) (N := 6) hx hb hts hiX4 hown hK.1 hP 0 rfl rfl 3 (by decide) hfl_15 (fun _ h9 => h9) rfl dX4_sectionsThatNeedOneOf_13 ?_
        refine lv_iload_n hx hb dX4_sectionsThatNeedOneOf_16 rfl (lv_at hl 3 rfl) ?_
        obtain ⟨hi, hf⟩ := gd_some hf
        refine va_iald hx hb hK.1 hP 2 0 rfl rfl hi dX4_sectionsThatNeedOneOf_17 ?_
        refine lv_iload_n hx hb dX4_sectionsThatNeedOneOf_18 rfl (lv_at hl 1 rfl) ?_
        refine lv_iand hx hb dX4_sectionsThatNeedOneOf_19 ?_
        refine lv_if_eq (tgt := 29) hx hb dX4_sectionsThatNeedOneOf_20 (by decide) (fun hc => ?_) (fun hc => ?_)
        · have hf := ifp hc hf
          refine lv_iinc (v := (x3 + (nI 1))) (lv' := [(3, .int (x3 + (nI 1))), (0, .ref g0), (1, .int x1), (2, .int x2)]) hx hb dX4_sectionsThatNeedOneOf_29 hl (k := 3) rfl (ii_1 _) (by decide) rfl (fun ls hl => ?_)
          refine lv_goto (tgt := 4) hx hb dX4_sectionsThatNeedOneOf_32 (by decide) ?_
          exact ih x2 (x3 + (nI 1)) hf  ls (lv_sub hl [1, 2, 3, 0] rfl)
        · have hf := ifn hc hf
          refine lv_iload_n hx hb dX4_sectionsThatNeedOneOf_23 rfl (lv_at hl 2 rfl) ?_
          refine lv_iload_n hx hb dX4_sectionsThatNeedOneOf_24 rfl (lv_at hl 3 rfl) ?_
          obtain ⟨rv1, hrv1, hf⟩ := bd hf
          refine roI (va_runSN (As := [.int x2, .int x3]) (rest := []) ⟨hx, hb, hml, hown, hts⟩ (c_X6_with l D cI cZ cM x2 x3 rv1 hrv1) ⟨va_cnB (host := RX6) 2 hts gX4_sectionsThatNeedOneOf_X6_with_n35 rfl rfl rfl hn_9 hin_RX6 hdc_X6_with ⟨Nat.le_of_ble_eq_true rfl, Nat.le_of_ble_eq_true rfl⟩, hst_X6_with, trivial⟩ (prS hK hP [] rfl) rfl rfl hl.1 rfl (lv_room (Nat.le_of_ble_eq_true rfl)) dX4_sectionsThatNeedOneOf_25 ⟨Nat.zero_le _, Nat.zero_le _⟩) ?_
          refine lv_istore_n (lv' := [(2, .int rv1), (0, .ref g0), (1, .int x1), (3, .int x3)]) hx hb dX4_sectionsThatNeedOneOf_28 rfl hl (by decide) rfl (fun ls hl => ?_)
          refine lv_iinc (v := (x3 + (nI 1))) (lv' := [(3, .int (x3 + (nI 1))), (2, .int rv1), (0, .ref g0), (1, .int x1)]) hx hb dX4_sectionsThatNeedOneOf_29 hl (k := 3) rfl (ii_1 _) (by decide) rfl (fun ls hl => ?_)
          refine lv_goto (tgt := 4) hx hb dX4_sectionsThatNeedOneOf_32 (by decide) ?_
          exact ih rv1 (x3 + (nI 1)) hf  ls (lv_sub hl [2, 3, 1, 0] rfl)
  have hl := lv_entry ([.ref g0, .int x1]) (n := 4) (Nat.le_of_ble_eq_true rfl)
  rw [lg_entry_eq]
  generalize (lg_sl ([.ref g0, .int x1]) ++ List.replicate (4 - (lg_sl ([.ref g0, .int x1])).length) Slot.unset).toArray = ls at hl ⊢
  have hl : lv_has ls 4 [(0, .ref g0), (1, .int x1)] := hl
  unfold m_X4_sectionsThatNeedOneOf at hf
  refine lv_iconst (v := (nI 0)) hx hb dX4_sectionsThatNeedOneOf_0 ic_0 ?_
  refine lv_istore_n (lv' := [(2, .int (nI 0)), (0, .ref g0), (1, .int x1)]) hx hb dX4_sectionsThatNeedOneOf_1 rfl hl (by decide) rfl (fun ls hl => ?_)
  refine lv_iconst (v := (nI 0)) hx hb dX4_sectionsThatNeedOneOf_2 ic_0 ?_
  refine lv_istore_n (lv' := [(3, .int (nI 0)), (2, .int (nI 0)), (0, .ref g0), (1, .int x1)]) hx hb dX4_sectionsThatNeedOneOf_3 rfl hl (by decide) rfl (fun ls hl => ?_)
  exact hB_4 fu (nI 0) (nI 0) hf  ls (lv_sub hl [2, 3, 1, 0] rfl)
theorem hdc_X4_stepsAround : yX4_stepsAround.cls ≠ "java/lang/invoke/MethodHandle" ∧ yX4_stepsAround.cls ≠ "java/lang/invoke/VarHandle" ∧ (parseMethodDescriptor yX4_stepsAround.desc).map (fun d => d.parameters.length) = some 1 := by decide +kernel
set_option maxHeartbeats 4000000 in
set_option maxRecDepth 100000 in
theorem c_X4_stepsAround (l : Launch) (D : va_G) (cI cZ cM : ClassId) (g0 g1 g2 g3 g4 : Nat) (sz : Nat) (g_rl : Int32) (g_n : Int32) (g_ri : Nat → Int32) (g_ne : Nat → Int32) (g_re : Nat → Int32) (g_ts : Nat → Int32) (x1 : Int32) (fu : Nat) (r : Int32) (g_ts' : Nat → Int32) (hf : m_X4_stepsAround fu g_n g_ne g_ts x1 = some (r, g_ts')) : Met l yX4_stepsAround wsX4_stepsAround ({ frames := 2, cells := 0, slots := 0, locals := 44 }) (pM D cI cZ cM sz [(g0, .inr (4, [.int g_rl, .ref g1, .int g_n, .ref g2, .ref g3, .ref g4])), (g1, .inl (cI, 10, .inl g_ri)), (g2, .inl (cI, 10, .inl g_ne)), (g3, .inl (cI, 10, .inl g_re)), (g4, .inl (cI, 11, .inl g_ts))] [.ref g0, .int x1]) (qI D r [(g0, .inr (4, [.int g_rl, .ref g1, .int g_n, .ref g2, .ref g3, .ref g4])), (g1, .inl (cI, 10, .inl g_ri)), (g2, .inl (cI, 10, .inl g_ne)), (g3, .inl (cI, 10, .inl g_re)), (g4, .inl (cI, 11, .inl g_ts'))] (va_A [(g0, .inr (4, [.int g_rl, .ref g1, .int g_n, .ref g2, .ref g3, .ref g4])), (g1, .inl (cI, 10, .inl g_ri)), (g2, .inl (cI, 10, .inl g_ne)), (g3, .inl (cI, 10, .inl g_re)), (g4, .inl (cI, 11, .inl g_ts))] sz)) 0 0 (va_A [(g0, .inr (4, [.int g_rl, .ref g1, .int g_n, .ref g2, .ref g3, .ref g4])), (g1, .inl (cI, 10, .inl g_ri)), (g2, .inl (cI, 10, .inl g_ne)), (g3, .inl (cI, 10, .inl g_re)), (g4, .inl (cI, 11, .inl g_ts))] sz) := by
  refine Met.ofW (cc := cX4_stepsAround) (maxL := 3) (ret := (some .int)) (by decide) rfl ?_
  intro p e s m args below meth c s₁ B hml hv
  obtain ⟨rfl, hsz, hP, hK, hD0⟩ := hv
  have hx := B.exec
  have hb := B.bytes
  have hr := B.returns
  have hts := atoms_spec (ws := wsX4_stepsAround) B.pre
  have hown : s.vm.findClass RX4 = some m.cls := findClass_of_methodNamed B.named
  have hlocks := B.notSynchronized
  subst hsz
  have hD := hD0.self (sz := s.heap.size)
  generalize hAe : va_A [(g0, .inr (4, [.int g_rl, .ref g1, .int g_n, .ref g2, .ref g3, .ref g4])), (g1, .inl (cI, 10, .inl g_ri)), (g2, .inl (cI, 10, .inl g_ne)), (g3, .inl (cI, 10, .inl g_re)), (g4, .inl (cI, 11, .inl g_ts))] s.heap.size = A at hD ⊢
  have hA : ∀ q : Nat, s.heap.size ≤ q → A q := fun q h => by rw [← hAe]; exact Or.inr h
  clear hAe hD0
  have hfl_21 := hts (.fieldLink RX4 21 "TermsFirst$NeedGraph" "toStart" "[I") (List.mem_cons_of_mem _ (List.mem_append_left _ (List.mem_of_getElem? (i := 0) rfl)))
  have hfl_30 := hts (.fieldLink RX4 30 "TermsFirst$NeedGraph" "n" "I") (List.mem_cons_of_mem _ (List.mem_append_left _ (List.mem_of_getElem? (i := 1) rfl)))
  have hn_10 : va_Nw (.methodLinkNest RX4 39 yX6_has RX6) s := nw_10 hK
  have hin_RX6 : (Cond.initialized yX6_has.cls).before _ s = true := hts (.initialized RX6) (List.mem_cons_of_mem _ (List.mem_append_left _ (List.mem_of_getElem? (i := 9) rfl)))
  have hst_X6_has := hts (.static yX6_has) (List.mem_cons_of_mem _ (List.mem_append_left _ (List.mem_of_getElem? (i := 11) rfl)))
  have hiX4 : ∀ w ∈ u_ws RX4 TX4 6, w ∈ wsX4_stepsAround := fun _ h => (List.mem_cons_of_mem _ (List.mem_append_right _ h))
  have hB_11 : ∀ (fn : Nat) (x2 : Int32) (g_ts : Nat → Int32), m_X4_stepsAround_11 fu g_n g_ne x1 fn g_ts x2 = some (r, g_ts') → ∀ (H : Heap) (locs : List Loc), va_P D vwCl [(g0, .inr (4, [.int g_rl, .ref g1, .int g_n, .ref g2, .ref g3, .ref g4])), (g1, .inl (cI, 10, .inl g_ri)), (g2, .inl (cI, 10, .inl g_ne)), (g3, .inl (cI, 10, .inl g_re)), (g4, .inl (cI, 11, .inl g_ts))] H → va_D A [(g0, .inr (4, [.int g_rl, .ref g1, .int g_n, .ref g2, .ref g3, .ref g4])), (g1, .inl (cI, 10, .inl g_ri)), (g2, .inl (cI, 10, .inl g_ne)), (g3, .inl (cI, 10, .inl g_re)), (g4, .inl (cI, 11, .inl g_ts))] → va_S A s.heap H locs → ∀ ls : Array Slot, lv_has ls 3 [(0, .ref g0), (1, .int x1), (2, .int x2)] → W p l e (headSpec wsX4_stepsAround { frames := 2, cells := 0, slots := 0, locals := 44 }).room s m ([.ref g0, .int x1] : List Value).toArray below meth c H locs 0 0 (MQ below (qI D r [(g0, .inr (4, [.int g_rl, .ref g1, .int g_n, .ref g2, .ref g3, .ref g4])), (g1, .inl (cI, 10, .inl g_ri)), (g2, .inl (cI, 10, .inl g_ne)), (g3, .inl (cI, 10, .inl g_re)), (g4, .inl (cI, 11, .inl g_ts'))] A) ([.ref g0, .int x1] : List Value).toArray s 0 0 A) (F0 m 11 ls []) := by
    intro fn
    induction fn with
    | zero => intro x2 g_ts hf; rw [m_X4_stepsAround_11] at hf; cases hf
    | succ fn ih =>
      intro x2 g_ts hf H locs hP hD hS ls hl
      rw [m_X4_stepsAround_11] at hf
      refine lv_iload_n hx hb dX4_stepsAround_11 rfl (lv_at hl 2 rfl) ?_
      refine lv_aload_n hx hb dX4_stepsAround_12 rfl (lv_at hl 0 rfl) ?_
      refine va_get (D := D) (ci := 4) (v := .int g_n) (C := RX4) (T := TX4) (N := 6) hx hb hts hiX4 hown hK.1 hP 0 rfl rfl 2 (by decide) hfl_30 (fun _ h9 => h9) rfl dX4_stepsAround_13 ?_
      refine lv_icmp_gt (tgt := 58) hx hb dX4_stepsAround_16 (by decide) (fun hc => ?_) (fun hc => ?_)
      · have hf := ifp hc hf
        refine lv_iconst (v := (nI 0)) hx hb dX4_stepsAround_58 ic_0 ?_
        cases hf
        exact W.iret hx hb hr (fun t ht _ => ⟨⟨rfl, by rw [ht]; exact hP, hD⟩, hS.F ht⟩) hS.2.2 dX4_stepsAround_59
      · have hf := ifn hc hf
        refine lv_aload_n hx hb dX4_stepsAround_19 rfl (lv_at hl 0 rfl) ?_
        refine va_get (D := D) (ci := 4) (v := .ref g4) (C := RX4) (T := TX4) (N := 6) hx hb hts hiX4 hown hK.1 hP 0 rfl rfl 5 (by decide) hfl_21 (fun _ h9 => h9) rfl dX4_stepsAround_20 ?_
        refine lv_iload_n hx hb dX4_stepsAround_23 rfl (lv_at hl 2 rfl) ?_
        refine lv_aload_n hx hb dX4_stepsAround_24 rfl (lv_at hl 0 rfl) ?_
        refine lv_aload_n hx hb dX4_stepsAround_25 rfl (lv_at hl 0 rfl) ?_
        refine va_get (D := D) (ci := 4) (v := .ref g4) (C := RX4) (T := TX4) (N := 6) hx hb hts hiX4 hown hK.1 hP 0 rfl rfl 5 (by decide) hfl_21 (fun _ h9 => h9) rfl dX4_stepsAround_26 ?_
        refine lv_iload_n hx hb dX4_stepsAround_29 rfl (lv_at hl 2 rfl) ?_
        refine lv_iconst (v := (nI 1)) hx hb dX4_stepsAround_30 ic_1 ?_
        refine lv_isub hx hb dX4_stepsAround_31 ?_
        obtain ⟨hi, hf⟩ := gd_some hf
        refine va_iald hx hb hK.1 hP 4 0 rfl rfl hi dX4_stepsAround_32 ?_
        obtain ⟨rv1, hrv1, hf⟩ := bd hf
        refine roI (va_runV (As := [.int (g_ts (x2 - (nI 1)).toNatClampNeg)]) (rest := [.int x2, .ref g4]) ⟨hx, hb, hml, hown, hts⟩ (c_X4_sectionsThatNeedOneOf l D cI cZ cM g0 g1 g2 g3 g4 g_rl g_n g_ri g_ne g_re g_ts (g_ts (x2 - (nI 1)).toNatClampNeg) fu rv1 hrv1) (cwV 1 hts gX4_stepsAround_X4_sectionsThatNeedOneOf rfl rfl rfl ⟨rfl, hdc_X4_sectionsThatNeedOneOf⟩ ⟨Nat.le_of_ble_eq_true rfl, Nat.le_of_ble_eq_true rfl⟩) (prV hK hP [0, 1, 2, 3, 4] rfl (ci := 4) (q0 := 0) rfl rfl) rfl rfl hl.1 rfl (lv_room (Nat.le_of_ble_eq_true rfl)) dX4_stepsAround_33 ⟨Nat.zero_le _, Nat.zero_le _⟩) ?_
        obtain ⟨hi, hf⟩ := gd_some hf
        refine va_iast hx hb hK.1 hP hD hS 4 0 rfl rfl hi dX4_stepsAround_36 (fun H locs hP hD hS => ?_)
        have hP : va_P D vwCl [(g0, .inr (4, [.int g_rl, .ref g1, .int g_n, .ref g2, .ref g3, .ref g4])), (g1, .inl (cI, 10, .inl g_ri)), (g2, .inl (cI, 10, .inl g_ne)), (g3, .inl (cI, 10, .inl g_re)), (g4, .inl (cI, 11, .inl (upd g_ts x2.toNatClampNeg rv1)))] H := hP
        have hD : va_D A [(g0, .inr (4, [.int g_rl, .ref g1, .int g_n, .ref g2, .ref g3, .ref g4])), (g1, .inl (cI, 10, .inl g_ri)), (g2, .inl (cI, 10, .inl g_ne)), (g3, .inl (cI, 10, .inl g_re)), (g4, .inl (cI, 11, .inl (upd g_ts x2.toNatClampNeg rv1)))] := hD
        refine lv_aload_n hx hb dX4_stepsAround_37 rfl (lv_at hl 0 rfl) ?_
        refine va_get (D := D) (ci := 4) (v := .ref g4) (C := RX4) (T := TX4) (N := 6) hx hb hts hiX4 hown hK.1 hP 0 rfl rfl 5 (by decide) hfl_21 (fun _ h9 => h9) rfl dX4_stepsAround_38 ?_
        refine lv_iload_n hx hb dX4_stepsAround_41 rfl (lv_at hl 2 rfl) ?_
        obtain ⟨hi, hf⟩ := gd_some hf
        refine va_iald hx hb hK.1 hP 4 0 rfl rfl hi dX4_stepsAround_42 ?_
        refine lv_iload_n hx hb dX4_stepsAround_43 rfl (lv_at hl 1 rfl) ?_
        obtain ⟨rv2, hrv2, hf⟩ := bd hf
        refine roI (va_runSN (As := [.int ((upd g_ts x2.toNatClampNeg rv1) x2.toNatClampNeg), .int x1]) (rest := []) ⟨hx, hb, hml, hown, hts⟩ (c_X6_has l D cI cZ cM ((upd g_ts x2.toNatClampNeg rv1) x2.toNatClampNeg) x1 rv2 hrv2) ⟨va_cnB (host := RX6) 2 hts gX4_stepsAround_X6_has_n39 rfl rfl rfl hn_10 hin_RX6 hdc_X6_has ⟨Nat.le_of_ble_eq_true rfl, Nat.le_of_ble_eq_true rfl⟩, hst_X6_has, trivial⟩ (prS hK hP [] rfl) rfl rfl hl.1 rfl (lv_room (Nat.le_of_ble_eq_true rfl)) dX4_stepsAround_44 ⟨Nat.zero_le _, Nat.zero_le _⟩) ?_
        refine lv_if_eq (tgt := 52) hx hb dX4_stepsAround_47 (by decide) (fun hc => ?_) (fun hc => ?_)
        · have hf := ifp hc hf
          refine lv_iinc (v := (x2 + (nI 1))) (lv' := [(2, .int (x2 + (nI 1))), (0, .ref g0), (1, .int x1)]) hx hb dX4_stepsAround_52 hl (k := 2) rfl (ii_1 _) (by decide) rfl (fun ls hl => ?_)
          refine lv_goto (tgt := 11) hx hb dX4_stepsAround_55 (by decide) ?_
          exact ih (x2 + (nI 1)) (upd g_ts x2.toNatClampNeg rv1) hf _ _ hP hD hS ls (lv_sub hl [1, 2, 0] rfl)
        · have hf := ifn hc hf
          refine lv_iload_n hx hb dX4_stepsAround_50 rfl (lv_at hl 2 rfl) ?_
          cases hf
          exact W.iret hx hb hr (fun t ht _ => ⟨⟨rfl, by rw [ht]; exact hP, hD⟩, hS.F ht⟩) hS.2.2 dX4_stepsAround_51
  have hl := lv_entry ([.ref g0, .int x1]) (n := 3) (Nat.le_of_ble_eq_true rfl)
  rw [lg_entry_eq]
  generalize (lg_sl ([.ref g0, .int x1]) ++ List.replicate (3 - (lg_sl ([.ref g0, .int x1])).length) Slot.unset).toArray = ls at hl ⊢
  have hl : lv_has ls 3 [(0, .ref g0), (1, .int x1)] := hl
  have hS : va_S A s.heap s.heap [] := va_S.rf
  unfold m_X4_stepsAround at hf
  refine lv_aload_n hx hb dX4_stepsAround_0 rfl (lv_at hl 0 rfl) ?_
  refine va_get (D := D) (ci := 4) (v := .ref g4) (C := RX4) (T := TX4) (N := 6) hx hb hts hiX4 hown hK.1 hP 0 rfl rfl 5 (by decide) hfl_21 (fun _ h9 => h9) rfl dX4_stepsAround_1 ?_
  refine lv_iconst (v := (nI 0)) hx hb dX4_stepsAround_4 ic_0 ?_
  refine lv_iconst (v := (nI 1)) hx hb dX4_stepsAround_5 ic_1 ?_
  refine lv_iload_n hx hb dX4_stepsAround_6 rfl (lv_at hl 1 rfl) ?_
  refine lv_ishl hx hb dX4_stepsAround_7 ?_
  obtain ⟨hi, hf⟩ := gd_some hf
  refine va_iast hx hb hK.1 hP hD hS 4 0 rfl rfl hi dX4_stepsAround_8 (fun H locs hP hD hS => ?_)
  have hP : va_P D vwCl [(g0, .inr (4, [.int g_rl, .ref g1, .int g_n, .ref g2, .ref g3, .ref g4])), (g1, .inl (cI, 10, .inl g_ri)), (g2, .inl (cI, 10, .inl g_ne)), (g3, .inl (cI, 10, .inl g_re)), (g4, .inl (cI, 11, .inl (upd g_ts (nI 0).toNatClampNeg ((nI 1) <<< (x1 &&& 31)))))] H := hP
  have hD : va_D A [(g0, .inr (4, [.int g_rl, .ref g1, .int g_n, .ref g2, .ref g3, .ref g4])), (g1, .inl (cI, 10, .inl g_ri)), (g2, .inl (cI, 10, .inl g_ne)), (g3, .inl (cI, 10, .inl g_re)), (g4, .inl (cI, 11, .inl (upd g_ts (nI 0).toNatClampNeg ((nI 1) <<< (x1 &&& 31)))))] := hD
  refine lv_iconst (v := (nI 1)) hx hb dX4_stepsAround_9 ic_1 ?_
  refine lv_istore_n (lv' := [(2, .int (nI 1)), (0, .ref g0), (1, .int x1)]) hx hb dX4_stepsAround_10 rfl hl (by decide) rfl (fun ls hl => ?_)
  exact hB_11 fu (nI 1) (upd g_ts (nI 0).toNatClampNeg ((nI 1) <<< (x1 &&& 31))) hf _ _ hP hD hS ls (lv_sub hl [1, 2, 0] rfl)
theorem hdc_X4_firstOf : yX4_firstOf.cls ≠ "java/lang/invoke/MethodHandle" ∧ yX4_firstOf.cls ≠ "java/lang/invoke/VarHandle" ∧ (parseMethodDescriptor yX4_firstOf.desc).map (fun d => d.parameters.length) = some 1 := by decide +kernel
set_option maxHeartbeats 4000000 in
set_option maxRecDepth 100000 in
theorem c_X4_firstOf (l : Launch) (D : va_G) (cI cZ cM : ClassId) (g0 g1 g2 g3 g4 : Nat) (g_rl : Int32) (g_n : Int32) (g_ri : Nat → Int32) (g_ne : Nat → Int32) (g_re : Nat → Int32) (g_ts : Nat → Int32) (x1 : Int32) (fu : Nat) (r : Int32) (hf : m_X4_firstOf fu g_n x1 = some r) : Met l yX4_firstOf wsX4_firstOf ({ frames := 1, cells := 0, slots := 0, locals := 21 }) (pR D cI cZ cM [(g0, .inr (4, [.int g_rl, .ref g1, .int g_n, .ref g2, .ref g3, .ref g4])), (g1, .inl (cI, 10, .inl g_ri)), (g2, .inl (cI, 10, .inl g_ne)), (g3, .inl (cI, 10, .inl g_re)), (g4, .inl (cI, 11, .inl g_ts))] [.ref g0, .int x1]) (qR r) 0 0 (fun _ => False) := by
  refine Met.ofW (cc := cX4_firstOf) (maxL := 3) (ret := (some .int)) (by decide) rfl ?_
  intro p e s m args below meth c s₁ B hml hv
  obtain ⟨rfl, hP, hK⟩ := hv
  have hx := B.exec
  have hb := B.bytes
  have hr := B.returns
  have hts := atoms_spec (ws := wsX4_firstOf) B.pre
  have hown : s.vm.findClass RX4 = some m.cls := findClass_of_methodNamed B.named
  have hlocks := B.notSynchronized
  have hfl_30 := hts (.fieldLink RX4 30 "TermsFirst$NeedGraph" "n" "I") (List.mem_cons_of_mem _ (List.mem_append_left _ (List.mem_of_getElem? (i := 0) rfl)))
  have hn_10 : va_Nw (.methodLinkNest RX4 39 yX6_has RX6) s := nw_10 hK
  have hin_RX6 : (Cond.initialized yX6_has.cls).before _ s = true := hts (.initialized RX6) (List.mem_cons_of_mem _ (List.mem_append_left _ (List.mem_of_getElem? (i := 2) rfl)))
  have hst_X6_has := hts (.static yX6_has) (List.mem_cons_of_mem _ (List.mem_append_left _ (List.mem_of_getElem? (i := 1) rfl)))
  have hiX4 : ∀ w ∈ u_ws RX4 TX4 6, w ∈ wsX4_firstOf := fun _ h => (List.mem_cons_of_mem _ (List.mem_append_right _ h))
  have hB_2 : ∀ (fn : Nat) (x2 : Int32), m_X4_firstOf_2 g_n x1 fn x2 = some r → ∀ ls : Array Slot, lv_has ls 3 [(0, .ref g0), (1, .int x1), (2, .int x2)] → W p l e (headSpec wsX4_firstOf { frames := 1, cells := 0, slots := 0, locals := 21 }).room s m ([.ref g0, .int x1] : List Value).toArray below meth c s.heap [] 0 0 (MQ below (qR r) ([.ref g0, .int x1] : List Value).toArray s 0 0 (fun _ => False)) (F0 m 2 ls []) := by
    intro fn
    induction fn with
    | zero => intro x2 hf; rw [m_X4_firstOf_2] at hf; cases hf
    | succ fn ih =>
      intro x2 hf ls hl
      rw [m_X4_firstOf_2] at hf
      refine lv_iload_n hx hb dX4_firstOf_2 rfl (lv_at hl 2 rfl) ?_
      refine lv_aload_n hx hb dX4_firstOf_3 rfl (lv_at hl 0 rfl) ?_
      refine va_get (D := D) (ci := 4) (v := .int g_n) (C := RX4) (T := TX4) (N := 6) hx hb hts hiX4 hown hK.1 hP 0 rfl rfl 2 (by decide) hfl_30 (fun _ h9 => h9) rfl dX4_firstOf_4 ?_
      refine lv_icmp_ge (tgt := 26) hx hb dX4_firstOf_7 (by decide) (fun hc => ?_) (fun hc => ?_)
      · have hf := ifp hc hf
        refine lv_iconst (v := (nI 0)) hx hb dX4_firstOf_26 ic_0 ?_
        cases hf
        exact W.iret hx hb hr (fun t ht _ => ⟨rfl, ht⟩) (fun _ h => nomatch h) dX4_firstOf_27
      · have hf := ifn hc hf
        refine lv_iload_n hx hb dX4_firstOf_10 rfl (lv_at hl 1 rfl) ?_
        refine lv_iload_n hx hb dX4_firstOf_11 rfl (lv_at hl 2 rfl) ?_
        obtain ⟨rv1, hrv1, hf⟩ := bd hf
        refine roI (va_runSN (As := [.int x1, .int x2]) (rest := []) ⟨hx, hb, hml, hown, hts⟩ (c_X6_has l D cI cZ cM x1 x2 rv1 hrv1) ⟨va_cnB (host := RX6) 2 hts gX4_firstOf_X6_has_n39 rfl rfl rfl hn_10 hin_RX6 hdc_X6_has ⟨Nat.le_of_ble_eq_true rfl, Nat.le_of_ble_eq_true rfl⟩, hst_X6_has, trivial⟩ (prS hK hP [] rfl) rfl rfl hl.1 rfl (lv_room (Nat.le_of_ble_eq_true rfl)) dX4_firstOf_12 ⟨Nat.zero_le _, Nat.zero_le _⟩) ?_
        refine lv_if_eq (tgt := 20) hx hb dX4_firstOf_15 (by decide) (fun hc => ?_) (fun hc => ?_)
        · have hf := ifp hc hf
          refine lv_iinc (v := (x2 + (nI 1))) (lv' := [(2, .int (x2 + (nI 1))), (0, .ref g0), (1, .int x1)]) hx hb dX4_firstOf_20 hl (k := 2) rfl (ii_1 _) (by decide) rfl (fun ls hl => ?_)
          refine lv_goto (tgt := 2) hx hb dX4_firstOf_23 (by decide) ?_
          exact ih (x2 + (nI 1)) hf  ls (lv_sub hl [1, 2, 0] rfl)
        · have hf := ifn hc hf
          refine lv_iload_n hx hb dX4_firstOf_18 rfl (lv_at hl 2 rfl) ?_
          cases hf
          exact W.iret hx hb hr (fun t ht _ => ⟨rfl, ht⟩) (fun _ h => nomatch h) dX4_firstOf_19
  have hl := lv_entry ([.ref g0, .int x1]) (n := 3) (Nat.le_of_ble_eq_true rfl)
  rw [lg_entry_eq]
  generalize (lg_sl ([.ref g0, .int x1]) ++ List.replicate (3 - (lg_sl ([.ref g0, .int x1])).length) Slot.unset).toArray = ls at hl ⊢
  have hl : lv_has ls 3 [(0, .ref g0), (1, .int x1)] := hl
  unfold m_X4_firstOf at hf
  refine lv_iconst (v := (nI 0)) hx hb dX4_firstOf_0 ic_0 ?_
  refine lv_istore_n (lv' := [(2, .int (nI 0)), (0, .ref g0), (1, .int x1)]) hx hb dX4_firstOf_1 rfl hl (by decide) rfl (fun ls hl => ?_)
  exact hB_2 fu (nI 0) hf  ls (lv_sub hl [1, 2, 0] rfl)
theorem hdc_X4_writeRing : yX4_writeRing.cls ≠ "java/lang/invoke/MethodHandle" ∧ yX4_writeRing.cls ≠ "java/lang/invoke/VarHandle" ∧ (parseMethodDescriptor yX4_writeRing.desc).map (fun d => d.parameters.length) = some 1 := by decide +kernel
set_option maxHeartbeats 4000000 in
set_option maxRecDepth 100000 in
theorem c_X4_writeRing (l : Launch) (D : va_G) (cI cZ cM : ClassId) (g0 g1 g2 g3 g4 : Nat) (sz : Nat) (g_rl : Int32) (g_n : Int32) (g_ri : Nat → Int32) (g_ne : Nat → Int32) (g_re : Nat → Int32) (g_ts : Nat → Int32) (x1 : Int32) (fu : Nat) (g_ri' : Nat → Int32) (g_ts' : Nat → Int32) (hf : m_X4_writeRing fu g_rl g_n g_ri g_ne g_ts x1 = some (g_ri', g_ts')) : Met l yX4_writeRing wsX4_writeRing ({ frames := 3, cells := 0, slots := 0, locals := 66 }) (pM D cI cZ cM sz [(g0, .inr (4, [.int g_rl, .ref g1, .int g_n, .ref g2, .ref g3, .ref g4])), (g1, .inl (cI, 10, .inl g_ri)), (g2, .inl (cI, 10, .inl g_ne)), (g3, .inl (cI, 10, .inl g_re)), (g4, .inl (cI, 11, .inl g_ts))] [.ref g0, .int x1]) (qV D [(g0, .inr (4, [.int g_rl, .ref g1, .int g_n, .ref g2, .ref g3, .ref g4])), (g1, .inl (cI, 10, .inl g_ri')), (g2, .inl (cI, 10, .inl g_ne)), (g3, .inl (cI, 10, .inl g_re)), (g4, .inl (cI, 11, .inl g_ts'))] (va_A [(g0, .inr (4, [.int g_rl, .ref g1, .int g_n, .ref g2, .ref g3, .ref g4])), (g1, .inl (cI, 10, .inl g_ri)), (g2, .inl (cI, 10, .inl g_ne)), (g3, .inl (cI, 10, .inl g_re)), (g4, .inl (cI, 11, .inl g_ts))] sz)) 0 0 (va_A [(g0, .inr (4, [.int g_rl, .ref g1, .int g_n, .ref g2, .ref g3, .ref g4])), (g1, .inl (cI, 10, .inl g_ri)), (g2, .inl (cI, 10, .inl g_ne)), (g3, .inl (cI, 10, .inl g_re)), (g4, .inl (cI, 11, .inl g_ts))] sz) := by
  refine Met.ofW (cc := cX4_writeRing) (maxL := 3) (ret := none) (by decide) rfl ?_
  intro p e s m args below meth c s₁ B hml hv
  obtain ⟨rfl, hsz, hP, hK, hD0⟩ := hv
  have hx := B.exec
  have hb := B.bytes
  have hr := B.returns
  have hts := atoms_spec (ws := wsX4_writeRing) B.pre
  have hown : s.vm.findClass RX4 = some m.cls := findClass_of_methodNamed B.named
  have hlocks := B.notSynchronized
  subst hsz
  have hD := hD0.self (sz := s.heap.size)
  generalize hAe : va_A [(g0, .inr (4, [.int g_rl, .ref g1, .int g_n, .ref g2, .ref g3, .ref g4])), (g1, .inl (cI, 10, .inl g_ri)), (g2, .inl (cI, 10, .inl g_ne)), (g3, .inl (cI, 10, .inl g_re)), (g4, .inl (cI, 11, .inl g_ts))] s.heap.size = A at hD ⊢
  have hA : ∀ q : Nat, s.heap.size ≤ q → A q := fun q h => by rw [← hAe]; exact Or.inr h
  clear hAe hD0
  have hfl_9 := hts (.fieldLink RX4 9 "TermsFirst$NeedGraph" "ring" "[I") (List.mem_cons_of_mem _ (List.mem_append_left _ (List.mem_of_getElem? (i := 0) rfl)))
  have hfl_15 := hts (.fieldLink RX4 15 "TermsFirst$NeedGraph" "needs" "[I") (List.mem_cons_of_mem _ (List.mem_append_left _ (List.mem_of_getElem? (i := 2) rfl)))
  have hfl_21 := hts (.fieldLink RX4 21 "TermsFirst$NeedGraph" "toStart" "[I") (List.mem_cons_of_mem _ (List.mem_append_left _ (List.mem_of_getElem? (i := 3) rfl)))
  have hfl_51 := hts (.fieldLink RX4 51 "TermsFirst$NeedGraph" "ringLength" "I") (List.mem_cons_of_mem _ (List.mem_append_left _ (List.mem_of_getElem? (i := 1) rfl)))
  have hiX4 : ∀ w ∈ u_ws RX4 TX4 6, w ∈ wsX4_writeRing := fun _ h => (List.mem_cons_of_mem _ (List.mem_append_right _ h))
  have hB_15 : ∀ (g_ts : Nat → Int32) (fn : Nat) (x2 : Int32) (g_ri : Nat → Int32), m_X4_writeRing_15 fu g_rl g_n g_ne g_ts fn g_ri x2 = some (g_ri', g_ts') → ∀ (H : Heap) (locs : List Loc), va_P D vwCl [(g0, .inr (4, [.int g_rl, .ref g1, .int g_n, .ref g2, .ref g3, .ref g4])), (g1, .inl (cI, 10, .inl g_ri)), (g2, .inl (cI, 10, .inl g_ne)), (g3, .inl (cI, 10, .inl g_re)), (g4, .inl (cI, 11, .inl g_ts))] H → va_D A [(g0, .inr (4, [.int g_rl, .ref g1, .int g_n, .ref g2, .ref g3, .ref g4])), (g1, .inl (cI, 10, .inl g_ri)), (g2, .inl (cI, 10, .inl g_ne)), (g3, .inl (cI, 10, .inl g_re)), (g4, .inl (cI, 11, .inl g_ts))] → va_S A s.heap H locs → ∀ ls : Array Slot, lv_has ls 3 [(0, .ref g0), (2, .int x2)] → W p l e (headSpec wsX4_writeRing { frames := 3, cells := 0, slots := 0, locals := 66 }).room s m ([.ref g0, .int x1] : List Value).toArray below meth c H locs 0 0 (MQ below (qV D [(g0, .inr (4, [.int g_rl, .ref g1, .int g_n, .ref g2, .ref g3, .ref g4])), (g1, .inl (cI, 10, .inl g_ri')), (g2, .inl (cI, 10, .inl g_ne)), (g3, .inl (cI, 10, .inl g_re)), (g4, .inl (cI, 11, .inl g_ts'))] A) ([.ref g0, .int x1] : List Value).toArray s 0 0 A) (F0 m 15 ls []) := by
    intro g_ts fn
    induction fn with
    | zero => intro x2 g_ri hf; rw [m_X4_writeRing_15] at hf; cases hf
    | succ fn ih =>
      intro x2 g_ri hf H locs hP hD hS ls hl
      rw [m_X4_writeRing_15] at hf
      refine lv_iload_n hx hb dX4_writeRing_15 rfl (lv_at hl 1 rfl) ?_
      refine lv_aload_n hx hb dX4_writeRing_16 rfl (lv_at hl 0 rfl) ?_
      refine va_get (D := D) (ci := 4) (v := .int g_rl) (C := RX4) (T := TX4) (N := 6) hx hb hts hiX4 hown hK.1 hP 0 rfl rfl 0 (by decide) hfl_51 (fun _ h9 => h9) rfl dX4_writeRing_17 ?_
      refine lv_icmp_ge (tgt := 64) hx hb dX4_writeRing_20 (by decide) (fun hc => ?_) (fun hc => ?_)
      · have hf := ifp hc hf
        cases hf
        exact W.vret hx hb hr (fun t ht _ => ⟨⟨rfl, by rw [ht]; exact hP, hD⟩, hS.F ht⟩) hS.2.2 dX4_writeRing_64
      · have hf := ifn hc hf
        refine lv_aload_n hx hb dX4_writeRing_23 rfl (lv_at hl 0 rfl) ?_
        refine va_get (D := D) (ci := 4) (v := .ref g1) (C := RX4) (T := TX4) (N := 6) hx hb hts hiX4 hown hK.1 hP 0 rfl rfl 1 (by decide) hfl_9 (fun _ h9 => h9) rfl dX4_writeRing_24 ?_
        refine lv_iload_n hx hb dX4_writeRing_27 rfl (lv_at hl 1 rfl) ?_
        refine lv_aload_n hx hb dX4_writeRing_28 rfl (lv_at hl 0 rfl) ?_
        refine lv_aload_n hx hb dX4_writeRing_29 rfl (lv_at hl 0 rfl) ?_
        refine va_get (D := D) (ci := 4) (v := .ref g2) (C := RX4) (T := TX4) (N := 6) hx hb hts hiX4 hown hK.1 hP 0 rfl rfl 3 (by decide) hfl_15 (fun _ h9 => h9) rfl dX4_writeRing_30 ?_
        refine lv_aload_n hx hb dX4_writeRing_33 rfl (lv_at hl 0 rfl) ?_
        refine va_get (D := D) (ci := 4) (v := .ref g1) (C := RX4) (T := TX4) (N := 6) hx hb hts hiX4 hown hK.1 hP 0 rfl rfl 1 (by decide) hfl_9 (fun _ h9 => h9) rfl dX4_writeRing_34 ?_
        refine lv_iload_n hx hb dX4_writeRing_37 rfl (lv_at hl 1 rfl) ?_
        refine lv_iconst (v := (nI 1)) hx hb dX4_writeRing_38 ic_1 ?_
        refine lv_isub hx hb dX4_writeRing_39 ?_
        obtain ⟨hi, hf⟩ := gd_some hf
        refine va_iald hx hb hK.1 hP 1 0 rfl rfl hi dX4_writeRing_40 ?_
        obtain ⟨hi, hf⟩ := gd_some hf
        refine va_iald hx hb hK.1 hP 2 0 rfl rfl hi dX4_writeRing_41 ?_
        refine lv_aload_n hx hb dX4_writeRing_42 rfl (lv_at hl 0 rfl) ?_
        refine va_get (D := D) (ci := 4) (v := .ref g4) (C := RX4) (T := TX4) (N := 6) hx hb hts hiX4 hown hK.1 hP 0 rfl rfl 5 (by decide) hfl_21 (fun _ h9 => h9) rfl dX4_writeRing_43 ?_
        refine lv_aload_n hx hb dX4_writeRing_46 rfl (lv_at hl 0 rfl) ?_
        refine va_get (D := D) (ci := 4) (v := .int g_rl) (C := RX4) (T := TX4) (N := 6) hx hb hts hiX4 hown hK.1 hP 0 rfl rfl 0 (by decide) hfl_51 (fun _ h9 => h9) rfl dX4_writeRing_47 ?_
        refine lv_iload_n hx hb dX4_writeRing_50 rfl (lv_at hl 1 rfl) ?_
        refine lv_isub hx hb dX4_writeRing_51 ?_
        obtain ⟨hi, hf⟩ := gd_some hf
        refine va_iald hx hb hK.1 hP 4 0 rfl rfl hi dX4_writeRing_52 ?_
        refine lv_iand hx hb dX4_writeRing_53 ?_
        obtain ⟨rv2, hrv2, hf⟩ := bd hf
        refine roI (va_runV (As := [.int ((g_ne (g_ri (x2 - (nI 1)).toNatClampNeg).toNatClampNeg) &&& (g_ts (g_rl - x2).toNatClampNeg))]) (rest := [.int x2, .ref g1]) ⟨hx, hb, hml, hown, hts⟩ (c_X4_firstOf l D cI cZ cM g0 g1 g2 g3 g4 g_rl g_n g_ri g_ne g_re g_ts ((g_ne (g_ri (x2 - (nI 1)).toNatClampNeg).toNatClampNeg) &&& (g_ts (g_rl - x2).toNatClampNeg)) fu rv2 hrv2) (cwV 1 hts gX4_writeRing_X4_firstOf rfl rfl rfl ⟨rfl, hdc_X4_firstOf⟩ ⟨Nat.le_of_ble_eq_true rfl, Nat.le_of_ble_eq_true rfl⟩) (prV hK hP [0, 1, 2, 3, 4] rfl (ci := 4) (q0 := 0) rfl rfl) rfl rfl hl.1 rfl (lv_room (Nat.le_of_ble_eq_true rfl)) dX4_writeRing_54 ⟨Nat.zero_le _, Nat.zero_le _⟩) ?_
        obtain ⟨hi, hf⟩ := gd_some hf
        refine va_iast hx hb hK.1 hP hD hS 1 0 rfl rfl hi dX4_writeRing_57 (fun H locs hP hD hS => ?_)
        have hP : va_P D vwCl [(g0, .inr (4, [.int g_rl, .ref g1, .int g_n, .ref g2, .ref g3, .ref g4])), (g1, .inl (cI, 10, .inl (upd g_ri x2.toNatClampNeg rv2))), (g2, .inl (cI, 10, .inl g_ne)), (g3, .inl (cI, 10, .inl g_re)), (g4, .inl (cI, 11, .inl g_ts))] H := hP
        have hD : va_D A [(g0, .inr (4, [.int g_rl, .ref g1, .int g_n, .ref g2, .ref g3, .ref g4])), (g1, .inl (cI, 10, .inl (upd g_ri x2.toNatClampNeg rv2))), (g2, .inl (cI, 10, .inl g_ne)), (g3, .inl (cI, 10, .inl g_re)), (g4, .inl (cI, 11, .inl g_ts))] := hD
        refine lv_iinc (v := (x2 + (nI 1))) (lv' := [(2, .int (x2 + (nI 1))), (0, .ref g0)]) hx hb dX4_writeRing_58 hl (k := 1) rfl (ii_1 _) (by decide) rfl (fun ls hl => ?_)
        refine lv_goto (tgt := 15) hx hb dX4_writeRing_61 (by decide) ?_
        exact ih (x2 + (nI 1)) (upd g_ri x2.toNatClampNeg rv2) hf _ _ hP hD hS ls (lv_sub hl [1, 0] rfl)
  have hl := lv_entry ([.ref g0, .int x1]) (n := 3) (Nat.le_of_ble_eq_true rfl)
  rw [lg_entry_eq]
  generalize (lg_sl ([.ref g0, .int x1]) ++ List.replicate (3 - (lg_sl ([.ref g0, .int x1])).length) Slot.unset).toArray = ls at hl ⊢
  have hl : lv_has ls 3 [(0, .ref g0), (1, .int x1)] := hl
  have hS : va_S A s.heap s.heap [] := va_S.rf
  unfold m_X4_writeRing at hf
  refine lv_aload_n hx hb dX4_writeRing_0 rfl (lv_at hl 0 rfl) ?_
  refine lv_iload_n hx hb dX4_writeRing_1 rfl (lv_at hl 1 rfl) ?_
  obtain ⟨rv1, hrv1, hf⟩ := bd hf
  refine muI0 (wr := []) (va_runV (As := [.int x1]) (rest := []) ⟨hx, hb, hml, hown, hts⟩ (c_X4_stepsAround l D cI cZ cM g0 g1 g2 g3 g4 _ g_rl g_n g_ri g_ne g_re g_ts x1 fu rv1.1 rv1.2 hrv1) (cwV 1 hts gX4_writeRing_X4_stepsAround rfl rfl rfl ⟨rfl, hdc_X4_stepsAround⟩ ⟨Nat.le_of_ble_eq_true rfl, Nat.le_of_ble_eq_true rfl⟩) (pmV hK hP hD [0, 1, 2, 3, 4] (by decide) rfl rfl (ci := 4) (q0 := 0) rfl rfl) rfl rfl hl.1 rfl (lv_room (Nat.le_of_ble_eq_true rfl)) dX4_writeRing_2 ⟨Nat.zero_le _, Nat.zero_le _⟩) hP hD hS hA [0, 1, 2, 3, 4] [] rfl rfl (by decide) (by decide) (fun H locs hP hD hS => ?_)
  have hP : va_P D vwCl [(g0, .inr (4, [.int g_rl, .ref g1, .int g_n, .ref g2, .ref g3, .ref g4])), (g1, .inl (cI, 10, .inl g_ri)), (g2, .inl (cI, 10, .inl g_ne)), (g3, .inl (cI, 10, .inl g_re)), (g4, .inl (cI, 11, .inl rv1.2))] H := hP
  have hD : va_D A [(g0, .inr (4, [.int g_rl, .ref g1, .int g_n, .ref g2, .ref g3, .ref g4])), (g1, .inl (cI, 10, .inl g_ri)), (g2, .inl (cI, 10, .inl g_ne)), (g3, .inl (cI, 10, .inl g_re)), (g4, .inl (cI, 11, .inl rv1.2))] := hD
  refine lv_pop hx hb dX4_writeRing_5 rfl ?_
  refine lv_aload_n hx hb dX4_writeRing_6 rfl (lv_at hl 0 rfl) ?_
  refine va_get (D := D) (ci := 4) (v := .ref g1) (C := RX4) (T := TX4) (N := 6) hx hb hts hiX4 hown hK.1 hP 0 rfl rfl 1 (by decide) hfl_9 (fun _ h9 => h9) rfl dX4_writeRing_7 ?_
  refine lv_iconst (v := (nI 0)) hx hb dX4_writeRing_10 ic_0 ?_
  refine lv_iload_n hx hb dX4_writeRing_11 rfl (lv_at hl 1 rfl) ?_
  obtain ⟨hi, hf⟩ := gd_some hf
  refine va_iast hx hb hK.1 hP hD hS 1 0 rfl rfl hi dX4_writeRing_12 (fun H locs hP hD hS => ?_)
  have hP : va_P D vwCl [(g0, .inr (4, [.int g_rl, .ref g1, .int g_n, .ref g2, .ref g3, .ref g4])), (g1, .inl (cI, 10, .inl (upd g_ri (nI 0).toNatClampNeg x1))), (g2, .inl (cI, 10, .inl g_ne)), (g3, .inl (cI, 10, .inl g_re)), (g4, .inl (cI, 11, .inl rv1.2))] H := hP
  have hD : va_D A [(g0, .inr (4, [.int g_rl, .ref g1, .int g_n, .ref g2, .ref g3, .ref g4])), (g1, .inl (cI, 10, .inl (upd g_ri (nI 0).toNatClampNeg x1))), (g2, .inl (cI, 10, .inl g_ne)), (g3, .inl (cI, 10, .inl g_re)), (g4, .inl (cI, 11, .inl rv1.2))] := hD
  refine lv_iconst (v := (nI 1)) hx hb dX4_writeRing_13 ic_1 ?_
  refine lv_istore_n (lv' := [(2, .int (nI 1)), (0, .ref g0), (1, .int x1)]) hx hb dX4_writeRing_14 rfl hl (by decide) rfl (fun ls hl => ?_)
  exact hB_15 rv1.2 fu (nI 1) (upd g_ri (nI 0).toNatClampNeg x1) hf _ _ hP hD hS ls (lv_sub hl [1, 0] rfl)
theorem hdc_X4_findRing : yX4_findRing.cls ≠ "java/lang/invoke/MethodHandle" ∧ yX4_findRing.cls ≠ "java/lang/invoke/VarHandle" ∧ (parseMethodDescriptor yX4_findRing.desc).map (fun d => d.parameters.length) = some 0 := by decide +kernel
set_option maxHeartbeats 4000000 in
set_option maxRecDepth 100000 in
theorem c_X4_findRing (l : Launch) (D : va_G) (cI cZ cM : ClassId) (g0 g1 g2 g3 g4 : Nat) (sz : Nat) (g_rl : Int32) (g_n : Int32) (g_ri : Nat → Int32) (g_ne : Nat → Int32) (g_re : Nat → Int32) (g_ts : Nat → Int32) (fu : Nat) (g_rl' : Int32) (g_ri' : Nat → Int32) (g_ts' : Nat → Int32) (hf : m_X4_findRing fu g_n g_ri g_ne g_ts = some (g_rl', g_ri', g_ts')) : Met l yX4_findRing wsX4_findRing ({ frames := 4, cells := 0, slots := 0, locals := 88 }) (pM D cI cZ cM sz [(g0, .inr (4, [.int g_rl, .ref g1, .int g_n, .ref g2, .ref g3, .ref g4])), (g1, .inl (cI, 10, .inl g_ri)), (g2, .inl (cI, 10, .inl g_ne)), (g3, .inl (cI, 10, .inl g_re)), (g4, .inl (cI, 11, .inl g_ts))] [.ref g0]) (qV D [(g0, .inr (4, [.int g_rl', .ref g1, .int g_n, .ref g2, .ref g3, .ref g4])), (g1, .inl (cI, 10, .inl g_ri')), (g2, .inl (cI, 10, .inl g_ne)), (g3, .inl (cI, 10, .inl g_re)), (g4, .inl (cI, 11, .inl g_ts'))] (va_A [(g0, .inr (4, [.int g_rl, .ref g1, .int g_n, .ref g2, .ref g3, .ref g4])), (g1, .inl (cI, 10, .inl g_ri)), (g2, .inl (cI, 10, .inl g_ne)), (g3, .inl (cI, 10, .inl g_re)), (g4, .inl (cI, 11, .inl g_ts))] sz)) 0 0 (va_A [(g0, .inr (4, [.int g_rl, .ref g1, .int g_n, .ref g2, .ref g3, .ref g4])), (g1, .inl (cI, 10, .inl g_ri)), (g2, .inl (cI, 10, .inl g_ne)), (g3, .inl (cI, 10, .inl g_re)), (g4, .inl (cI, 11, .inl g_ts))] sz) := by
  refine Met.ofW (cc := cX4_findRing) (maxL := 4) (ret := none) (by decide) rfl ?_
  intro p e s m args below meth c s₁ B hml hv
  obtain ⟨rfl, hsz, hP, hK, hD0⟩ := hv
  have hx := B.exec
  have hb := B.bytes
  have hr := B.returns
  have hts := atoms_spec (ws := wsX4_findRing) B.pre
  have hown : s.vm.findClass RX4 = some m.cls := findClass_of_methodNamed B.named
  have hlocks := B.notSynchronized
  subst hsz
  have hD := hD0.self (sz := s.heap.size)
  generalize hAe : va_A [(g0, .inr (4, [.int g_rl, .ref g1, .int g_n, .ref g2, .ref g3, .ref g4])), (g1, .inl (cI, 10, .inl g_ri)), (g2, .inl (cI, 10, .inl g_ne)), (g3, .inl (cI, 10, .inl g_re)), (g4, .inl (cI, 11, .inl g_ts))] s.heap.size = A at hD ⊢
  have hA : ∀ q : Nat, s.heap.size ≤ q → A q := fun q h => by rw [← hAe]; exact Or.inr h
  clear hAe hD0
  have hfl_30 := hts (.fieldLink RX4 30 "TermsFirst$NeedGraph" "n" "I") (List.mem_cons_of_mem _ (List.mem_append_left _ (List.mem_append_left _ (List.mem_of_getElem? (i := 1) rfl))))
  have hfl_51 := hts (.fieldLink RX4 51 "TermsFirst$NeedGraph" "ringLength" "I") (List.mem_cons_of_mem _ (List.mem_append_left _ (List.mem_append_left _ (List.mem_of_getElem? (i := 0) rfl))))
  have hiX4 : ∀ w ∈ u_ws RX4 TX4 6, w ∈ wsX4_findRing := fun _ h => (List.mem_cons_of_mem _ (List.mem_append_right _ h))
  have hB_42 : ∀ (x2 : Int32) (x3 : Int32) (g_rl : Int32) (g_ts : Nat → Int32) (kt9 : Int32 → (Nat → Int32) → Int32 → Int32 → Option (Int32 × (Nat → Int32) × (Nat → Int32))) (hkt9 : ∀ (x1 : Int32) (x2 : Int32) (g_rl : Int32) (g_ts : Nat → Int32), kt9 g_rl g_ts x1 x2 = some (g_rl', g_ri', g_ts') → ∀ (H : Heap) (locs : List Loc), va_P D vwCl [(g0, .inr (4, [.int g_rl, .ref g1, .int g_n, .ref g2, .ref g3, .ref g4])), (g1, .inl (cI, 10, .inl g_ri)), (g2, .inl (cI, 10, .inl g_ne)), (g3, .inl (cI, 10, .inl g_re)), (g4, .inl (cI, 11, .inl g_ts))] H → va_D A [(g0, .inr (4, [.int g_rl, .ref g1, .int g_n, .ref g2, .ref g3, .ref g4])), (g1, .inl (cI, 10, .inl g_ri)), (g2, .inl (cI, 10, .inl g_ne)), (g3, .inl (cI, 10, .inl g_re)), (g4, .inl (cI, 11, .inl g_ts))] → va_S A s.heap H locs → ∀ ls : Array Slot, lv_has ls 4 [(0, .ref g0), (1, .int x1), (2, .int x2)] → W p l e (headSpec wsX4_findRing { frames := 4, cells := 0, slots := 0, locals := 88 }).room s m ([.ref g0] : List Value).toArray below meth c H locs 0 0 (MQ below (qV D [(g0, .inr (4, [.int g_rl', .ref g1, .int g_n, .ref g2, .ref g3, .ref g4])), (g1, .inl (cI, 10, .inl g_ri')), (g2, .inl (cI, 10, .inl g_ne)), (g3, .inl (cI, 10, .inl g_re)), (g4, .inl (cI, 11, .inl g_ts'))] A) ([.ref g0] : List Value).toArray s 0 0 A) (F0 m 9 ls [])), m_X4_findRing_42 g_ts x2 x3 kt9 = some (g_rl', g_ri', g_ts') → ∀ (H : Heap) (locs : List Loc), va_P D vwCl [(g0, .inr (4, [.int g_rl, .ref g1, .int g_n, .ref g2, .ref g3, .ref g4])), (g1, .inl (cI, 10, .inl g_ri)), (g2, .inl (cI, 10, .inl g_ne)), (g3, .inl (cI, 10, .inl g_re)), (g4, .inl (cI, 11, .inl g_ts))] H → va_D A [(g0, .inr (4, [.int g_rl, .ref g1, .int g_n, .ref g2, .ref g3, .ref g4])), (g1, .inl (cI, 10, .inl g_ri)), (g2, .inl (cI, 10, .inl g_ne)), (g3, .inl (cI, 10, .inl g_re)), (g4, .inl (cI, 11, .inl g_ts))] → va_S A s.heap H locs → ∀ ls : Array Slot, lv_has ls 4 [(0, .ref g0), (2, .int x2), (3, .int x3)] → W p l e (headSpec wsX4_findRing { frames := 4, cells := 0, slots := 0, locals := 88 }).room s m ([.ref g0] : List Value).toArray below meth c H locs 0 0 (MQ below (qV D [(g0, .inr (4, [.int g_rl', .ref g1, .int g_n, .ref g2, .ref g3, .ref g4])), (g1, .inl (cI, 10, .inl g_ri')), (g2, .inl (cI, 10, .inl g_ne)), (g3, .inl (cI, 10, .inl g_re)), (g4, .inl (cI, 11, .inl g_ts'))] A) ([.ref g0] : List Value).toArray s 0 0 A) (F0 m 42 ls []) := by
    intro x2 x3 g_rl g_ts kt9 hkt9 hf H locs hP hD hS ls hl
    unfold m_X4_findRing_42 at hf
    refine lv_aload_n hx hb dX4_findRing_42 rfl (lv_at hl 0 rfl) ?_
    refine lv_iload_n hx hb dX4_findRing_43 rfl (lv_at hl 2 rfl) ?_
    refine va_put (D := D) (ci := 4) (v := .int x3) (ty := .int) (C := RX4) (T := TX4) (N := 6) hx hb hts hiX4 tyX4 tyX4_ok nmX4 hown hK.1 hP hD hS 0 rfl rfl 0 (by decide) hfl_51 (fun _ h9 => h9) rfl (tyX4_ok 0 (by decide)) rfl rfl (Nat.le_of_ble_eq_true rfl) dX4_findRing_44 (fun H locs hP hD hS => ?_)
    have hP : va_P D vwCl [(g0, .inr (4, [.int x3, .ref g1, .int g_n, .ref g2, .ref g3, .ref g4])), (g1, .inl (cI, 10, .inl g_ri)), (g2, .inl (cI, 10, .inl g_ne)), (g3, .inl (cI, 10, .inl g_re)), (g4, .inl (cI, 11, .inl g_ts))] H := hP
    have hD : va_D A [(g0, .inr (4, [.int x3, .ref g1, .int g_n, .ref g2, .ref g3, .ref g4])), (g1, .inl (cI, 10, .inl g_ri)), (g2, .inl (cI, 10, .inl g_ne)), (g3, .inl (cI, 10, .inl g_re)), (g4, .inl (cI, 11, .inl g_ts))] := hD
    refine lv_iload_n hx hb dX4_findRing_47 rfl (lv_at hl 1 rfl) ?_
    refine lv_istore_n (lv' := [(1, .int x2), (0, .ref g0), (2, .int x2), (3, .int x3)]) hx hb dX4_findRing_48 rfl hl (by decide) rfl (fun ls hl => ?_)
    refine lv_iinc (v := (x2 + (nI 1))) (lv' := [(2, .int (x2 + (nI 1))), (1, .int x2), (0, .ref g0), (3, .int x3)]) hx hb dX4_findRing_49 hl (k := 2) rfl (ii_1 _) (by decide) rfl (fun ls hl => ?_)
    refine lv_goto (tgt := 9) hx hb dX4_findRing_52 (by decide) ?_
    exact hkt9 x2 (x2 + (nI 1)) x3 g_ts hf _ _ hP hD hS ls (lv_sub hl [2, 1, 0] rfl)
  have hB_9 : ∀ (fn : Nat) (x1 : Int32) (x2 : Int32) (g_rl : Int32) (g_ts : Nat → Int32), m_X4_findRing_9 fu g_n g_ri g_ne fn g_rl g_ts x1 x2 = some (g_rl', g_ri', g_ts') → ∀ (H : Heap) (locs : List Loc), va_P D vwCl [(g0, .inr (4, [.int g_rl, .ref g1, .int g_n, .ref g2, .ref g3, .ref g4])), (g1, .inl (cI, 10, .inl g_ri)), (g2, .inl (cI, 10, .inl g_ne)), (g3, .inl (cI, 10, .inl g_re)), (g4, .inl (cI, 11, .inl g_ts))] H → va_D A [(g0, .inr (4, [.int g_rl, .ref g1, .int g_n, .ref g2, .ref g3, .ref g4])), (g1, .inl (cI, 10, .inl g_ri)), (g2, .inl (cI, 10, .inl g_ne)), (g3, .inl (cI, 10, .inl g_re)), (g4, .inl (cI, 11, .inl g_ts))] → va_S A s.heap H locs → ∀ ls : Array Slot, lv_has ls 4 [(0, .ref g0), (1, .int x1), (2, .int x2)] → W p l e (headSpec wsX4_findRing { frames := 4, cells := 0, slots := 0, locals := 88 }).room s m ([.ref g0] : List Value).toArray below meth c H locs 0 0 (MQ below (qV D [(g0, .inr (4, [.int g_rl', .ref g1, .int g_n, .ref g2, .ref g3, .ref g4])), (g1, .inl (cI, 10, .inl g_ri')), (g2, .inl (cI, 10, .inl g_ne)), (g3, .inl (cI, 10, .inl g_re)), (g4, .inl (cI, 11, .inl g_ts'))] A) ([.ref g0] : List Value).toArray s 0 0 A) (F0 m 9 ls []) := by
    intro fn
    induction fn with
    | zero => intro x1 x2 g_rl g_ts hf; rw [m_X4_findRing_9] at hf; cases hf
    | succ fn ih =>
      intro x1 x2 g_rl g_ts hf H locs hP hD hS ls hl
      rw [m_X4_findRing_9] at hf
      refine lv_iload_n hx hb dX4_findRing_9 rfl (lv_at hl 2 rfl) ?_
      refine lv_aload_n hx hb dX4_findRing_10 rfl (lv_at hl 0 rfl) ?_
      refine va_get (D := D) (ci := 4) (v := .int g_n) (C := RX4) (T := TX4) (N := 6) hx hb hts hiX4 hown hK.1 hP 0 rfl rfl 2 (by decide) hfl_30 (fun _ h9 => h9) rfl dX4_findRing_11 ?_
      refine lv_icmp_ge (tgt := 55) hx hb dX4_findRing_14 (by decide) (fun hc => ?_) (fun hc => ?_)
      · have hf := ifp hc hf
        refine lv_aload_n hx hb dX4_findRing_55 rfl (lv_at hl 0 rfl) ?_
        refine va_get (D := D) (ci := 4) (v := .int g_rl) (C := RX4) (T := TX4) (N := 6) hx hb hts hiX4 hown hK.1 hP 0 rfl rfl 0 (by decide) hfl_51 (fun _ h9 => h9) rfl dX4_findRing_56 ?_
        refine lv_if_le (tgt := 67) hx hb dX4_findRing_59 (by decide) (fun hc => ?_) (fun hc => ?_)
        · have hf := ifp hc hf
          cases hf
          exact W.vret hx hb hr (fun t ht _ => ⟨⟨rfl, by rw [ht]; exact hP, hD⟩, hS.F ht⟩) hS.2.2 dX4_findRing_67
        · have hf := ifn hc hf
          refine lv_aload_n hx hb dX4_findRing_62 rfl (lv_at hl 0 rfl) ?_
          refine lv_iload_n hx hb dX4_findRing_63 rfl (lv_at hl 1 rfl) ?_
          obtain ⟨rv1, hrv1, hf⟩ := bd hf
          refine muV0 (wr := []) (va_runV (As := [.int x1]) (rest := []) ⟨hx, hb, hml, hown, hts⟩ (c_X4_writeRing l D cI cZ cM g0 g1 g2 g3 g4 _ g_rl g_n g_ri g_ne g_re g_ts x1 fu rv1.1 rv1.2 hrv1) (cwV 1 hts gX4_findRing_X4_writeRing rfl rfl rfl ⟨rfl, hdc_X4_writeRing⟩ ⟨Nat.le_of_ble_eq_true rfl, Nat.le_of_ble_eq_true rfl⟩) (pmV hK hP hD [0, 1, 2, 3, 4] (by decide) rfl rfl (ci := 4) (q0 := 0) rfl rfl) rfl rfl hl.1 rfl (lv_room (Nat.le_of_ble_eq_true rfl)) dX4_findRing_64 ⟨Nat.zero_le _, Nat.zero_le _⟩) hP hD hS hA [0, 1, 2, 3, 4] [] rfl rfl (by decide) (by decide) (fun H locs hP hD hS => ?_)
          have hP : va_P D vwCl [(g0, .inr (4, [.int g_rl, .ref g1, .int g_n, .ref g2, .ref g3, .ref g4])), (g1, .inl (cI, 10, .inl rv1.1)), (g2, .inl (cI, 10, .inl g_ne)), (g3, .inl (cI, 10, .inl g_re)), (g4, .inl (cI, 11, .inl rv1.2))] H := hP
          have hD : va_D A [(g0, .inr (4, [.int g_rl, .ref g1, .int g_n, .ref g2, .ref g3, .ref g4])), (g1, .inl (cI, 10, .inl rv1.1)), (g2, .inl (cI, 10, .inl g_ne)), (g3, .inl (cI, 10, .inl g_re)), (g4, .inl (cI, 11, .inl rv1.2))] := hD
          cases hf
          exact W.vret hx hb hr (fun t ht _ => ⟨⟨rfl, by rw [ht]; exact hP, hD⟩, hS.F ht⟩) hS.2.2 dX4_findRing_67
      · have hf := ifn hc hf
        refine lv_aload_n hx hb dX4_findRing_17 rfl (lv_at hl 0 rfl) ?_
        refine lv_iload_n hx hb dX4_findRing_18 rfl (lv_at hl 2 rfl) ?_
        obtain ⟨rv2, hrv2, hf⟩ := bd hf
        refine muI0 (wr := []) (va_runV (As := [.int x2]) (rest := []) ⟨hx, hb, hml, hown, hts⟩ (c_X4_stepsAround l D cI cZ cM g0 g1 g2 g3 g4 _ g_rl g_n g_ri g_ne g_re g_ts x2 fu rv2.1 rv2.2 hrv2) (cwV 1 hts gX4_findRing_X4_stepsAround rfl rfl rfl ⟨rfl, hdc_X4_stepsAround⟩ ⟨Nat.le_of_ble_eq_true rfl, Nat.le_of_ble_eq_true rfl⟩) (pmV hK hP hD [0, 1, 2, 3, 4] (by decide) rfl rfl (ci := 4) (q0 := 0) rfl rfl) rfl rfl hl.1 rfl (lv_room (Nat.le_of_ble_eq_true rfl)) dX4_findRing_19 ⟨Nat.zero_le _, Nat.zero_le _⟩) hP hD hS hA [0, 1, 2, 3, 4] [] rfl rfl (by decide) (by decide) (fun H locs hP hD hS => ?_)
        have hP : va_P D vwCl [(g0, .inr (4, [.int g_rl, .ref g1, .int g_n, .ref g2, .ref g3, .ref g4])), (g1, .inl (cI, 10, .inl g_ri)), (g2, .inl (cI, 10, .inl g_ne)), (g3, .inl (cI, 10, .inl g_re)), (g4, .inl (cI, 11, .inl rv2.2))] H := hP
        have hD : va_D A [(g0, .inr (4, [.int g_rl, .ref g1, .int g_n, .ref g2, .ref g3, .ref g4])), (g1, .inl (cI, 10, .inl g_ri)), (g2, .inl (cI, 10, .inl g_ne)), (g3, .inl (cI, 10, .inl g_re)), (g4, .inl (cI, 11, .inl rv2.2))] := hD
        refine lv_istore_n (lv' := [(3, .int rv2.1), (0, .ref g0), (1, .int x1), (2, .int x2)]) hx hb dX4_findRing_22 rfl hl (by decide) rfl (fun ls hl => ?_)
        refine lv_iload_n hx hb dX4_findRing_23 rfl (lv_at hl 0 rfl) ?_
        refine lv_if_le (tgt := 49) hx hb dX4_findRing_24 (by decide) (fun hc => ?_) (fun hc => ?_)
        · have hf := ifp hc hf
          refine lv_iinc (v := (x2 + (nI 1))) (lv' := [(2, .int (x2 + (nI 1))), (3, .int rv2.1), (0, .ref g0), (1, .int x1)]) hx hb dX4_findRing_49 hl (k := 3) rfl (ii_1 _) (by decide) rfl (fun ls hl => ?_)
          refine lv_goto (tgt := 9) hx hb dX4_findRing_52 (by decide) ?_
          exact ih x1 (x2 + (nI 1)) g_rl rv2.2 hf _ _ hP hD hS ls (lv_sub hl [2, 3, 0] rfl)
        · have hf := ifn hc hf
          refine lv_aload_n hx hb dX4_findRing_27 rfl (lv_at hl 1 rfl) ?_
          refine va_get (D := D) (ci := 4) (v := .int g_rl) (C := RX4) (T := TX4) (N := 6) hx hb hts hiX4 hown hK.1 hP 0 rfl rfl 0 (by decide) hfl_51 (fun _ h9 => h9) rfl dX4_findRing_28 ?_
          refine lv_if_eq (tgt := 42) hx hb dX4_findRing_31 (by decide) (fun hc => ?_) (fun hc => ?_)
          · have hf := ifp hc hf
            exact hB_42 x2 rv2.1 g_rl rv2.2 _ ih hf _ _ hP hD hS ls (lv_sub hl [1, 3, 0] rfl)
          · have hf := ifn hc hf
            refine lv_iload_n hx hb dX4_findRing_34 rfl (lv_at hl 0 rfl) ?_
            refine lv_aload_n hx hb dX4_findRing_35 rfl (lv_at hl 1 rfl) ?_
            refine va_get (D := D) (ci := 4) (v := .int g_rl) (C := RX4) (T := TX4) (N := 6) hx hb hts hiX4 hown hK.1 hP 0 rfl rfl 0 (by decide) hfl_51 (fun _ h9 => h9) rfl dX4_findRing_36 ?_
            refine lv_icmp_ge (tgt := 49) hx hb dX4_findRing_39 (by decide) (fun hc => ?_) (fun hc => ?_)
            · have hf := ifp hc hf
              refine lv_iinc (v := (x2 + (nI 1))) (lv' := [(2, .int (x2 + (nI 1))), (3, .int rv2.1), (0, .ref g0), (1, .int x1)]) hx hb dX4_findRing_49 hl (k := 3) rfl (ii_1 _) (by decide) rfl (fun ls hl => ?_)
              refine lv_goto (tgt := 9) hx hb dX4_findRing_52 (by decide) ?_
              exact ih x1 (x2 + (nI 1)) g_rl rv2.2 hf _ _ hP hD hS ls (lv_sub hl [2, 3, 0] rfl)
            · have hf := ifn hc hf
              exact hB_42 x2 rv2.1 g_rl rv2.2 _ ih hf _ _ hP hD hS ls (lv_sub hl [1, 3, 0] rfl)
  have hl := lv_entry ([.ref g0]) (n := 4) (Nat.le_of_ble_eq_true rfl)
  rw [lg_entry_eq]
  generalize (lg_sl ([.ref g0]) ++ List.replicate (4 - (lg_sl ([.ref g0])).length) Slot.unset).toArray = ls at hl ⊢
  have hl : lv_has ls 4 [(0, .ref g0)] := hl
  have hS : va_S A s.heap s.heap [] := va_S.rf
  unfold m_X4_findRing at hf
  refine lv_aload_n hx hb dX4_findRing_0 rfl (lv_at hl 0 rfl) ?_
  refine lv_iconst (v := (nI 0)) hx hb dX4_findRing_1 ic_0 ?_
  refine va_put (D := D) (ci := 4) (v := .int (nI 0)) (ty := .int) (C := RX4) (T := TX4) (N := 6) hx hb hts hiX4 tyX4 tyX4_ok nmX4 hown hK.1 hP hD hS 0 rfl rfl 0 (by decide) hfl_51 (fun _ h9 => h9) rfl (tyX4_ok 0 (by decide)) rfl rfl (Nat.le_of_ble_eq_true rfl) dX4_findRing_2 (fun H locs hP hD hS => ?_)
  have hP : va_P D vwCl [(g0, .inr (4, [.int (nI 0), .ref g1, .int g_n, .ref g2, .ref g3, .ref g4])), (g1, .inl (cI, 10, .inl g_ri)), (g2, .inl (cI, 10, .inl g_ne)), (g3, .inl (cI, 10, .inl g_re)), (g4, .inl (cI, 11, .inl g_ts))] H := hP
  have hD : va_D A [(g0, .inr (4, [.int (nI 0), .ref g1, .int g_n, .ref g2, .ref g3, .ref g4])), (g1, .inl (cI, 10, .inl g_ri)), (g2, .inl (cI, 10, .inl g_ne)), (g3, .inl (cI, 10, .inl g_re)), (g4, .inl (cI, 11, .inl g_ts))] := hD
  refine lv_iconst (v := (nI 0)) hx hb dX4_findRing_5 ic_0 ?_
  refine lv_istore_n (lv' := [(1, .int (nI 0)), (0, .ref g0)]) hx hb dX4_findRing_6 rfl hl (by decide) rfl (fun ls hl => ?_)
  refine lv_iconst (v := (nI 0)) hx hb dX4_findRing_7 ic_0 ?_
  refine lv_istore_n (lv' := [(2, .int (nI 0)), (1, .int (nI 0)), (0, .ref g0)]) hx hb dX4_findRing_8 rfl hl (by decide) rfl (fun ls hl => ?_)
  exact hB_9 fu (nI 0) (nI 0) (nI 0) g_ts hf _ _ hP hD hS ls (lv_sub hl [2, 1, 0] rfl)
theorem hdc_X5_append : yX5_append.cls ≠ "java/lang/invoke/MethodHandle" ∧ yX5_append.cls ≠ "java/lang/invoke/VarHandle" ∧ (parseMethodDescriptor yX5_append.desc).map (fun d => d.parameters.length) = some 1 := by decide +kernel
set_option maxHeartbeats 4000000 in
set_option maxRecDepth 100000 in
theorem c_X5_append (l : Launch) (D : va_G) (cI cZ cM : ClassId) (t0 t1 : Nat) (sz : Nat) (t_len : Int32) (t_st : Int32) (t_nx : Int32) (t_kd : Int32) (t_by : Nat → Int32) (x1 : Int32) (t_len' : Int32) (t_by' : Nat → Int32) (hf : m_X5_append t_len t_by x1 = some (t_len', t_by')) : Met l yX5_append wsX5_append ({ frames := 0, cells := 0, slots := 0, locals := 0 }) (pM D cI cZ cM sz [(t0, .inr (5, [.int t_len, .int t_st, .int t_nx, .int t_kd, .ref t1])), (t1, .inl (cI, 200, .inl t_by))] [.ref t0, .int x1]) (qV D [(t0, .inr (5, [.int t_len', .int t_st, .int t_nx, .int t_kd, .ref t1])), (t1, .inl (cI, 200, .inl t_by'))] (va_A [(t0, .inr (5, [.int t_len, .int t_st, .int t_nx, .int t_kd, .ref t1])), (t1, .inl (cI, 200, .inl t_by))] sz)) 0 0 (va_A [(t0, .inr (5, [.int t_len, .int t_st, .int t_nx, .int t_kd, .ref t1])), (t1, .inl (cI, 200, .inl t_by))] sz) := by
  refine Met.ofW (cc := cX5_append) (maxL := 2) (ret := none) (by decide) rfl ?_
  intro p e s m args below meth c s₁ B hml hv
  obtain ⟨rfl, hsz, hP, hK, hD0⟩ := hv
  have hx := B.exec
  have hb := B.bytes
  have hr := B.returns
  have hts := atoms_spec (ws := wsX5_append) B.pre
  have hown : s.vm.findClass RX5 = some m.cls := findClass_of_methodNamed B.named
  have hlocks := B.notSynchronized
  subst hsz
  have hD := hD0.self (sz := s.heap.size)
  generalize hAe : va_A [(t0, .inr (5, [.int t_len, .int t_st, .int t_nx, .int t_kd, .ref t1])), (t1, .inl (cI, 200, .inl t_by))] s.heap.size = A at hD ⊢
  have hA : ∀ q : Nat, s.heap.size ≤ q → A q := fun q h => by rw [← hAe]; exact Or.inr h
  clear hAe hD0
  have hfl_9 := hts (.fieldLink RX5 9 "TermsFirst$Text" "length" "I") (List.mem_cons_of_mem _ (List.mem_append_left _ (List.mem_of_getElem? (i := 0) rfl)))
  have hfl_24 := hts (.fieldLink RX5 24 "TermsFirst$Text" "bytes" "[I") (List.mem_cons_of_mem _ (List.mem_append_left _ (List.mem_of_getElem? (i := 1) rfl)))
  have hiX5 : ∀ w ∈ u_ws RX5 TX5 5, w ∈ wsX5_append := fun _ h => (List.mem_cons_of_mem _ (List.mem_append_right _ h))
  have hl := lv_entry ([.ref t0, .int x1]) (n := 2) (Nat.le_of_ble_eq_true rfl)
  rw [lg_entry_eq]
  generalize (lg_sl ([.ref t0, .int x1]) ++ List.replicate (2 - (lg_sl ([.ref t0, .int x1])).length) Slot.unset).toArray = ls at hl ⊢
  have hl : lv_has ls 2 [(0, .ref t0), (1, .int x1)] := hl
  have hS : va_S A s.heap s.heap [] := va_S.rf
  unfold m_X5_append at hf
  refine lv_aload_n hx hb dX5_append_0 rfl (lv_at hl 0 rfl) ?_
  refine va_get (D := D) (ci := 5) (v := .int t_len) (C := RX5) (T := TX5) (N := 5) hx hb hts hiX5 hown hK.1 hP 0 rfl rfl 0 (by decide) hfl_9 (fun _ h9 => h9) rfl dX5_append_1 ?_
  refine lv_sipush (v := (nI 200)) hx hb dX5_append_4 sp_200 ?_
  refine lv_icmp_ge (tgt := 30) hx hb dX5_append_7 (by decide) (fun hc => ?_) (fun hc => ?_)
  · have hf := ifp hc hf
    cases hf
    exact W.vret hx hb hr (fun t ht _ => ⟨⟨rfl, by rw [ht]; exact hP, hD⟩, hS.F ht⟩) hS.2.2 dX5_append_30
  · have hf := ifn hc hf
    refine lv_aload_n hx hb dX5_append_10 rfl (lv_at hl 0 rfl) ?_
    refine va_get (D := D) (ci := 5) (v := .ref t1) (C := RX5) (T := TX5) (N := 5) hx hb hts hiX5 hown hK.1 hP 0 rfl rfl 4 (by decide) hfl_24 (fun _ h9 => h9) rfl dX5_append_11 ?_
    refine lv_aload_n hx hb dX5_append_14 rfl (lv_at hl 0 rfl) ?_
    refine va_get (D := D) (ci := 5) (v := .int t_len) (C := RX5) (T := TX5) (N := 5) hx hb hts hiX5 hown hK.1 hP 0 rfl rfl 0 (by decide) hfl_9 (fun _ h9 => h9) rfl dX5_append_15 ?_
    refine lv_iload_n hx hb dX5_append_18 rfl (lv_at hl 1 rfl) ?_
    obtain ⟨hi, hf⟩ := gd_some hf
    refine va_iast hx hb hK.1 hP hD hS 1 0 rfl rfl hi dX5_append_19 (fun H locs hP hD hS => ?_)
    have hP : va_P D vwCl [(t0, .inr (5, [.int t_len, .int t_st, .int t_nx, .int t_kd, .ref t1])), (t1, .inl (cI, 200, .inl (upd t_by t_len.toNatClampNeg x1)))] H := hP
    have hD : va_D A [(t0, .inr (5, [.int t_len, .int t_st, .int t_nx, .int t_kd, .ref t1])), (t1, .inl (cI, 200, .inl (upd t_by t_len.toNatClampNeg x1)))] := hD
    refine lv_aload_n hx hb dX5_append_20 rfl (lv_at hl 0 rfl) ?_
    refine lv_dup hx hb dX5_append_21 rfl ?_
    refine va_get (D := D) (ci := 5) (v := .int t_len) (C := RX5) (T := TX5) (N := 5) hx hb hts hiX5 hown hK.1 hP 0 rfl rfl 0 (by decide) hfl_9 (fun _ h9 => h9) rfl dX5_append_22 ?_
    refine lv_iconst (v := (nI 1)) hx hb dX5_append_25 ic_1 ?_
    refine lv_iadd hx hb dX5_append_26 ?_
    refine va_put (D := D) (ci := 5) (v := .int (t_len + (nI 1))) (ty := .int) (C := RX5) (T := TX5) (N := 5) hx hb hts hiX5 tyX5 tyX5_ok nmX5 hown hK.1 hP hD hS 0 rfl rfl 0 (by decide) hfl_9 (fun _ h9 => h9) rfl (tyX5_ok 0 (by decide)) rfl rfl (Nat.le_of_ble_eq_true rfl) dX5_append_27 (fun H locs hP hD hS => ?_)
    have hP : va_P D vwCl [(t0, .inr (5, [.int (t_len + (nI 1)), .int t_st, .int t_nx, .int t_kd, .ref t1])), (t1, .inl (cI, 200, .inl (upd t_by t_len.toNatClampNeg x1)))] H := hP
    have hD : va_D A [(t0, .inr (5, [.int (t_len + (nI 1)), .int t_st, .int t_nx, .int t_kd, .ref t1])), (t1, .inl (cI, 200, .inl (upd t_by t_len.toNatClampNeg x1)))] := hD
    cases hf
    exact W.vret hx hb hr (fun t ht _ => ⟨⟨rfl, by rw [ht]; exact hP, hD⟩, hS.F ht⟩) hS.2.2 dX5_append_30
theorem hdc_X5_clear : yX5_clear.cls ≠ "java/lang/invoke/MethodHandle" ∧ yX5_clear.cls ≠ "java/lang/invoke/VarHandle" ∧ (parseMethodDescriptor yX5_clear.desc).map (fun d => d.parameters.length) = some 0 := by decide +kernel
set_option maxHeartbeats 4000000 in
set_option maxRecDepth 100000 in
theorem c_X5_clear (l : Launch) (D : va_G) (cI cZ cM : ClassId) (t0 t1 : Nat) (sz : Nat) (t_len : Int32) (t_st : Int32) (t_nx : Int32) (t_kd : Int32) (t_by : Nat → Int32) (t_len' : Int32) (hf : m_X5_clear = some t_len') : Met l yX5_clear wsX5_clear ({ frames := 0, cells := 0, slots := 0, locals := 0 }) (pM D cI cZ cM sz [(t0, .inr (5, [.int t_len, .int t_st, .int t_nx, .int t_kd, .ref t1])), (t1, .inl (cI, 200, .inl t_by))] [.ref t0]) (qV D [(t0, .inr (5, [.int t_len', .int t_st, .int t_nx, .int t_kd, .ref t1])), (t1, .inl (cI, 200, .inl t_by))] (va_A [(t0, .inr (5, [.int t_len, .int t_st, .int t_nx, .int t_kd, .ref t1])), (t1, .inl (cI, 200, .inl t_by))] sz)) 0 0 (va_A [(t0, .inr (5, [.int t_len, .int t_st, .int t_nx, .int t_kd, .ref t1])), (t1, .inl (cI, 200, .inl t_by))] sz) := by
  refine Met.ofW (cc := cX5_clear) (maxL := 1) (ret := none) (by decide) rfl ?_
  intro p e s m args below meth c s₁ B hml hv
  obtain ⟨rfl, hsz, hP, hK, hD0⟩ := hv
  have hx := B.exec
  have hb := B.bytes
  have hr := B.returns
  have hts := atoms_spec (ws := wsX5_clear) B.pre
  have hown : s.vm.findClass RX5 = some m.cls := findClass_of_methodNamed B.named
  have hlocks := B.notSynchronized
  subst hsz
  have hD := hD0.self (sz := s.heap.size)
  generalize hAe : va_A [(t0, .inr (5, [.int t_len, .int t_st, .int t_nx, .int t_kd, .ref t1])), (t1, .inl (cI, 200, .inl t_by))] s.heap.size = A at hD ⊢
  have hA : ∀ q : Nat, s.heap.size ≤ q → A q := fun q h => by rw [← hAe]; exact Or.inr h
  clear hAe hD0
  have hfl_9 := hts (.fieldLink RX5 9 "TermsFirst$Text" "length" "I") (List.mem_cons_of_mem _ (List.mem_append_left _ (List.mem_of_getElem? (i := 0) rfl)))
  have hiX5 : ∀ w ∈ u_ws RX5 TX5 5, w ∈ wsX5_clear := fun _ h => (List.mem_cons_of_mem _ (List.mem_append_right _ h))
  have hl := lv_entry ([.ref t0]) (n := 1) (Nat.le_of_ble_eq_true rfl)
  rw [lg_entry_eq]
  generalize (lg_sl ([.ref t0]) ++ List.replicate (1 - (lg_sl ([.ref t0])).length) Slot.unset).toArray = ls at hl ⊢
  have hl : lv_has ls 1 [(0, .ref t0)] := hl
  have hS : va_S A s.heap s.heap [] := va_S.rf
  unfold m_X5_clear at hf
  refine lv_aload_n hx hb dX5_clear_0 rfl (lv_at hl 0 rfl) ?_
  refine lv_iconst (v := (nI 0)) hx hb dX5_clear_1 ic_0 ?_
  refine va_put (D := D) (ci := 5) (v := .int (nI 0)) (ty := .int) (C := RX5) (T := TX5) (N := 5) hx hb hts hiX5 tyX5 tyX5_ok nmX5 hown hK.1 hP hD hS 0 rfl rfl 0 (by decide) hfl_9 (fun _ h9 => h9) rfl (tyX5_ok 0 (by decide)) rfl rfl (Nat.le_of_ble_eq_true rfl) dX5_clear_2 (fun H locs hP hD hS => ?_)
  have hP : va_P D vwCl [(t0, .inr (5, [.int (nI 0), .int t_st, .int t_nx, .int t_kd, .ref t1])), (t1, .inl (cI, 200, .inl t_by))] H := hP
  have hD : va_D A [(t0, .inr (5, [.int (nI 0), .int t_st, .int t_nx, .int t_kd, .ref t1])), (t1, .inl (cI, 200, .inl t_by))] := hD
  cases hf
  exact W.vret hx hb hr (fun t ht _ => ⟨⟨rfl, by rw [ht]; exact hP, hD⟩, hS.F ht⟩) hS.2.2 dX5_clear_5
theorem hdc_X6_write : yX6_write.cls ≠ "java/lang/invoke/MethodHandle" ∧ yX6_write.cls ≠ "java/lang/invoke/VarHandle" ∧ (parseMethodDescriptor yX6_write.desc).map (fun d => d.parameters.length) = some 1 := by decide +kernel
set_option maxHeartbeats 4000000 in
set_option maxRecDepth 100000 in
theorem c_X6_write (l : Launch) (D : va_G) (cI cZ cM : ClassId) (x0 t0 t1 a0 b0 w0 r0 h0 u0 u1 g0 q0 : Nat) (sz : Nat) (t_len : Int32) (t_st : Int32) (t_nx : Int32) (t_kd : Int32) (t_by : Nat → Int32) (x1 : Int32) (r : Int32) (t_len' : Int32) (t_by' : Nat → Int32) (hf : m_X6_write t_len t_by x1 = some (r, t_len', t_by')) : Met l yX6_write wsX6_write ({ frames := 1, cells := 0, slots := 0, locals := 21 }) (pM D cI cZ cM sz [(x0, .inr (6, [.ref a0, .ref b0, .ref w0, .ref t0, .ref r0, .ref h0, .ref u0, .ref u1, .ref g0, .ref q0])), (t0, .inr (5, [.int t_len, .int t_st, .int t_nx, .int t_kd, .ref t1])), (t1, .inl (cI, 200, .inl t_by))] [.ref x0, .int x1]) (qI D r [(x0, .inr (6, [.ref a0, .ref b0, .ref w0, .ref t0, .ref r0, .ref h0, .ref u0, .ref u1, .ref g0, .ref q0])), (t0, .inr (5, [.int t_len', .int t_st, .int t_nx, .int t_kd, .ref t1])), (t1, .inl (cI, 200, .inl t_by'))] (va_A [(x0, .inr (6, [.ref a0, .ref b0, .ref w0, .ref t0, .ref r0, .ref h0, .ref u0, .ref u1, .ref g0, .ref q0])), (t0, .inr (5, [.int t_len, .int t_st, .int t_nx, .int t_kd, .ref t1])), (t1, .inl (cI, 200, .inl t_by))] sz)) 0 0 (va_A [(x0, .inr (6, [.ref a0, .ref b0, .ref w0, .ref t0, .ref r0, .ref h0, .ref u0, .ref u1, .ref g0, .ref q0])), (t0, .inr (5, [.int t_len, .int t_st, .int t_nx, .int t_kd, .ref t1])), (t1, .inl (cI, 200, .inl t_by))] sz) := by
  refine Met.ofW (cc := cX6_write) (maxL := 2) (ret := (some .int)) (by decide) rfl ?_
  intro p e s m args below meth c s₁ B hml hv
  obtain ⟨rfl, hsz, hP, hK, hD0⟩ := hv
  have hx := B.exec
  have hb := B.bytes
  have hr := B.returns
  have hts := atoms_spec (ws := wsX6_write) B.pre
  have hown : s.vm.findClass RX6 = some m.cls := findClass_of_methodNamed B.named
  have hlocks := B.notSynchronized
  subst hsz
  have hD := hD0.self (sz := s.heap.size)
  generalize hAe : va_A [(x0, .inr (6, [.ref a0, .ref b0, .ref w0, .ref t0, .ref r0, .ref h0, .ref u0, .ref u1, .ref g0, .ref q0])), (t0, .inr (5, [.int t_len, .int t_st, .int t_nx, .int t_kd, .ref t1])), (t1, .inl (cI, 200, .inl t_by))] s.heap.size = A at hD ⊢
  have hA : ∀ q : Nat, s.heap.size ≤ q → A q := fun q h => by rw [← hAe]; exact Or.inr h
  clear hAe hD0
  have hfl_26 := hts (.fieldLink RX6 26 "TermsFirst" "text" "LTermsFirst$Text;") (List.mem_cons_of_mem _ (List.mem_append_left _ (List.mem_append_left _ (List.mem_of_getElem? (i := 0) rfl))))
  have hfl_68 := hts (.fieldLink RX6 68 "TermsFirst$Text" "length" "I") (List.mem_cons_of_mem _ (List.mem_append_left _ (List.mem_append_left _ (List.mem_of_getElem? (i := 1) rfl))))
  have hiX5 : ∀ w ∈ u_ws RX5 TX5 5, w ∈ wsX6_write := fun _ h => (List.mem_cons_of_mem _ (List.mem_append_right _ h))
  have hiX6 : ∀ w ∈ u_ws RX6 TX6 10, w ∈ wsX6_write := fun _ h => (List.mem_cons_of_mem _ (List.mem_append_left _ (List.mem_append_right _ h)))
  have hl := lv_entry ([.ref x0, .int x1]) (n := 2) (Nat.le_of_ble_eq_true rfl)
  rw [lg_entry_eq]
  generalize (lg_sl ([.ref x0, .int x1]) ++ List.replicate (2 - (lg_sl ([.ref x0, .int x1])).length) Slot.unset).toArray = ls at hl ⊢
  have hl : lv_has ls 2 [(0, .ref x0), (1, .int x1)] := hl
  have hS : va_S A s.heap s.heap [] := va_S.rf
  unfold m_X6_write at hf
  refine lv_iload_n hx hb dX6_write_0 rfl (lv_at hl 1 rfl) ?_
  refine lv_if_lt (tgt := 11) hx hb dX6_write_1 (by decide) (fun hc => ?_) (fun hc => ?_)
  · have hf := ifp hc hf
    refine lv_bipush (v := (-3 : Int32)) hx hb dX6_write_11 bp_m3 ?_
    cases hf
    exact W.iret hx hb hr (fun t ht _ => ⟨⟨rfl, by rw [ht]; exact hP, hD⟩, hS.F ht⟩) hS.2.2 dX6_write_13
  · have hf := ifn hc hf
    refine lv_iload_n hx hb dX6_write_4 rfl (lv_at hl 1 rfl) ?_
    refine lv_sipush (v := (nI 255)) hx hb dX6_write_5 sp_255 ?_
    refine lv_icmp_le (tgt := 14) hx hb dX6_write_8 (by decide) (fun hc => ?_) (fun hc => ?_)
    · have hf := ifp hc hf
      refine lv_aload_n hx hb dX6_write_14 rfl (lv_at hl 0 rfl) ?_
      refine va_get (D := D) (ci := 6) (v := .ref t0) (C := RX6) (T := TX6) (N := 10) hx hb hts hiX6 hown hK.1 hP 0 rfl rfl 3 (by decide) hfl_26 (fun _ h9 => h9) rfl dX6_write_15 ?_
      refine va_get (D := D) (ci := 5) (v := .int t_len) (C := RX5) (T := TX5) (N := 5) hx hb hts hiX5 hown hK.1 hP 1 rfl rfl 0 (by decide) hfl_68 (fun _ h9 => h9) rfl dX6_write_18 ?_
      refine lv_sipush (v := (nI 200)) hx hb dX6_write_21 sp_200 ?_
      refine lv_icmp_lt (tgt := 30) hx hb dX6_write_24 (by decide) (fun hc => ?_) (fun hc => ?_)
      · have hf := ifp hc hf
        refine lv_aload_n hx hb dX6_write_30 rfl (lv_at hl 0 rfl) ?_
        refine va_get (D := D) (ci := 6) (v := .ref t0) (C := RX6) (T := TX6) (N := 10) hx hb hts hiX6 hown hK.1 hP 0 rfl rfl 3 (by decide) hfl_26 (fun _ h9 => h9) rfl dX6_write_31 ?_
        refine lv_iload_n hx hb dX6_write_34 rfl (lv_at hl 1 rfl) ?_
        obtain ⟨rv1, hrv1, hf⟩ := bd hf
        refine muV0 (wr := [(x0, .inr (6, [.ref a0, .ref b0, .ref w0, .ref t0, .ref r0, .ref h0, .ref u0, .ref u1, .ref g0, .ref q0]))]) (va_runV (As := [.int x1]) (rest := []) ⟨hx, hb, hml, hown, hts⟩ (c_X5_append l D cI cZ cM t0 t1 _ t_len t_st t_nx t_kd t_by x1 rv1.1 rv1.2 hrv1) (cwV 1 hts gX6_write_X5_append rfl rfl rfl ⟨rfl, hdc_X5_append⟩ ⟨Nat.le_of_ble_eq_true rfl, Nat.le_of_ble_eq_true rfl⟩) (pmV hK hP hD [1, 2] (by decide) rfl rfl (ci := 5) (q0 := 1) rfl rfl) rfl rfl hl.1 rfl (lv_room (Nat.le_of_ble_eq_true rfl)) dX6_write_35 ⟨Nat.zero_le _, Nat.zero_le _⟩) hP hD hS hA [1, 2] [0] rfl rfl (by decide) (by decide) (fun H locs hP hD hS => ?_)
        have hP : va_P D vwCl [(x0, .inr (6, [.ref a0, .ref b0, .ref w0, .ref t0, .ref r0, .ref h0, .ref u0, .ref u1, .ref g0, .ref q0])), (t0, .inr (5, [.int rv1.1, .int t_st, .int t_nx, .int t_kd, .ref t1])), (t1, .inl (cI, 200, .inl rv1.2))] H := hP
        have hD : va_D A [(x0, .inr (6, [.ref a0, .ref b0, .ref w0, .ref t0, .ref r0, .ref h0, .ref u0, .ref u1, .ref g0, .ref q0])), (t0, .inr (5, [.int rv1.1, .int t_st, .int t_nx, .int t_kd, .ref t1])), (t1, .inl (cI, 200, .inl rv1.2))] := hD
        refine lv_aload_n hx hb dX6_write_38 rfl (lv_at hl 0 rfl) ?_
        refine va_get (D := D) (ci := 6) (v := .ref t0) (C := RX6) (T := TX6) (N := 10) hx hb hts hiX6 hown hK.1 hP 0 rfl rfl 3 (by decide) hfl_26 (fun _ h9 => h9) rfl dX6_write_39 ?_
        refine va_get (D := D) (ci := 5) (v := .int rv1.1) (C := RX5) (T := TX5) (N := 5) hx hb hts hiX5 hown hK.1 hP 1 rfl rfl 0 (by decide) hfl_68 (fun _ h9 => h9) rfl dX6_write_42 ?_
        cases hf
        exact W.iret hx hb hr (fun t ht _ => ⟨⟨rfl, by rw [ht]; exact hP, hD⟩, hS.F ht⟩) hS.2.2 dX6_write_45
      · have hf := ifn hc hf
        refine lv_bipush (v := (-5 : Int32)) hx hb dX6_write_27 bp_m5 ?_
        cases hf
        exact W.iret hx hb hr (fun t ht _ => ⟨⟨rfl, by rw [ht]; exact hP, hD⟩, hS.F ht⟩) hS.2.2 dX6_write_29
    · have hf := ifn hc hf
      refine lv_bipush (v := (-3 : Int32)) hx hb dX6_write_11 bp_m3 ?_
      cases hf
      exact W.iret hx hb hr (fun t ht _ => ⟨⟨rfl, by rw [ht]; exact hP, hD⟩, hS.F ht⟩) hS.2.2 dX6_write_13
