theorem hdc_X3_orderAfterMove : yX3_orderAfterMove.cls ≠ "java/lang/invoke/MethodHandle" ∧ yX3_orderAfterMove.cls ≠ "java/lang/invoke/VarHandle" ∧ (parseMethodDescriptor yX3_orderAfterMove.desc).map (fun d => d.parameters.length) = some 3 := by decide +kernel
set_option maxHeartbeats 4000000 in
set_option maxRecDepth 100000 in
theorem c_X3_orderAfterMove (l : Launch) (D : va_G) (cI cZ cM : ClassId) (a0 a1 a2 a3 a4 a5 w0 : Nat) (sz : Nat) (a_n : Int32) (a_L : Nat → Int32) (a_U : Nat → Int32) (a_H : Nat → Int32) (a_O : Nat → Int32) (a_B : Nat → Int32) (w_a : Nat → Int32) (x1 : Int32) (x2 : Int32) (fu : Nat) (w_a' : Nat → Int32) (hf : m_X3_orderAfterMove fu a_n a_O w_a x1 x2 = some w_a') : Met l yX3_orderAfterMove wsX3_orderAfterMove ({ frames := 1, cells := 0, slots := 0, locals := 23 }) (pM D cI cZ cM sz [(a0, .inr (3, [.int a_n, .ref a1, .ref a2, .ref a3, .ref a4, .ref a5])), (a1, .inl (cI, 10, .inl a_L)), (a2, .inl (cI, 10, .inl a_U)), (a3, .inl (cI, 12, .inl a_H)), (a4, .inl (cI, 10, .inl a_O)), (a5, .inl (cI, 10, .inl a_B)), (w0, .inl (cI, 10, .inl w_a))] [.ref a0, .int x1, .int x2, .ref w0]) (qV D [(a0, .inr (3, [.int a_n, .ref a1, .ref a2, .ref a3, .ref a4, .ref a5])), (a1, .inl (cI, 10, .inl a_L)), (a2, .inl (cI, 10, .inl a_U)), (a3, .inl (cI, 12, .inl a_H)), (a4, .inl (cI, 10, .inl a_O)), (a5, .inl (cI, 10, .inl a_B)), (w0, .inl (cI, 10, .inl w_a'))] (va_A [(a0, .inr (3, [.int a_n, .ref a1, .ref a2, .ref a3, .ref a4, .ref a5])), (a1, .inl (cI, 10, .inl a_L)), (a2, .inl (cI, 10, .inl a_U)), (a3, .inl (cI, 12, .inl a_H)), (a4, .inl (cI, 10, .inl a_O)), (a5, .inl (cI, 10, .inl a_B)), (w0, .inl (cI, 10, .inl w_a))] sz)) 0 0 (va_A [(a0, .inr (3, [.int a_n, .ref a1, .ref a2, .ref a3, .ref a4, .ref a5])), (a1, .inl (cI, 10, .inl a_L)), (a2, .inl (cI, 10, .inl a_U)), (a3, .inl (cI, 12, .inl a_H)), (a4, .inl (cI, 10, .inl a_O)), (a5, .inl (cI, 10, .inl a_B)), (w0, .inl (cI, 10, .inl w_a))] sz) := by
  refine Met.ofW (cc := cX3_orderAfterMove) (maxL := 6) (ret := none) (by decide) rfl ?_
  intro p e s m args below meth c s₁ B hml hv
  obtain ⟨rfl, hsz, hP, hK, hD0⟩ := hv
  have hx := B.exec
  have hb := B.bytes
  have hr := B.returns
  have hts := atoms_spec (ws := wsX3_orderAfterMove) B.pre
  have hown : s.vm.findClass RX3 = some m.cls := findClass_of_methodNamed B.named
  have hlocks := B.notSynchronized
  subst hsz
  have hD := hD0.self (sz := s.heap.size)
  generalize hAe : va_A [(a0, .inr (3, [.int a_n, .ref a1, .ref a2, .ref a3, .ref a4, .ref a5])), (a1, .inl (cI, 10, .inl a_L)), (a2, .inl (cI, 10, .inl a_U)), (a3, .inl (cI, 12, .inl a_H)), (a4, .inl (cI, 10, .inl a_O)), (a5, .inl (cI, 10, .inl a_B)), (w0, .inl (cI, 10, .inl w_a))] s.heap.size = A at hD ⊢
  have hA : ∀ q : Nat, s.heap.size ≤ q → A q := fun q h => by rw [← hAe]; exact Or.inr h
  clear hAe hD0
  have hfl_21 := hts (.fieldLink RX3 21 "TermsFirst$Manual" "order" "[I") (List.mem_cons_of_mem _ (List.mem_append_left _ (List.mem_of_getElem? (i := 1) rfl)))
  have hfl_31 := hts (.fieldLink RX3 31 "TermsFirst$Manual" "n" "I") (List.mem_cons_of_mem _ (List.mem_append_left _ (List.mem_of_getElem? (i := 0) rfl)))
  have hiX3 : ∀ w ∈ u_ws RX3 TX3 6, w ∈ wsX3_orderAfterMove := fun _ h => (List.mem_cons_of_mem _ (List.mem_append_right _ h))
  have hB_69 : ∀ (fn : Nat) (x5 : Int32) (w_a : Nat → Int32), m_X3_orderAfterMove_69 a_O x1 x2 fn w_a x5 = some w_a' → ∀ (H : Heap) (locs : List Loc), va_P D vwCl [(a0, .inr (3, [.int a_n, .ref a1, .ref a2, .ref a3, .ref a4, .ref a5])), (a1, .inl (cI, 10, .inl a_L)), (a2, .inl (cI, 10, .inl a_U)), (a3, .inl (cI, 12, .inl a_H)), (a4, .inl (cI, 10, .inl a_O)), (a5, .inl (cI, 10, .inl a_B)), (w0, .inl (cI, 10, .inl w_a))] H → va_D A [(a0, .inr (3, [.int a_n, .ref a1, .ref a2, .ref a3, .ref a4, .ref a5])), (a1, .inl (cI, 10, .inl a_L)), (a2, .inl (cI, 10, .inl a_U)), (a3, .inl (cI, 12, .inl a_H)), (a4, .inl (cI, 10, .inl a_O)), (a5, .inl (cI, 10, .inl a_B)), (w0, .inl (cI, 10, .inl w_a))] → va_S A s.heap H locs → ∀ ls : Array Slot, lv_has ls 6 [(0, .ref a0), (1, .int x1), (2, .int x2), (3, .ref w0), (5, .int x5)] → W p l e (headSpec wsX3_orderAfterMove { frames := 1, cells := 0, slots := 0, locals := 23 }).room s m ([.ref a0, .int x1, .int x2, .ref w0] : List Value).toArray below meth c H locs 0 0 (MQ below (qV D [(a0, .inr (3, [.int a_n, .ref a1, .ref a2, .ref a3, .ref a4, .ref a5])), (a1, .inl (cI, 10, .inl a_L)), (a2, .inl (cI, 10, .inl a_U)), (a3, .inl (cI, 12, .inl a_H)), (a4, .inl (cI, 10, .inl a_O)), (a5, .inl (cI, 10, .inl a_B)), (w0, .inl (cI, 10, .inl w_a'))] A) ([.ref a0, .int x1, .int x2, .ref w0] : List Value).toArray s 0 0 A) (F0 m 69 ls []) := by
    intro fn
    induction fn with
    | zero => intro x5 w_a hf; rw [m_X3_orderAfterMove_69] at hf; cases hf
    | succ fn ih =>
      intro x5 w_a hf H locs hP hD hS ls hl
      rw [m_X3_orderAfterMove_69] at hf
      refine lv_iload hx hb dX3_orderAfterMove_69 (lv_at hl 4 rfl) ?_
      refine lv_iload_n hx hb dX3_orderAfterMove_71 rfl (lv_at hl 2 rfl) ?_
      refine lv_icmp_le (tgt := 94) hx hb dX3_orderAfterMove_72 (by decide) (fun hc => ?_) (fun hc => ?_)
      · have hf := ifp hc hf
        refine lv_aload_n hx hb dX3_orderAfterMove_94 rfl (lv_at hl 3 rfl) ?_
        refine lv_iload_n hx hb dX3_orderAfterMove_95 rfl (lv_at hl 2 rfl) ?_
        refine lv_iload_n hx hb dX3_orderAfterMove_96 rfl (lv_at hl 1 rfl) ?_
        obtain ⟨hi, hf⟩ := gd_some hf
        refine va_iast hx hb hK.1 hP hD hS 6 0 rfl rfl hi dX3_orderAfterMove_97 (fun H locs hP hD hS => ?_)
        have hP : va_P D vwCl [(a0, .inr (3, [.int a_n, .ref a1, .ref a2, .ref a3, .ref a4, .ref a5])), (a1, .inl (cI, 10, .inl a_L)), (a2, .inl (cI, 10, .inl a_U)), (a3, .inl (cI, 12, .inl a_H)), (a4, .inl (cI, 10, .inl a_O)), (a5, .inl (cI, 10, .inl a_B)), (w0, .inl (cI, 10, .inl (upd w_a x2.toNatClampNeg x1)))] H := hP
        have hD : va_D A [(a0, .inr (3, [.int a_n, .ref a1, .ref a2, .ref a3, .ref a4, .ref a5])), (a1, .inl (cI, 10, .inl a_L)), (a2, .inl (cI, 10, .inl a_U)), (a3, .inl (cI, 12, .inl a_H)), (a4, .inl (cI, 10, .inl a_O)), (a5, .inl (cI, 10, .inl a_B)), (w0, .inl (cI, 10, .inl (upd w_a x2.toNatClampNeg x1)))] := hD
        cases hf
        exact W.vret hx hb hr (fun t ht _ => ⟨⟨rfl, by rw [ht]; exact hP, hD⟩, hS.F ht⟩) hS.2.2 dX3_orderAfterMove_98
      · have hf := ifn hc hf
        refine lv_aload_n hx hb dX3_orderAfterMove_75 rfl (lv_at hl 3 rfl) ?_
        refine lv_iload hx hb dX3_orderAfterMove_76 (lv_at hl 4 rfl) ?_
        refine lv_aload_n hx hb dX3_orderAfterMove_78 rfl (lv_at hl 0 rfl) ?_
        refine va_get (D := D) (ci := 3) (v := .ref a4) (C := RX3) (T := TX3) (N := 6) hx hb hts hiX3 hown hK.1 hP 0 rfl rfl 4 (by decide) hfl_21 (fun _ h9 => h9) rfl dX3_orderAfterMove_79 ?_
        refine lv_iload hx hb dX3_orderAfterMove_82 (lv_at hl 4 rfl) ?_
        refine lv_iconst (v := (nI 1)) hx hb dX3_orderAfterMove_84 ic_1 ?_
        refine lv_isub hx hb dX3_orderAfterMove_85 ?_
        obtain ⟨hi, hf⟩ := gd_some hf
        refine va_iald hx hb hK.1 hP 4 0 rfl rfl hi dX3_orderAfterMove_86 ?_
        obtain ⟨hi, hf⟩ := gd_some hf
        refine va_iast hx hb hK.1 hP hD hS 6 0 rfl rfl hi dX3_orderAfterMove_87 (fun H locs hP hD hS => ?_)
        have hP : va_P D vwCl [(a0, .inr (3, [.int a_n, .ref a1, .ref a2, .ref a3, .ref a4, .ref a5])), (a1, .inl (cI, 10, .inl a_L)), (a2, .inl (cI, 10, .inl a_U)), (a3, .inl (cI, 12, .inl a_H)), (a4, .inl (cI, 10, .inl a_O)), (a5, .inl (cI, 10, .inl a_B)), (w0, .inl (cI, 10, .inl (upd w_a x5.toNatClampNeg (a_O (x5 - (nI 1)).toNatClampNeg))))] H := hP
        have hD : va_D A [(a0, .inr (3, [.int a_n, .ref a1, .ref a2, .ref a3, .ref a4, .ref a5])), (a1, .inl (cI, 10, .inl a_L)), (a2, .inl (cI, 10, .inl a_U)), (a3, .inl (cI, 12, .inl a_H)), (a4, .inl (cI, 10, .inl a_O)), (a5, .inl (cI, 10, .inl a_B)), (w0, .inl (cI, 10, .inl (upd w_a x5.toNatClampNeg (a_O (x5 - (nI 1)).toNatClampNeg))))] := hD
        refine lv_iinc (v := (x5 + (-1 : Int32))) (lv' := [(5, .int (x5 + (-1 : Int32))), (0, .ref a0), (1, .int x1), (2, .int x2), (3, .ref w0)]) hx hb dX3_orderAfterMove_88 hl (k := 4) rfl (ii_m1 _) (by decide) rfl (fun ls hl => ?_)
        refine lv_goto (tgt := 69) hx hb dX3_orderAfterMove_91 (by decide) ?_
        exact ih (x5 + (-1 : Int32)) (upd w_a x5.toNatClampNeg (a_O (x5 - (nI 1)).toNatClampNeg)) hf _ _ hP hD hS ls (lv_sub hl [1, 2, 3, 4, 0] rfl)
  have hB_40 : ∀ (x4 : Int32) (fn : Nat) (x5 : Int32) (w_a : Nat → Int32), m_X3_orderAfterMove_40 fu a_O x1 x2 x4 fn w_a x5 = some w_a' → ∀ (H : Heap) (locs : List Loc), va_P D vwCl [(a0, .inr (3, [.int a_n, .ref a1, .ref a2, .ref a3, .ref a4, .ref a5])), (a1, .inl (cI, 10, .inl a_L)), (a2, .inl (cI, 10, .inl a_U)), (a3, .inl (cI, 12, .inl a_H)), (a4, .inl (cI, 10, .inl a_O)), (a5, .inl (cI, 10, .inl a_B)), (w0, .inl (cI, 10, .inl w_a))] H → va_D A [(a0, .inr (3, [.int a_n, .ref a1, .ref a2, .ref a3, .ref a4, .ref a5])), (a1, .inl (cI, 10, .inl a_L)), (a2, .inl (cI, 10, .inl a_U)), (a3, .inl (cI, 12, .inl a_H)), (a4, .inl (cI, 10, .inl a_O)), (a5, .inl (cI, 10, .inl a_B)), (w0, .inl (cI, 10, .inl w_a))] → va_S A s.heap H locs → ∀ ls : Array Slot, lv_has ls 6 [(0, .ref a0), (1, .int x1), (2, .int x2), (3, .ref w0), (4, .int x4), (5, .int x5)] → W p l e (headSpec wsX3_orderAfterMove { frames := 1, cells := 0, slots := 0, locals := 23 }).room s m ([.ref a0, .int x1, .int x2, .ref w0] : List Value).toArray below meth c H locs 0 0 (MQ below (qV D [(a0, .inr (3, [.int a_n, .ref a1, .ref a2, .ref a3, .ref a4, .ref a5])), (a1, .inl (cI, 10, .inl a_L)), (a2, .inl (cI, 10, .inl a_U)), (a3, .inl (cI, 12, .inl a_H)), (a4, .inl (cI, 10, .inl a_O)), (a5, .inl (cI, 10, .inl a_B)), (w0, .inl (cI, 10, .inl w_a'))] A) ([.ref a0, .int x1, .int x2, .ref w0] : List Value).toArray s 0 0 A) (F0 m 40 ls []) := by
    intro x4 fn
    induction fn with
    | zero => intro x5 w_a hf; rw [m_X3_orderAfterMove_40] at hf; cases hf
    | succ fn ih =>
      intro x5 w_a hf H locs hP hD hS ls hl
      rw [m_X3_orderAfterMove_40] at hf
      refine lv_iload hx hb dX3_orderAfterMove_40 (lv_at hl 5 rfl) ?_
      refine lv_iload_n hx hb dX3_orderAfterMove_42 rfl (lv_at hl 2 rfl) ?_
      refine lv_icmp_ge (tgt := 65) hx hb dX3_orderAfterMove_43 (by decide) (fun hc => ?_) (fun hc => ?_)
      · have hf := ifp hc hf
        refine lv_iload hx hb dX3_orderAfterMove_65 (lv_at hl 4 rfl) ?_
        refine lv_istore (lv' := [(5, .int x4), (0, .ref a0), (1, .int x1), (2, .int x2), (3, .ref w0), (4, .int x4)]) hx hb dX3_orderAfterMove_67 hl (by decide) rfl (fun ls hl => ?_)
        exact hB_69 fu x4 w_a hf _ _ hP hD hS ls (lv_sub hl [1, 2, 3, 4, 0] rfl)
      · have hf := ifn hc hf
        refine lv_aload_n hx hb dX3_orderAfterMove_46 rfl (lv_at hl 3 rfl) ?_
        refine lv_iload hx hb dX3_orderAfterMove_47 (lv_at hl 5 rfl) ?_
        refine lv_aload_n hx hb dX3_orderAfterMove_49 rfl (lv_at hl 0 rfl) ?_
        refine va_get (D := D) (ci := 3) (v := .ref a4) (C := RX3) (T := TX3) (N := 6) hx hb hts hiX3 hown hK.1 hP 0 rfl rfl 4 (by decide) hfl_21 (fun _ h9 => h9) rfl dX3_orderAfterMove_50 ?_
        refine lv_iload hx hb dX3_orderAfterMove_53 (lv_at hl 5 rfl) ?_
        refine lv_iconst (v := (nI 1)) hx hb dX3_orderAfterMove_55 ic_1 ?_
        refine lv_iadd hx hb dX3_orderAfterMove_56 ?_
        obtain ⟨hi, hf⟩ := gd_some hf
        refine va_iald hx hb hK.1 hP 4 0 rfl rfl hi dX3_orderAfterMove_57 ?_
        obtain ⟨hi, hf⟩ := gd_some hf
        refine va_iast hx hb hK.1 hP hD hS 6 0 rfl rfl hi dX3_orderAfterMove_58 (fun H locs hP hD hS => ?_)
        have hP : va_P D vwCl [(a0, .inr (3, [.int a_n, .ref a1, .ref a2, .ref a3, .ref a4, .ref a5])), (a1, .inl (cI, 10, .inl a_L)), (a2, .inl (cI, 10, .inl a_U)), (a3, .inl (cI, 12, .inl a_H)), (a4, .inl (cI, 10, .inl a_O)), (a5, .inl (cI, 10, .inl a_B)), (w0, .inl (cI, 10, .inl (upd w_a x5.toNatClampNeg (a_O (x5 + (nI 1)).toNatClampNeg))))] H := hP
        have hD : va_D A [(a0, .inr (3, [.int a_n, .ref a1, .ref a2, .ref a3, .ref a4, .ref a5])), (a1, .inl (cI, 10, .inl a_L)), (a2, .inl (cI, 10, .inl a_U)), (a3, .inl (cI, 12, .inl a_H)), (a4, .inl (cI, 10, .inl a_O)), (a5, .inl (cI, 10, .inl a_B)), (w0, .inl (cI, 10, .inl (upd w_a x5.toNatClampNeg (a_O (x5 + (nI 1)).toNatClampNeg))))] := hD
        refine lv_iinc (v := (x5 + (nI 1))) (lv' := [(5, .int (x5 + (nI 1))), (0, .ref a0), (1, .int x1), (2, .int x2), (3, .ref w0), (4, .int x4)]) hx hb dX3_orderAfterMove_59 hl (k := 5) rfl (ii_1 _) (by decide) rfl (fun ls hl => ?_)
        refine lv_goto (tgt := 40) hx hb dX3_orderAfterMove_62 (by decide) ?_
        exact ih (x5 + (nI 1)) (upd w_a x5.toNatClampNeg (a_O (x5 + (nI 1)).toNatClampNeg)) hf _ _ hP hD hS ls (lv_sub hl [1, 2, 3, 4, 5, 0] rfl)
  have hB_10 : ∀ (x4 : Int32) (fn : Nat) (x5 : Int32) (w_a : Nat → Int32), m_X3_orderAfterMove_10 fu a_n a_O x1 x2 x4 fn w_a x5 = some w_a' → ∀ (H : Heap) (locs : List Loc), va_P D vwCl [(a0, .inr (3, [.int a_n, .ref a1, .ref a2, .ref a3, .ref a4, .ref a5])), (a1, .inl (cI, 10, .inl a_L)), (a2, .inl (cI, 10, .inl a_U)), (a3, .inl (cI, 12, .inl a_H)), (a4, .inl (cI, 10, .inl a_O)), (a5, .inl (cI, 10, .inl a_B)), (w0, .inl (cI, 10, .inl w_a))] H → va_D A [(a0, .inr (3, [.int a_n, .ref a1, .ref a2, .ref a3, .ref a4, .ref a5])), (a1, .inl (cI, 10, .inl a_L)), (a2, .inl (cI, 10, .inl a_U)), (a3, .inl (cI, 12, .inl a_H)), (a4, .inl (cI, 10, .inl a_O)), (a5, .inl (cI, 10, .inl a_B)), (w0, .inl (cI, 10, .inl w_a))] → va_S A s.heap H locs → ∀ ls : Array Slot, lv_has ls 6 [(0, .ref a0), (1, .int x1), (2, .int x2), (3, .ref w0), (4, .int x4), (5, .int x5)] → W p l e (headSpec wsX3_orderAfterMove { frames := 1, cells := 0, slots := 0, locals := 23 }).room s m ([.ref a0, .int x1, .int x2, .ref w0] : List Value).toArray below meth c H locs 0 0 (MQ below (qV D [(a0, .inr (3, [.int a_n, .ref a1, .ref a2, .ref a3, .ref a4, .ref a5])), (a1, .inl (cI, 10, .inl a_L)), (a2, .inl (cI, 10, .inl a_U)), (a3, .inl (cI, 12, .inl a_H)), (a4, .inl (cI, 10, .inl a_O)), (a5, .inl (cI, 10, .inl a_B)), (w0, .inl (cI, 10, .inl w_a'))] A) ([.ref a0, .int x1, .int x2, .ref w0] : List Value).toArray s 0 0 A) (F0 m 10 ls []) := by
    intro x4 fn
    induction fn with
    | zero => intro x5 w_a hf; rw [m_X3_orderAfterMove_10] at hf; cases hf
    | succ fn ih =>
      intro x5 w_a hf H locs hP hD hS ls hl
      rw [m_X3_orderAfterMove_10] at hf
      refine lv_iload hx hb dX3_orderAfterMove_10 (lv_at hl 5 rfl) ?_
      refine lv_aload_n hx hb dX3_orderAfterMove_12 rfl (lv_at hl 0 rfl) ?_
      refine va_get (D := D) (ci := 3) (v := .int a_n) (C := RX3) (T := TX3) (N := 6) hx hb hts hiX3 hown hK.1 hP 0 rfl rfl 0 (by decide) hfl_31 (fun _ h9 => h9) rfl dX3_orderAfterMove_13 ?_
      refine lv_icmp_ge (tgt := 36) hx hb dX3_orderAfterMove_16 (by decide) (fun hc => ?_) (fun hc => ?_)
      · have hf := ifp hc hf
        refine lv_iload hx hb dX3_orderAfterMove_36 (lv_at hl 4 rfl) ?_
        refine lv_istore (lv' := [(5, .int x4), (0, .ref a0), (1, .int x1), (2, .int x2), (3, .ref w0), (4, .int x4)]) hx hb dX3_orderAfterMove_38 hl (by decide) rfl (fun ls hl => ?_)
        exact hB_40 x4 fu x4 w_a hf _ _ hP hD hS ls (lv_sub hl [1, 2, 3, 4, 5, 0] rfl)
      · have hf := ifn hc hf
        refine lv_aload_n hx hb dX3_orderAfterMove_19 rfl (lv_at hl 3 rfl) ?_
        refine lv_iload hx hb dX3_orderAfterMove_20 (lv_at hl 5 rfl) ?_
        refine lv_aload_n hx hb dX3_orderAfterMove_22 rfl (lv_at hl 0 rfl) ?_
        refine va_get (D := D) (ci := 3) (v := .ref a4) (C := RX3) (T := TX3) (N := 6) hx hb hts hiX3 hown hK.1 hP 0 rfl rfl 4 (by decide) hfl_21 (fun _ h9 => h9) rfl dX3_orderAfterMove_23 ?_
        refine lv_iload hx hb dX3_orderAfterMove_26 (lv_at hl 5 rfl) ?_
        obtain ⟨hi, hf⟩ := gd_some hf
        refine va_iald hx hb hK.1 hP 4 0 rfl rfl hi dX3_orderAfterMove_28 ?_
        obtain ⟨hi, hf⟩ := gd_some hf
        refine va_iast hx hb hK.1 hP hD hS 6 0 rfl rfl hi dX3_orderAfterMove_29 (fun H locs hP hD hS => ?_)
        have hP : va_P D vwCl [(a0, .inr (3, [.int a_n, .ref a1, .ref a2, .ref a3, .ref a4, .ref a5])), (a1, .inl (cI, 10, .inl a_L)), (a2, .inl (cI, 10, .inl a_U)), (a3, .inl (cI, 12, .inl a_H)), (a4, .inl (cI, 10, .inl a_O)), (a5, .inl (cI, 10, .inl a_B)), (w0, .inl (cI, 10, .inl (upd w_a x5.toNatClampNeg (a_O x5.toNatClampNeg))))] H := hP
        have hD : va_D A [(a0, .inr (3, [.int a_n, .ref a1, .ref a2, .ref a3, .ref a4, .ref a5])), (a1, .inl (cI, 10, .inl a_L)), (a2, .inl (cI, 10, .inl a_U)), (a3, .inl (cI, 12, .inl a_H)), (a4, .inl (cI, 10, .inl a_O)), (a5, .inl (cI, 10, .inl a_B)), (w0, .inl (cI, 10, .inl (upd w_a x5.toNatClampNeg (a_O x5.toNatClampNeg))))] := hD
        refine lv_iinc (v := (x5 + (nI 1))) (lv' := [(5, .int (x5 + (nI 1))), (0, .ref a0), (1, .int x1), (2, .int x2), (3, .ref w0), (4, .int x4)]) hx hb dX3_orderAfterMove_30 hl (k := 5) rfl (ii_1 _) (by decide) rfl (fun ls hl => ?_)
        refine lv_goto (tgt := 10) hx hb dX3_orderAfterMove_33 (by decide) ?_
        exact ih (x5 + (nI 1)) (upd w_a x5.toNatClampNeg (a_O x5.toNatClampNeg)) hf _ _ hP hD hS ls (lv_sub hl [1, 2, 3, 4, 5, 0] rfl)
  have hl := lv_entry ([.ref a0, .int x1, .int x2, .ref w0]) (n := 6) (Nat.le_of_ble_eq_true rfl)
  rw [lg_entry_eq]
  generalize (lg_sl ([.ref a0, .int x1, .int x2, .ref w0]) ++ List.replicate (6 - (lg_sl ([.ref a0, .int x1, .int x2, .ref w0])).length) Slot.unset).toArray = ls at hl ⊢
  have hl : lv_has ls 6 [(0, .ref a0), (1, .int x1), (2, .int x2), (3, .ref w0)] := hl
  have hS : va_S A s.heap s.heap [] := va_S.rf
  unfold m_X3_orderAfterMove at hf
  refine lv_aload_n hx hb dX3_orderAfterMove_0 rfl (lv_at hl 0 rfl) ?_
  refine lv_iload_n hx hb dX3_orderAfterMove_1 rfl (lv_at hl 1 rfl) ?_
  obtain ⟨rv1, hrv1, hf⟩ := bd hf
  refine roI (va_runV (As := [.int x1]) (rest := []) ⟨hx, hb, hml, hown, hts⟩ (c_X3_placeOf l D cI cZ cM a0 a1 a2 a3 a4 a5 a_n a_L a_U a_H a_O a_B x1 fu rv1 hrv1) (cwV 1 hts gX3_orderAfterMove_X3_placeOf rfl rfl rfl ⟨rfl, hdc_X3_placeOf⟩ ⟨Nat.le_of_ble_eq_true rfl, Nat.le_of_ble_eq_true rfl⟩) (prV hK hP [0, 1, 2, 3, 4, 5] rfl (ci := 3) (q0 := 0) rfl rfl) rfl rfl hl.1 rfl (lv_room (Nat.le_of_ble_eq_true rfl)) dX3_orderAfterMove_2 ⟨Nat.zero_le _, Nat.zero_le _⟩) ?_
  refine lv_istore (lv' := [(4, .int rv1), (0, .ref a0), (1, .int x1), (2, .int x2), (3, .ref w0)]) hx hb dX3_orderAfterMove_5 hl (by decide) rfl (fun ls hl => ?_)
  refine lv_iconst (v := (nI 0)) hx hb dX3_orderAfterMove_7 ic_0 ?_
  refine lv_istore (lv' := [(5, .int (nI 0)), (4, .int rv1), (0, .ref a0), (1, .int x1), (2, .int x2), (3, .ref w0)]) hx hb dX3_orderAfterMove_8 hl (by decide) rfl (fun ls hl => ?_)
  exact hB_10 rv1 fu (nI 0) w_a hf _ _ hP hD hS ls (lv_sub hl [2, 3, 4, 5, 1, 0] rfl)
theorem hdc_X3_countPrecedences : yX3_countPrecedences.cls ≠ "java/lang/invoke/MethodHandle" ∧ yX3_countPrecedences.cls ≠ "java/lang/invoke/VarHandle" ∧ (parseMethodDescriptor yX3_countPrecedences.desc).map (fun d => d.parameters.length) = some 0 := by decide +kernel
set_option maxHeartbeats 4000000 in
set_option maxRecDepth 100000 in
theorem c_X3_countPrecedences (l : Launch) (D : va_G) (cI cZ cM : ClassId) (a0 a1 a2 a3 a4 a5 : Nat) (a_n : Int32) (a_L : Nat → Int32) (a_U : Nat → Int32) (a_H : Nat → Int32) (a_O : Nat → Int32) (a_B : Nat → Int32) (fu : Nat) (r : Int32) (hf : m_X3_countPrecedences fu a_n a_B = some r) : Met l yX3_countPrecedences wsX3_countPrecedences ({ frames := 1, cells := 0, slots := 0, locals := 20 }) (pR D cI cZ cM [(a0, .inr (3, [.int a_n, .ref a1, .ref a2, .ref a3, .ref a4, .ref a5])), (a1, .inl (cI, 10, .inl a_L)), (a2, .inl (cI, 10, .inl a_U)), (a3, .inl (cI, 12, .inl a_H)), (a4, .inl (cI, 10, .inl a_O)), (a5, .inl (cI, 10, .inl a_B))] [.ref a0]) (qR r) 0 0 (fun _ => False) := by
  refine Met.ofW (cc := cX3_countPrecedences) (maxL := 3) (ret := (some .int)) (by decide) rfl ?_
  intro p e s m args below meth c s₁ B hml hv
  obtain ⟨rfl, hP, hK⟩ := hv
  have hx := B.exec
  have hb := B.bytes
  have hr := B.returns
  have hts := atoms_spec (ws := wsX3_countPrecedences) B.pre
  have hown : s.vm.findClass RX3 = some m.cls := findClass_of_methodNamed B.named
  have hlocks := B.notSynchronized
  have hfl_24 := hts (.fieldLink RX3 24 "TermsFirst$Manual" "before" "[I") (List.mem_cons_of_mem _ (List.mem_append_left _ (List.mem_of_getElem? (i := 1) rfl)))
  have hfl_31 := hts (.fieldLink RX3 31 "TermsFirst$Manual" "n" "I") (List.mem_cons_of_mem _ (List.mem_append_left _ (List.mem_of_getElem? (i := 0) rfl)))
  have hiX3 : ∀ w ∈ u_ws RX3 TX3 6, w ∈ wsX3_countPrecedences := fun _ h => (List.mem_cons_of_mem _ (List.mem_append_right _ h))
  have hB_4 : ∀ (fn : Nat) (x1 : Int32) (x2 : Int32), m_X3_countPrecedences_4 a_n a_B fn x1 x2 = some r → ∀ ls : Array Slot, lv_has ls 3 [(0, .ref a0), (1, .int x1), (2, .int x2)] → W p l e (headSpec wsX3_countPrecedences { frames := 1, cells := 0, slots := 0, locals := 20 }).room s m ([.ref a0] : List Value).toArray below meth c s.heap [] 0 0 (MQ below (qR r) ([.ref a0] : List Value).toArray s 0 0 (fun _ => False)) (F0 m 4 ls []) := by
    intro fn
    induction fn with
    | zero => intro x1 x2 hf; rw [m_X3_countPrecedences_4] at hf; cases hf
    | succ fn ih =>
      intro x1 x2 hf ls hl
      rw [m_X3_countPrecedences_4] at hf
      refine lv_iload_n hx hb dX3_countPrecedences_4 rfl (lv_at hl 2 rfl) ?_
      refine lv_aload_n hx hb dX3_countPrecedences_5 rfl (lv_at hl 0 rfl) ?_
      refine va_get (D := D) (ci := 3) (v := .int a_n) (C := RX3) (T := TX3) (N := 6) hx hb hts hiX3 hown hK.1 hP 0 rfl rfl 0 (by decide) hfl_31 (fun _ h9 => h9) rfl dX3_countPrecedences_6 ?_
      refine lv_icmp_ge (tgt := 30) hx hb dX3_countPrecedences_9 (by decide) (fun hc => ?_) (fun hc => ?_)
      · have hf := ifp hc hf
        refine lv_iload_n hx hb dX3_countPrecedences_30 rfl (lv_at hl 1 rfl) ?_
        cases hf
        exact W.iret hx hb hr (fun t ht _ => ⟨rfl, ht⟩) (fun _ h => nomatch h) dX3_countPrecedences_31
      · have hf := ifn hc hf
        refine lv_iload_n hx hb dX3_countPrecedences_12 rfl (lv_at hl 1 rfl) ?_
        refine lv_aload_n hx hb dX3_countPrecedences_13 rfl (lv_at hl 0 rfl) ?_
        refine va_get (D := D) (ci := 3) (v := .ref a5) (C := RX3) (T := TX3) (N := 6) hx hb hts hiX3 hown hK.1 hP 0 rfl rfl 5 (by decide) hfl_24 (fun _ h9 => h9) rfl dX3_countPrecedences_14 ?_
        refine lv_iload_n hx hb dX3_countPrecedences_17 rfl (lv_at hl 2 rfl) ?_
        obtain ⟨hi, hf⟩ := gd_some hf
        refine va_iald hx hb hK.1 hP 5 0 rfl rfl hi dX3_countPrecedences_18 ?_
        obtain ⟨rv1, hrv1, hf⟩ := bd hf
        refine roI (va_runS (As := [.int (a_B x2.toNatClampNeg)]) (rest := [.int x1]) ⟨hx, hb, hml, hown, hts⟩ (c_J6_bitCount_0f7a4 l D cI cZ cM (a_B x2.toNatClampNeg) rv1 hrv1) (va_cwS 1 hts gX3_countPrecedences_J6_bitCount_0f7a4 rfl rfl rfl hdc_J6_bitCount_0f7a4 ⟨Nat.le_of_ble_eq_true rfl, Nat.le_of_ble_eq_true rfl⟩) (prS hK hP [] rfl) rfl rfl hl.1 rfl (lv_room (Nat.le_of_ble_eq_true rfl)) dX3_countPrecedences_19 ⟨Nat.zero_le _, Nat.zero_le _⟩) ?_
        refine lv_iadd hx hb dX3_countPrecedences_22 ?_
        refine lv_istore_n (lv' := [(1, .int (x1 + rv1)), (0, .ref a0), (2, .int x2)]) hx hb dX3_countPrecedences_23 rfl hl (by decide) rfl (fun ls hl => ?_)
        refine lv_iinc (v := (x2 + (nI 1))) (lv' := [(2, .int (x2 + (nI 1))), (1, .int (x1 + rv1)), (0, .ref a0)]) hx hb dX3_countPrecedences_24 hl (k := 2) rfl (ii_1 _) (by decide) rfl (fun ls hl => ?_)
        refine lv_goto (tgt := 4) hx hb dX3_countPrecedences_27 (by decide) ?_
        exact ih (x1 + rv1) (x2 + (nI 1)) hf  ls (lv_sub hl [2, 1, 0] rfl)
  have hl := lv_entry ([.ref a0]) (n := 3) (Nat.le_of_ble_eq_true rfl)
  rw [lg_entry_eq]
  generalize (lg_sl ([.ref a0]) ++ List.replicate (3 - (lg_sl ([.ref a0])).length) Slot.unset).toArray = ls at hl ⊢
  have hl : lv_has ls 3 [(0, .ref a0)] := hl
  unfold m_X3_countPrecedences at hf
  refine lv_iconst (v := (nI 0)) hx hb dX3_countPrecedences_0 ic_0 ?_
  refine lv_istore_n (lv' := [(1, .int (nI 0)), (0, .ref a0)]) hx hb dX3_countPrecedences_1 rfl hl (by decide) rfl (fun ls hl => ?_)
  refine lv_iconst (v := (nI 0)) hx hb dX3_countPrecedences_2 ic_0 ?_
  refine lv_istore_n (lv' := [(2, .int (nI 0)), (1, .int (nI 0)), (0, .ref a0)]) hx hb dX3_countPrecedences_3 rfl hl (by decide) rfl (fun ls hl => ?_)
  exact hB_4 fu (nI 0) (nI 0) hf  ls (lv_sub hl [2, 1, 0] rfl)
theorem hdc_X3_usersOf : yX3_usersOf.cls ≠ "java/lang/invoke/MethodHandle" ∧ yX3_usersOf.cls ≠ "java/lang/invoke/VarHandle" ∧ (parseMethodDescriptor yX3_usersOf.desc).map (fun d => d.parameters.length) = some 1 := by decide +kernel
set_option maxHeartbeats 4000000 in
set_option maxRecDepth 100000 in
theorem c_X3_usersOf (l : Launch) (D : va_G) (cI cZ cM : ClassId) (a0 a1 a2 a3 a4 a5 : Nat) (a_n : Int32) (a_L : Nat → Int32) (a_U : Nat → Int32) (a_H : Nat → Int32) (a_O : Nat → Int32) (a_B : Nat → Int32) (x1 : Int32) (fu : Nat) (r : Int32) (hf : m_X3_usersOf fu a_n a_U x1 = some r) : Met l yX3_usersOf wsX3_usersOf ({ frames := 1, cells := 0, slots := 0, locals := 21 }) (pR D cI cZ cM [(a0, .inr (3, [.int a_n, .ref a1, .ref a2, .ref a3, .ref a4, .ref a5])), (a1, .inl (cI, 10, .inl a_L)), (a2, .inl (cI, 10, .inl a_U)), (a3, .inl (cI, 12, .inl a_H)), (a4, .inl (cI, 10, .inl a_O)), (a5, .inl (cI, 10, .inl a_B))] [.ref a0, .int x1]) (qR r) 0 0 (fun _ => False) := by
  refine Met.ofW (cc := cX3_usersOf) (maxL := 4) (ret := (some .int)) (by decide) rfl ?_
  intro p e s m args below meth c s₁ B hml hv
  obtain ⟨rfl, hP, hK⟩ := hv
  have hx := B.exec
  have hb := B.bytes
  have hr := B.returns
  have hts := atoms_spec (ws := wsX3_usersOf) B.pre
  have hown : s.vm.findClass RX3 = some m.cls := findClass_of_methodNamed B.named
  have hlocks := B.notSynchronized
  have hfl_15 := hts (.fieldLink RX3 15 "TermsFirst$Manual" "used" "[I") (List.mem_cons_of_mem _ (List.mem_append_left _ (List.mem_of_getElem? (i := 1) rfl)))
  have hfl_31 := hts (.fieldLink RX3 31 "TermsFirst$Manual" "n" "I") (List.mem_cons_of_mem _ (List.mem_append_left _ (List.mem_of_getElem? (i := 0) rfl)))
  have hn_7 : va_Nw (.methodLinkNest RX3 39 yX6_has RX6) s := nw_7 hK
  have hin_RX6 : (Cond.initialized yX6_has.cls).before _ s = true := hts (.initialized RX6) (List.mem_cons_of_mem _ (List.mem_append_left _ (List.mem_of_getElem? (i := 3) rfl)))
  have hst_X6_has := hts (.static yX6_has) (List.mem_cons_of_mem _ (List.mem_append_left _ (List.mem_of_getElem? (i := 2) rfl)))
  have hn_8 : va_Nw (.methodLinkNest RX3 43 yX6_with RX6) s := nw_8 hK
  have hin_RX6 : (Cond.initialized yX6_with.cls).before _ s = true := hts (.initialized RX6) (List.mem_cons_of_mem _ (List.mem_append_left _ (List.mem_of_getElem? (i := 3) rfl)))
  have hst_X6_with := hts (.static yX6_with) (List.mem_cons_of_mem _ (List.mem_append_left _ (List.mem_of_getElem? (i := 5) rfl)))
  have hiX3 : ∀ w ∈ u_ws RX3 TX3 6, w ∈ wsX3_usersOf := fun _ h => (List.mem_cons_of_mem _ (List.mem_append_right _ h))
  have hB_4 : ∀ (fn : Nat) (x2 : Int32) (x3 : Int32), m_X3_usersOf_4 a_n a_U x1 fn x2 x3 = some r → ∀ ls : Array Slot, lv_has ls 4 [(0, .ref a0), (1, .int x1), (2, .int x2), (3, .int x3)] → W p l e (headSpec wsX3_usersOf { frames := 1, cells := 0, slots := 0, locals := 21 }).room s m ([.ref a0, .int x1] : List Value).toArray below meth c s.heap [] 0 0 (MQ below (qR r) ([.ref a0, .int x1] : List Value).toArray s 0 0 (fun _ => False)) (F0 m 4 ls []) := by
    intro fn
    induction fn with
    | zero => intro x2 x3 hf; rw [m_X3_usersOf_4] at hf; cases hf
    | succ fn ih =>
      intro x2 x3 hf ls hl
      rw [m_X3_usersOf_4] at hf
      refine lv_iload_n hx hb dX3_usersOf_4 rfl (lv_at hl 3 rfl) ?_
      refine lv_aload_n hx hb dX3_usersOf_5 rfl (lv_at hl 0 rfl) ?_
      refine va_get (D := D) (ci := 3) (v := .int a_n) (C := RX3) (T := TX3) (N := 6) hx hb hts hiX3 hown hK.1 hP 0 rfl rfl 0 (by decide) hfl_31 (fun _ h9 => h9) rfl dX3_usersOf_6 ?_
      refine lv_icmp_ge (tgt := 37) hx hb dX3_usersOf_9 (by decide) (fun hc => ?_) (fun hc => ?_)
      · have hf := ifp hc hf
        refine lv_iload_n hx hb dX3_usersOf_37 rfl (lv_at hl 2 rfl) ?_
        cases hf
        exact W.iret hx hb hr (fun t ht _ => ⟨rfl, ht⟩) (fun _ h => nomatch h) dX3_usersOf_38
      · have hf := ifn hc hf
        refine lv_aload_n hx hb dX3_usersOf_12 rfl (lv_at hl 0 rfl) ?_
        refine va_get (D := D) (ci := 3) (v := .ref a2) (C := RX3) (T := TX3) (N := 6) hx hb hts hiX3 hown hK.1 hP 0 rfl rfl 2 (by decide) hfl_15 (fun _ h9 => h9) rfl dX3_usersOf_13 ?_
        refine lv_iload_n hx hb dX3_usersOf_16 rfl (lv_at hl 3 rfl) ?_
        obtain ⟨hi, hf⟩ := gd_some hf
        refine va_iald hx hb hK.1 hP 2 0 rfl rfl hi dX3_usersOf_17 ?_
        refine lv_iload_n hx hb dX3_usersOf_18 rfl (lv_at hl 1 rfl) ?_
        obtain ⟨rv1, hrv1, hf⟩ := bd hf
        refine roI (va_runSN (As := [.int (a_U x3.toNatClampNeg), .int x1]) (rest := []) ⟨hx, hb, hml, hown, hts⟩ (c_X6_has l D cI cZ cM (a_U x3.toNatClampNeg) x1 rv1 hrv1) ⟨va_cnB (host := RX6) 2 hts gX3_usersOf_X6_has_n39 rfl rfl rfl hn_7 hin_RX6 hdc_X6_has ⟨Nat.le_of_ble_eq_true rfl, Nat.le_of_ble_eq_true rfl⟩, hst_X6_has, trivial⟩ (prS hK hP [] rfl) rfl rfl hl.1 rfl (lv_room (Nat.le_of_ble_eq_true rfl)) dX3_usersOf_19 ⟨Nat.zero_le _, Nat.zero_le _⟩) ?_
        refine lv_if_eq (tgt := 31) hx hb dX3_usersOf_22 (by decide) (fun hc => ?_) (fun hc => ?_)
        · have hf := ifp hc hf
          refine lv_iinc (v := (x3 + (nI 1))) (lv' := [(3, .int (x3 + (nI 1))), (0, .ref a0), (1, .int x1), (2, .int x2)]) hx hb dX3_usersOf_31 hl (k := 3) rfl (ii_1 _) (by decide) rfl (fun ls hl => ?_)
          refine lv_goto (tgt := 4) hx hb dX3_usersOf_34 (by decide) ?_
          exact ih x2 (x3 + (nI 1)) hf  ls (lv_sub hl [1, 2, 3, 0] rfl)
        · have hf := ifn hc hf
          refine lv_iload_n hx hb dX3_usersOf_25 rfl (lv_at hl 2 rfl) ?_
          refine lv_iload_n hx hb dX3_usersOf_26 rfl (lv_at hl 3 rfl) ?_
          obtain ⟨rv2, hrv2, hf⟩ := bd hf
          refine roI (va_runSN (As := [.int x2, .int x3]) (rest := []) ⟨hx, hb, hml, hown, hts⟩ (c_X6_with l D cI cZ cM x2 x3 rv2 hrv2) ⟨va_cnB (host := RX6) 2 hts gX3_usersOf_X6_with_n43 rfl rfl rfl hn_8 hin_RX6 hdc_X6_with ⟨Nat.le_of_ble_eq_true rfl, Nat.le_of_ble_eq_true rfl⟩, hst_X6_with, trivial⟩ (prS hK hP [] rfl) rfl rfl hl.1 rfl (lv_room (Nat.le_of_ble_eq_true rfl)) dX3_usersOf_27 ⟨Nat.zero_le _, Nat.zero_le _⟩) ?_
          refine lv_istore_n (lv' := [(2, .int rv2), (0, .ref a0), (1, .int x1), (3, .int x3)]) hx hb dX3_usersOf_30 rfl hl (by decide) rfl (fun ls hl => ?_)
          refine lv_iinc (v := (x3 + (nI 1))) (lv' := [(3, .int (x3 + (nI 1))), (2, .int rv2), (0, .ref a0), (1, .int x1)]) hx hb dX3_usersOf_31 hl (k := 3) rfl (ii_1 _) (by decide) rfl (fun ls hl => ?_)
          refine lv_goto (tgt := 4) hx hb dX3_usersOf_34 (by decide) ?_
          exact ih rv2 (x3 + (nI 1)) hf  ls (lv_sub hl [2, 3, 1, 0] rfl)
  have hl := lv_entry ([.ref a0, .int x1]) (n := 4) (Nat.le_of_ble_eq_true rfl)
  rw [lg_entry_eq]
  generalize (lg_sl ([.ref a0, .int x1]) ++ List.replicate (4 - (lg_sl ([.ref a0, .int x1])).length) Slot.unset).toArray = ls at hl ⊢
  have hl : lv_has ls 4 [(0, .ref a0), (1, .int x1)] := hl
  unfold m_X3_usersOf at hf
  refine lv_iconst (v := (nI 0)) hx hb dX3_usersOf_0 ic_0 ?_
  refine lv_istore_n (lv' := [(2, .int (nI 0)), (0, .ref a0), (1, .int x1)]) hx hb dX3_usersOf_1 rfl hl (by decide) rfl (fun ls hl => ?_)
  refine lv_iconst (v := (nI 0)) hx hb dX3_usersOf_2 ic_0 ?_
  refine lv_istore_n (lv' := [(3, .int (nI 0)), (2, .int (nI 0)), (0, .ref a0), (1, .int x1)]) hx hb dX3_usersOf_3 rfl hl (by decide) rfl (fun ls hl => ?_)
  exact hB_4 fu (nI 0) (nI 0) hf  ls (lv_sub hl [2, 3, 1, 0] rfl)
theorem hdc_X3_isLoose : yX3_isLoose.cls ≠ "java/lang/invoke/MethodHandle" ∧ yX3_isLoose.cls ≠ "java/lang/invoke/VarHandle" ∧ (parseMethodDescriptor yX3_isLoose.desc).map (fun d => d.parameters.length) = some 1 := by decide +kernel
set_option maxHeartbeats 4000000 in
set_option maxRecDepth 100000 in
theorem c_X3_isLoose (l : Launch) (D : va_G) (cI cZ cM : ClassId) (a0 a1 a2 a3 a4 a5 : Nat) (a_n : Int32) (a_L : Nat → Int32) (a_U : Nat → Int32) (a_H : Nat → Int32) (a_O : Nat → Int32) (a_B : Nat → Int32) (x1 : Int32) (fu : Nat) (r : Int32) (hf : m_X3_isLoose fu a_n a_U a_H x1 = some r) : Met l yX3_isLoose wsX3_isLoose ({ frames := 2, cells := 0, slots := 0, locals := 44 }) (pR D cI cZ cM [(a0, .inr (3, [.int a_n, .ref a1, .ref a2, .ref a3, .ref a4, .ref a5])), (a1, .inl (cI, 10, .inl a_L)), (a2, .inl (cI, 10, .inl a_U)), (a3, .inl (cI, 12, .inl a_H)), (a4, .inl (cI, 10, .inl a_O)), (a5, .inl (cI, 10, .inl a_B))] [.ref a0, .int x1]) (qR r) 0 0 (fun _ => False) := by
  refine Met.ofW (cc := cX3_isLoose) (maxL := 2) (ret := (some .boolean)) (by decide) rfl ?_
  intro p e s m args below meth c s₁ B hml hv
  obtain ⟨rfl, hP, hK⟩ := hv
  have hx := B.exec
  have hb := B.bytes
  have hr := B.returns
  have hts := atoms_spec (ws := wsX3_isLoose) B.pre
  have hown : s.vm.findClass RX3 = some m.cls := findClass_of_methodNamed B.named
  have hlocks := B.notSynchronized
  have hfl_18 := hts (.fieldLink RX3 18 "TermsFirst$Manual" "homes" "[I") (List.mem_cons_of_mem _ (List.mem_append_left _ (List.mem_of_getElem? (i := 0) rfl)))
  have hiX3 : ∀ w ∈ u_ws RX3 TX3 6, w ∈ wsX3_isLoose := fun _ h => (List.mem_cons_of_mem _ (List.mem_append_right _ h))
  have hl := lv_entry ([.ref a0, .int x1]) (n := 2) (Nat.le_of_ble_eq_true rfl)
  rw [lg_entry_eq]
  generalize (lg_sl ([.ref a0, .int x1]) ++ List.replicate (2 - (lg_sl ([.ref a0, .int x1])).length) Slot.unset).toArray = ls at hl ⊢
  have hl : lv_has ls 2 [(0, .ref a0), (1, .int x1)] := hl
  unfold m_X3_isLoose at hf
  refine lv_aload_n hx hb dX3_isLoose_0 rfl (lv_at hl 0 rfl) ?_
  refine va_get (D := D) (ci := 3) (v := .ref a3) (C := RX3) (T := TX3) (N := 6) hx hb hts hiX3 hown hK.1 hP 0 rfl rfl 3 (by decide) hfl_18 (fun _ h9 => h9) rfl dX3_isLoose_1 ?_
  refine lv_iload_n hx hb dX3_isLoose_4 rfl (lv_at hl 1 rfl) ?_
  obtain ⟨hi, hf⟩ := gd_some hf
  refine va_iald hx hb hK.1 hP 3 0 rfl rfl hi dX3_isLoose_5 ?_
  refine lv_iconst (v := (-1 : Int32)) hx hb dX3_isLoose_6 ic_m1 ?_
  refine lv_icmp_ne (tgt := 22) hx hb dX3_isLoose_7 (by decide) (fun hc => ?_) (fun hc => ?_)
  · have hf := ifn hc hf
    refine lv_iconst (v := (nI 0)) hx hb dX3_isLoose_22 ic_0 ?_
    cases hf
    exact W.zret hx hb hr zbl_0.1 (fun t ht _ => ⟨rfl, ht⟩) (fun _ h => nomatch h) dX3_isLoose_23
  · have hf := ifp hc hf
    refine lv_aload_n hx hb dX3_isLoose_10 rfl (lv_at hl 0 rfl) ?_
    refine lv_iload_n hx hb dX3_isLoose_11 rfl (lv_at hl 1 rfl) ?_
    obtain ⟨rv1, hrv1, hf⟩ := bd hf
    refine roI (va_runV (As := [.int x1]) (rest := []) ⟨hx, hb, hml, hown, hts⟩ (c_X3_usersOf l D cI cZ cM a0 a1 a2 a3 a4 a5 a_n a_L a_U a_H a_O a_B x1 fu rv1 hrv1) (cwV 1 hts gX3_isLoose_X3_usersOf rfl rfl rfl ⟨rfl, hdc_X3_usersOf⟩ ⟨Nat.le_of_ble_eq_true rfl, Nat.le_of_ble_eq_true rfl⟩) (prV hK hP [0, 1, 2, 3, 4, 5] rfl (ci := 3) (q0 := 0) rfl rfl) rfl rfl hl.1 rfl (lv_room (Nat.le_of_ble_eq_true rfl)) dX3_isLoose_12 ⟨Nat.zero_le _, Nat.zero_le _⟩) ?_
    refine lv_if_eq (tgt := 22) hx hb dX3_isLoose_15 (by decide) (fun hc => ?_) (fun hc => ?_)
    · have hf := ifp hc hf
      refine lv_iconst (v := (nI 0)) hx hb dX3_isLoose_22 ic_0 ?_
      cases hf
      exact W.zret hx hb hr zbl_0.1 (fun t ht _ => ⟨rfl, ht⟩) (fun _ h => nomatch h) dX3_isLoose_23
    · have hf := ifn hc hf
      refine lv_iconst (v := (nI 1)) hx hb dX3_isLoose_18 ic_1 ?_
      refine lv_goto (tgt := 23) hx hb dX3_isLoose_19 (by decide) ?_
      cases hf
      exact W.zret hx hb hr zbl_1.1 (fun t ht _ => ⟨rfl, ht⟩) (fun _ h => nomatch h) dX3_isLoose_23
theorem hdc_X3_neededBy : yX3_neededBy.cls ≠ "java/lang/invoke/MethodHandle" ∧ yX3_neededBy.cls ≠ "java/lang/invoke/VarHandle" ∧ (parseMethodDescriptor yX3_neededBy.desc).map (fun d => d.parameters.length) = some 1 := by decide +kernel
set_option maxHeartbeats 4000000 in
set_option maxRecDepth 100000 in
theorem c_X3_neededBy (l : Launch) (D : va_G) (cI cZ cM : ClassId) (a0 a1 a2 a3 a4 a5 : Nat) (a_n : Int32) (a_L : Nat → Int32) (a_U : Nat → Int32) (a_H : Nat → Int32) (a_O : Nat → Int32) (a_B : Nat → Int32) (x1 : Int32) (fu : Nat) (r : Int32) (hf : m_X3_neededBy fu a_U a_H x1 = some r) : Met l yX3_neededBy wsX3_neededBy ({ frames := 1, cells := 0, slots := 0, locals := 21 }) (pR D cI cZ cM [(a0, .inr (3, [.int a_n, .ref a1, .ref a2, .ref a3, .ref a4, .ref a5])), (a1, .inl (cI, 10, .inl a_L)), (a2, .inl (cI, 10, .inl a_U)), (a3, .inl (cI, 12, .inl a_H)), (a4, .inl (cI, 10, .inl a_O)), (a5, .inl (cI, 10, .inl a_B))] [.ref a0, .int x1]) (qR r) 0 0 (fun _ => False) := by
  refine Met.ofW (cc := cX3_neededBy) (maxL := 5) (ret := (some .int)) (by decide) rfl ?_
  intro p e s m args below meth c s₁ B hml hv
  obtain ⟨rfl, hP, hK⟩ := hv
  have hx := B.exec
  have hb := B.bytes
  have hr := B.returns
  have hts := atoms_spec (ws := wsX3_neededBy) B.pre
  have hown : s.vm.findClass RX3 = some m.cls := findClass_of_methodNamed B.named
  have hlocks := B.notSynchronized
  have hfl_15 := hts (.fieldLink RX3 15 "TermsFirst$Manual" "used" "[I") (List.mem_cons_of_mem _ (List.mem_append_left _ (List.mem_of_getElem? (i := 1) rfl)))
  have hfl_18 := hts (.fieldLink RX3 18 "TermsFirst$Manual" "homes" "[I") (List.mem_cons_of_mem _ (List.mem_append_left _ (List.mem_of_getElem? (i := 0) rfl)))
  have hn_7 : va_Nw (.methodLinkNest RX3 39 yX6_has RX6) s := nw_7 hK
  have hin_RX6 : (Cond.initialized yX6_has.cls).before _ s = true := hts (.initialized RX6) (List.mem_cons_of_mem _ (List.mem_append_left _ (List.mem_of_getElem? (i := 3) rfl)))
  have hst_X6_has := hts (.static yX6_has) (List.mem_cons_of_mem _ (List.mem_append_left _ (List.mem_of_getElem? (i := 2) rfl)))
  have hn_8 : va_Nw (.methodLinkNest RX3 43 yX6_with RX6) s := nw_8 hK
  have hin_RX6 : (Cond.initialized yX6_with.cls).before _ s = true := hts (.initialized RX6) (List.mem_cons_of_mem _ (List.mem_append_left _ (List.mem_of_getElem? (i := 3) rfl)))
  have hst_X6_with := hts (.static yX6_with) (List.mem_cons_of_mem _ (List.mem_append_left _ (List.mem_of_getElem? (i := 5) rfl)))
  have hiX3 : ∀ w ∈ u_ws RX3 TX3 6, w ∈ wsX3_neededBy := fun _ h => (List.mem_cons_of_mem _ (List.mem_append_right _ h))
  have hB_4 : ∀ (fn : Nat) (x2 : Int32) (x3 : Int32), m_X3_neededBy_4 a_U a_H x1 fn x2 x3 = some r → ∀ ls : Array Slot, lv_has ls 5 [(0, .ref a0), (1, .int x1), (2, .int x2), (3, .int x3)] → W p l e (headSpec wsX3_neededBy { frames := 1, cells := 0, slots := 0, locals := 21 }).room s m ([.ref a0, .int x1] : List Value).toArray below meth c s.heap [] 0 0 (MQ below (qR r) ([.ref a0, .int x1] : List Value).toArray s 0 0 (fun _ => False)) (F0 m 4 ls []) := by
    intro fn
    induction fn with
    | zero => intro x2 x3 hf; rw [m_X3_neededBy_4] at hf; cases hf
    | succ fn ih =>
      intro x2 x3 hf ls hl
      rw [m_X3_neededBy_4] at hf
      refine lv_iload_n hx hb dX3_neededBy_4 rfl (lv_at hl 3 rfl) ?_
      refine lv_bipush (v := (nI 12)) hx hb dX3_neededBy_5 bp_12 ?_
      refine lv_icmp_ge (tgt := 56) hx hb dX3_neededBy_7 (by decide) (fun hc => ?_) (fun hc => ?_)
      · have hf := ifp hc hf
        refine lv_iload_n hx hb dX3_neededBy_56 rfl (lv_at hl 2 rfl) ?_
        cases hf
        exact W.iret hx hb hr (fun t ht _ => ⟨rfl, ht⟩) (fun _ h => nomatch h) dX3_neededBy_57
      · have hf := ifn hc hf
        refine lv_aload_n hx hb dX3_neededBy_10 rfl (lv_at hl 0 rfl) ?_
        refine va_get (D := D) (ci := 3) (v := .ref a3) (C := RX3) (T := TX3) (N := 6) hx hb hts hiX3 hown hK.1 hP 0 rfl rfl 3 (by decide) hfl_18 (fun _ h9 => h9) rfl dX3_neededBy_11 ?_
        refine lv_iload_n hx hb dX3_neededBy_14 rfl (lv_at hl 3 rfl) ?_
        obtain ⟨hi, hf⟩ := gd_some hf
        refine va_iald hx hb hK.1 hP 3 0 rfl rfl hi dX3_neededBy_15 ?_
        refine lv_istore (lv' := [(4, .int (a_H x3.toNatClampNeg)), (0, .ref a0), (1, .int x1), (2, .int x2), (3, .int x3)]) hx hb dX3_neededBy_16 hl (by decide) rfl (fun ls hl => ?_)
        refine lv_iload hx hb dX3_neededBy_18 (lv_at hl 0 rfl) ?_
        refine lv_iconst (v := (-1 : Int32)) hx hb dX3_neededBy_20 ic_m1 ?_
        refine lv_icmp_eq (tgt := 50) hx hb dX3_neededBy_21 (by decide) (fun hc => ?_) (fun hc => ?_)
        · have hf := ifp hc hf
          refine lv_iinc (v := (x3 + (nI 1))) (lv' := [(3, .int (x3 + (nI 1))), (4, .int (a_H x3.toNatClampNeg)), (0, .ref a0), (1, .int x1), (2, .int x2)]) hx hb dX3_neededBy_50 hl (k := 4) rfl (ii_1 _) (by decide) rfl (fun ls hl => ?_)
          refine lv_goto (tgt := 4) hx hb dX3_neededBy_53 (by decide) ?_
          exact ih x2 (x3 + (nI 1)) hf  ls (lv_sub hl [2, 3, 4, 0] rfl)
        · have hf := ifn hc hf
          refine lv_iload hx hb dX3_neededBy_24 (lv_at hl 0 rfl) ?_
          refine lv_iload_n hx hb dX3_neededBy_26 rfl (lv_at hl 2 rfl) ?_
          refine lv_icmp_eq (tgt := 50) hx hb dX3_neededBy_27 (by decide) (fun hc => ?_) (fun hc => ?_)
          · have hf := ifp hc hf
            refine lv_iinc (v := (x3 + (nI 1))) (lv' := [(3, .int (x3 + (nI 1))), (4, .int (a_H x3.toNatClampNeg)), (0, .ref a0), (1, .int x1), (2, .int x2)]) hx hb dX3_neededBy_50 hl (k := 4) rfl (ii_1 _) (by decide) rfl (fun ls hl => ?_)
            refine lv_goto (tgt := 4) hx hb dX3_neededBy_53 (by decide) ?_
            exact ih x2 (x3 + (nI 1)) hf  ls (lv_sub hl [2, 3, 4, 0] rfl)
          · have hf := ifn hc hf
            refine lv_aload_n hx hb dX3_neededBy_30 rfl (lv_at hl 1 rfl) ?_
            refine va_get (D := D) (ci := 3) (v := .ref a2) (C := RX3) (T := TX3) (N := 6) hx hb hts hiX3 hown hK.1 hP 0 rfl rfl 2 (by decide) hfl_15 (fun _ h9 => h9) rfl dX3_neededBy_31 ?_
            refine lv_iload_n hx hb dX3_neededBy_34 rfl (lv_at hl 2 rfl) ?_
            obtain ⟨hi, hf⟩ := gd_some hf
            refine va_iald hx hb hK.1 hP 2 0 rfl rfl hi dX3_neededBy_35 ?_
            refine lv_iload_n hx hb dX3_neededBy_36 rfl (lv_at hl 4 rfl) ?_
            obtain ⟨rv1, hrv1, hf⟩ := bd hf
            refine roI (va_runSN (As := [.int (a_U x1.toNatClampNeg), .int x3]) (rest := []) ⟨hx, hb, hml, hown, hts⟩ (c_X6_has l D cI cZ cM (a_U x1.toNatClampNeg) x3 rv1 hrv1) ⟨va_cnB (host := RX6) 2 hts gX3_neededBy_X6_has_n39 rfl rfl rfl hn_7 hin_RX6 hdc_X6_has ⟨Nat.le_of_ble_eq_true rfl, Nat.le_of_ble_eq_true rfl⟩, hst_X6_has, trivial⟩ (prS hK hP [] rfl) rfl rfl hl.1 rfl (lv_room (Nat.le_of_ble_eq_true rfl)) dX3_neededBy_37 ⟨Nat.zero_le _, Nat.zero_le _⟩) ?_
            refine lv_if_eq (tgt := 50) hx hb dX3_neededBy_40 (by decide) (fun hc => ?_) (fun hc => ?_)
            · have hf := ifp hc hf
              refine lv_iinc (v := (x3 + (nI 1))) (lv' := [(3, .int (x3 + (nI 1))), (4, .int (a_H x3.toNatClampNeg)), (0, .ref a0), (1, .int x1), (2, .int x2)]) hx hb dX3_neededBy_50 hl (k := 4) rfl (ii_1 _) (by decide) rfl (fun ls hl => ?_)
              refine lv_goto (tgt := 4) hx hb dX3_neededBy_53 (by decide) ?_
              exact ih x2 (x3 + (nI 1)) hf  ls (lv_sub hl [2, 3, 4, 0] rfl)
            · have hf := ifn hc hf
              refine lv_iload_n hx hb dX3_neededBy_43 rfl (lv_at hl 3 rfl) ?_
              refine lv_iload hx hb dX3_neededBy_44 (lv_at hl 0 rfl) ?_
              obtain ⟨rv2, hrv2, hf⟩ := bd hf
              refine roI (va_runSN (As := [.int x2, .int (a_H x3.toNatClampNeg)]) (rest := []) ⟨hx, hb, hml, hown, hts⟩ (c_X6_with l D cI cZ cM x2 (a_H x3.toNatClampNeg) rv2 hrv2) ⟨va_cnB (host := RX6) 2 hts gX3_neededBy_X6_with_n43 rfl rfl rfl hn_8 hin_RX6 hdc_X6_with ⟨Nat.le_of_ble_eq_true rfl, Nat.le_of_ble_eq_true rfl⟩, hst_X6_with, trivial⟩ (prS hK hP [] rfl) rfl rfl hl.1 rfl (lv_room (Nat.le_of_ble_eq_true rfl)) dX3_neededBy_46 ⟨Nat.zero_le _, Nat.zero_le _⟩) ?_
              refine lv_istore_n (lv' := [(2, .int rv2), (4, .int (a_H x3.toNatClampNeg)), (0, .ref a0), (1, .int x1), (3, .int x3)]) hx hb dX3_neededBy_49 rfl hl (by decide) rfl (fun ls hl => ?_)
              refine lv_iinc (v := (x3 + (nI 1))) (lv' := [(3, .int (x3 + (nI 1))), (2, .int rv2), (4, .int (a_H x3.toNatClampNeg)), (0, .ref a0), (1, .int x1)]) hx hb dX3_neededBy_50 hl (k := 4) rfl (ii_1 _) (by decide) rfl (fun ls hl => ?_)
              refine lv_goto (tgt := 4) hx hb dX3_neededBy_53 (by decide) ?_
              exact ih rv2 (x3 + (nI 1)) hf  ls (lv_sub hl [3, 4, 1, 0] rfl)
  have hl := lv_entry ([.ref a0, .int x1]) (n := 5) (Nat.le_of_ble_eq_true rfl)
  rw [lg_entry_eq]
  generalize (lg_sl ([.ref a0, .int x1]) ++ List.replicate (5 - (lg_sl ([.ref a0, .int x1])).length) Slot.unset).toArray = ls at hl ⊢
  have hl : lv_has ls 5 [(0, .ref a0), (1, .int x1)] := hl
  unfold m_X3_neededBy at hf
  refine lv_iconst (v := (nI 0)) hx hb dX3_neededBy_0 ic_0 ?_
  refine lv_istore_n (lv' := [(2, .int (nI 0)), (0, .ref a0), (1, .int x1)]) hx hb dX3_neededBy_1 rfl hl (by decide) rfl (fun ls hl => ?_)
  refine lv_iconst (v := (nI 0)) hx hb dX3_neededBy_2 ic_0 ?_
  refine lv_istore_n (lv' := [(3, .int (nI 0)), (2, .int (nI 0)), (0, .ref a0), (1, .int x1)]) hx hb dX3_neededBy_3 rfl hl (by decide) rfl (fun ls hl => ?_)
  exact hB_4 fu (nI 0) (nI 0) hf  ls (lv_sub hl [2, 3, 1, 0] rfl)
theorem hdc_X3_countLoose : yX3_countLoose.cls ≠ "java/lang/invoke/MethodHandle" ∧ yX3_countLoose.cls ≠ "java/lang/invoke/VarHandle" ∧ (parseMethodDescriptor yX3_countLoose.desc).map (fun d => d.parameters.length) = some 0 := by decide +kernel
set_option maxHeartbeats 4000000 in
set_option maxRecDepth 100000 in
theorem c_X3_countLoose (l : Launch) (D : va_G) (cI cZ cM : ClassId) (a0 a1 a2 a3 a4 a5 : Nat) (a_n : Int32) (a_L : Nat → Int32) (a_U : Nat → Int32) (a_H : Nat → Int32) (a_O : Nat → Int32) (a_B : Nat → Int32) (fu : Nat) (r : Int32) (hf : m_X3_countLoose fu a_n a_U a_H = some r) : Met l yX3_countLoose wsX3_countLoose ({ frames := 3, cells := 0, slots := 0, locals := 65 }) (pR D cI cZ cM [(a0, .inr (3, [.int a_n, .ref a1, .ref a2, .ref a3, .ref a4, .ref a5])), (a1, .inl (cI, 10, .inl a_L)), (a2, .inl (cI, 10, .inl a_U)), (a3, .inl (cI, 12, .inl a_H)), (a4, .inl (cI, 10, .inl a_O)), (a5, .inl (cI, 10, .inl a_B))] [.ref a0]) (qR r) 0 0 (fun _ => False) := by
  refine Met.ofW (cc := cX3_countLoose) (maxL := 3) (ret := (some .int)) (by decide) rfl ?_
  intro p e s m args below meth c s₁ B hml hv
  obtain ⟨rfl, hP, hK⟩ := hv
  have hx := B.exec
  have hb := B.bytes
  have hr := B.returns
  have hts := atoms_spec (ws := wsX3_countLoose) B.pre
  have hown : s.vm.findClass RX3 = some m.cls := findClass_of_methodNamed B.named
  have hlocks := B.notSynchronized
  have hB_4 : ∀ (fn : Nat) (x1 : Int32) (x2 : Int32), m_X3_countLoose_4 fu a_n a_U a_H fn x1 x2 = some r → ∀ ls : Array Slot, lv_has ls 3 [(0, .ref a0), (1, .int x1), (2, .int x2)] → W p l e (headSpec wsX3_countLoose { frames := 3, cells := 0, slots := 0, locals := 65 }).room s m ([.ref a0] : List Value).toArray below meth c s.heap [] 0 0 (MQ below (qR r) ([.ref a0] : List Value).toArray s 0 0 (fun _ => False)) (F0 m 4 ls []) := by
    intro fn
    induction fn with
    | zero => intro x1 x2 hf; rw [m_X3_countLoose_4] at hf; cases hf
    | succ fn ih =>
      intro x1 x2 hf ls hl
      rw [m_X3_countLoose_4] at hf
      refine lv_iload_n hx hb dX3_countLoose_4 rfl (lv_at hl 2 rfl) ?_
      refine lv_bipush (v := (nI 12)) hx hb dX3_countLoose_5 bp_12 ?_
      refine lv_icmp_ge (tgt := 27) hx hb dX3_countLoose_7 (by decide) (fun hc => ?_) (fun hc => ?_)
      · have hf := ifp hc hf
        refine lv_iload_n hx hb dX3_countLoose_27 rfl (lv_at hl 1 rfl) ?_
        cases hf
        exact W.iret hx hb hr (fun t ht _ => ⟨rfl, ht⟩) (fun _ h => nomatch h) dX3_countLoose_28
      · have hf := ifn hc hf
        refine lv_aload_n hx hb dX3_countLoose_10 rfl (lv_at hl 0 rfl) ?_
        refine lv_iload_n hx hb dX3_countLoose_11 rfl (lv_at hl 2 rfl) ?_
        obtain ⟨rv1, hrv1, hf⟩ := bd hf
        refine roI (va_runV (As := [.int x2]) (rest := []) ⟨hx, hb, hml, hown, hts⟩ (c_X3_isLoose l D cI cZ cM a0 a1 a2 a3 a4 a5 a_n a_L a_U a_H a_O a_B x2 fu rv1 hrv1) (cwV 1 hts gX3_countLoose_X3_isLoose rfl rfl rfl ⟨rfl, hdc_X3_isLoose⟩ ⟨Nat.le_of_ble_eq_true rfl, Nat.le_of_ble_eq_true rfl⟩) (prV hK hP [0, 1, 2, 3, 4, 5] rfl (ci := 3) (q0 := 0) rfl rfl) rfl rfl hl.1 rfl (lv_room (Nat.le_of_ble_eq_true rfl)) dX3_countLoose_12 ⟨Nat.zero_le _, Nat.zero_le _⟩) ?_
        refine lv_if_eq (tgt := 21) hx hb dX3_countLoose_15 (by decide) (fun hc => ?_) (fun hc => ?_)
        · have hf := ifp hc hf
          refine lv_iinc (v := (x2 + (nI 1))) (lv' := [(2, .int (x2 + (nI 1))), (0, .ref a0), (1, .int x1)]) hx hb dX3_countLoose_21 hl (k := 2) rfl (ii_1 _) (by decide) rfl (fun ls hl => ?_)
          refine lv_goto (tgt := 4) hx hb dX3_countLoose_24 (by decide) ?_
          exact ih x1 (x2 + (nI 1)) hf  ls (lv_sub hl [1, 2, 0] rfl)
        · have hf := ifn hc hf
          refine lv_iinc (v := (x1 + (nI 1))) (lv' := [(1, .int (x1 + (nI 1))), (0, .ref a0), (2, .int x2)]) hx hb dX3_countLoose_18 hl (k := 1) rfl (ii_1 _) (by decide) rfl (fun ls hl => ?_)
          refine lv_iinc (v := (x2 + (nI 1))) (lv' := [(2, .int (x2 + (nI 1))), (1, .int (x1 + (nI 1))), (0, .ref a0)]) hx hb dX3_countLoose_21 hl (k := 2) rfl (ii_1 _) (by decide) rfl (fun ls hl => ?_)
          refine lv_goto (tgt := 4) hx hb dX3_countLoose_24 (by decide) ?_
          exact ih (x1 + (nI 1)) (x2 + (nI 1)) hf  ls (lv_sub hl [2, 1, 0] rfl)
  have hl := lv_entry ([.ref a0]) (n := 3) (Nat.le_of_ble_eq_true rfl)
  rw [lg_entry_eq]
  generalize (lg_sl ([.ref a0]) ++ List.replicate (3 - (lg_sl ([.ref a0])).length) Slot.unset).toArray = ls at hl ⊢
  have hl : lv_has ls 3 [(0, .ref a0)] := hl
  unfold m_X3_countLoose at hf
  refine lv_iconst (v := (nI 0)) hx hb dX3_countLoose_0 ic_0 ?_
  refine lv_istore_n (lv' := [(1, .int (nI 0)), (0, .ref a0)]) hx hb dX3_countLoose_1 rfl hl (by decide) rfl (fun ls hl => ?_)
  refine lv_iconst (v := (nI 0)) hx hb dX3_countLoose_2 ic_0 ?_
  refine lv_istore_n (lv' := [(2, .int (nI 0)), (1, .int (nI 0)), (0, .ref a0)]) hx hb dX3_countLoose_3 rfl hl (by decide) rfl (fun ls hl => ?_)
  exact hB_4 fu (nI 0) (nI 0) hf  ls (lv_sub hl [2, 1, 0] rfl)
theorem hdc_X3_countHomes : yX3_countHomes.cls ≠ "java/lang/invoke/MethodHandle" ∧ yX3_countHomes.cls ≠ "java/lang/invoke/VarHandle" ∧ (parseMethodDescriptor yX3_countHomes.desc).map (fun d => d.parameters.length) = some 0 := by decide +kernel
set_option maxHeartbeats 4000000 in
set_option maxRecDepth 100000 in
theorem c_X3_countHomes (l : Launch) (D : va_G) (cI cZ cM : ClassId) (a0 a1 a2 a3 a4 a5 : Nat) (a_n : Int32) (a_L : Nat → Int32) (a_U : Nat → Int32) (a_H : Nat → Int32) (a_O : Nat → Int32) (a_B : Nat → Int32) (fu : Nat) (r : Int32) (hf : m_X3_countHomes fu a_H = some r) : Met l yX3_countHomes wsX3_countHomes ({ frames := 0, cells := 0, slots := 0, locals := 0 }) (pR D cI cZ cM [(a0, .inr (3, [.int a_n, .ref a1, .ref a2, .ref a3, .ref a4, .ref a5])), (a1, .inl (cI, 10, .inl a_L)), (a2, .inl (cI, 10, .inl a_U)), (a3, .inl (cI, 12, .inl a_H)), (a4, .inl (cI, 10, .inl a_O)), (a5, .inl (cI, 10, .inl a_B))] [.ref a0]) (qR r) 0 0 (fun _ => False) := by
  refine Met.ofW (cc := cX3_countHomes) (maxL := 3) (ret := (some .int)) (by decide) rfl ?_
  intro p e s m args below meth c s₁ B hml hv
  obtain ⟨rfl, hP, hK⟩ := hv
  have hx := B.exec
  have hb := B.bytes
  have hr := B.returns
  have hts := atoms_spec (ws := wsX3_countHomes) B.pre
  have hown : s.vm.findClass RX3 = some m.cls := findClass_of_methodNamed B.named
  have hlocks := B.notSynchronized
  have hfl_18 := hts (.fieldLink RX3 18 "TermsFirst$Manual" "homes" "[I") (List.mem_cons_of_mem _ (List.mem_append_left _ (List.mem_of_getElem? (i := 0) rfl)))
  have hiX3 : ∀ w ∈ u_ws RX3 TX3 6, w ∈ wsX3_countHomes := fun _ h => (List.mem_cons_of_mem _ (List.mem_append_right _ h))
  have hB_4 : ∀ (fn : Nat) (x1 : Int32) (x2 : Int32), m_X3_countHomes_4 a_H fn x1 x2 = some r → ∀ ls : Array Slot, lv_has ls 3 [(0, .ref a0), (1, .int x1), (2, .int x2)] → W p l e (headSpec wsX3_countHomes { frames := 0, cells := 0, slots := 0, locals := 0 }).room s m ([.ref a0] : List Value).toArray below meth c s.heap [] 0 0 (MQ below (qR r) ([.ref a0] : List Value).toArray s 0 0 (fun _ => False)) (F0 m 4 ls []) := by
    intro fn
    induction fn with
    | zero => intro x1 x2 hf; rw [m_X3_countHomes_4] at hf; cases hf
    | succ fn ih =>
      intro x1 x2 hf ls hl
      rw [m_X3_countHomes_4] at hf
      refine lv_iload_n hx hb dX3_countHomes_4 rfl (lv_at hl 2 rfl) ?_
      refine lv_bipush (v := (nI 12)) hx hb dX3_countHomes_5 bp_12 ?_
      refine lv_icmp_ge (tgt := 29) hx hb dX3_countHomes_7 (by decide) (fun hc => ?_) (fun hc => ?_)
      · have hf := ifp hc hf
        refine lv_iload_n hx hb dX3_countHomes_29 rfl (lv_at hl 1 rfl) ?_
        cases hf
        exact W.iret hx hb hr (fun t ht _ => ⟨rfl, ht⟩) (fun _ h => nomatch h) dX3_countHomes_30
      · have hf := ifn hc hf
        refine lv_aload_n hx hb dX3_countHomes_10 rfl (lv_at hl 0 rfl) ?_
        refine va_get (D := D) (ci := 3) (v := .ref a3) (C := RX3) (T := TX3) (N := 6) hx hb hts hiX3 hown hK.1 hP 0 rfl rfl 3 (by decide) hfl_18 (fun _ h9 => h9) rfl dX3_countHomes_11 ?_
        refine lv_iload_n hx hb dX3_countHomes_14 rfl (lv_at hl 2 rfl) ?_
        obtain ⟨hi, hf⟩ := gd_some hf
        refine va_iald hx hb hK.1 hP 3 0 rfl rfl hi dX3_countHomes_15 ?_
        refine lv_iconst (v := (-1 : Int32)) hx hb dX3_countHomes_16 ic_m1 ?_
        refine lv_icmp_eq (tgt := 23) hx hb dX3_countHomes_17 (by decide) (fun hc => ?_) (fun hc => ?_)
        · have hf := ifp hc hf
          refine lv_iinc (v := (x2 + (nI 1))) (lv' := [(2, .int (x2 + (nI 1))), (0, .ref a0), (1, .int x1)]) hx hb dX3_countHomes_23 hl (k := 2) rfl (ii_1 _) (by decide) rfl (fun ls hl => ?_)
          refine lv_goto (tgt := 4) hx hb dX3_countHomes_26 (by decide) ?_
          exact ih x1 (x2 + (nI 1)) hf  ls (lv_sub hl [1, 2, 0] rfl)
        · have hf := ifn hc hf
          refine lv_iinc (v := (x1 + (nI 1))) (lv' := [(1, .int (x1 + (nI 1))), (0, .ref a0), (2, .int x2)]) hx hb dX3_countHomes_20 hl (k := 1) rfl (ii_1 _) (by decide) rfl (fun ls hl => ?_)
          refine lv_iinc (v := (x2 + (nI 1))) (lv' := [(2, .int (x2 + (nI 1))), (1, .int (x1 + (nI 1))), (0, .ref a0)]) hx hb dX3_countHomes_23 hl (k := 2) rfl (ii_1 _) (by decide) rfl (fun ls hl => ?_)
          refine lv_goto (tgt := 4) hx hb dX3_countHomes_26 (by decide) ?_
          exact ih (x1 + (nI 1)) (x2 + (nI 1)) hf  ls (lv_sub hl [2, 1, 0] rfl)
  have hl := lv_entry ([.ref a0]) (n := 3) (Nat.le_of_ble_eq_true rfl)
  rw [lg_entry_eq]
  generalize (lg_sl ([.ref a0]) ++ List.replicate (3 - (lg_sl ([.ref a0])).length) Slot.unset).toArray = ls at hl ⊢
  have hl : lv_has ls 3 [(0, .ref a0)] := hl
  unfold m_X3_countHomes at hf
  refine lv_iconst (v := (nI 0)) hx hb dX3_countHomes_0 ic_0 ?_
  refine lv_istore_n (lv' := [(1, .int (nI 0)), (0, .ref a0)]) hx hb dX3_countHomes_1 rfl hl (by decide) rfl (fun ls hl => ?_)
  refine lv_iconst (v := (nI 0)) hx hb dX3_countHomes_2 ic_0 ?_
  refine lv_istore_n (lv' := [(2, .int (nI 0)), (1, .int (nI 0)), (0, .ref a0)]) hx hb dX3_countHomes_3 rfl hl (by decide) rfl (fun ls hl => ?_)
  exact hB_4 fu (nI 0) (nI 0) hf  ls (lv_sub hl [2, 1, 0] rfl)
theorem hdc_X3_countUses : yX3_countUses.cls ≠ "java/lang/invoke/MethodHandle" ∧ yX3_countUses.cls ≠ "java/lang/invoke/VarHandle" ∧ (parseMethodDescriptor yX3_countUses.desc).map (fun d => d.parameters.length) = some 0 := by decide +kernel
set_option maxHeartbeats 4000000 in
set_option maxRecDepth 100000 in
theorem c_X3_countUses (l : Launch) (D : va_G) (cI cZ cM : ClassId) (a0 a1 a2 a3 a4 a5 : Nat) (a_n : Int32) (a_L : Nat → Int32) (a_U : Nat → Int32) (a_H : Nat → Int32) (a_O : Nat → Int32) (a_B : Nat → Int32) (fu : Nat) (r : Int32) (hf : m_X3_countUses fu a_n a_U = some r) : Met l yX3_countUses wsX3_countUses ({ frames := 1, cells := 0, slots := 0, locals := 20 }) (pR D cI cZ cM [(a0, .inr (3, [.int a_n, .ref a1, .ref a2, .ref a3, .ref a4, .ref a5])), (a1, .inl (cI, 10, .inl a_L)), (a2, .inl (cI, 10, .inl a_U)), (a3, .inl (cI, 12, .inl a_H)), (a4, .inl (cI, 10, .inl a_O)), (a5, .inl (cI, 10, .inl a_B))] [.ref a0]) (qR r) 0 0 (fun _ => False) := by
  refine Met.ofW (cc := cX3_countUses) (maxL := 3) (ret := (some .int)) (by decide) rfl ?_
  intro p e s m args below meth c s₁ B hml hv
  obtain ⟨rfl, hP, hK⟩ := hv
  have hx := B.exec
  have hb := B.bytes
  have hr := B.returns
  have hts := atoms_spec (ws := wsX3_countUses) B.pre
  have hown : s.vm.findClass RX3 = some m.cls := findClass_of_methodNamed B.named
  have hlocks := B.notSynchronized
  have hfl_15 := hts (.fieldLink RX3 15 "TermsFirst$Manual" "used" "[I") (List.mem_cons_of_mem _ (List.mem_append_left _ (List.mem_of_getElem? (i := 1) rfl)))
  have hfl_31 := hts (.fieldLink RX3 31 "TermsFirst$Manual" "n" "I") (List.mem_cons_of_mem _ (List.mem_append_left _ (List.mem_of_getElem? (i := 0) rfl)))
  have hiX3 : ∀ w ∈ u_ws RX3 TX3 6, w ∈ wsX3_countUses := fun _ h => (List.mem_cons_of_mem _ (List.mem_append_right _ h))
  have hB_4 : ∀ (fn : Nat) (x1 : Int32) (x2 : Int32), m_X3_countUses_4 a_n a_U fn x1 x2 = some r → ∀ ls : Array Slot, lv_has ls 3 [(0, .ref a0), (1, .int x1), (2, .int x2)] → W p l e (headSpec wsX3_countUses { frames := 1, cells := 0, slots := 0, locals := 20 }).room s m ([.ref a0] : List Value).toArray below meth c s.heap [] 0 0 (MQ below (qR r) ([.ref a0] : List Value).toArray s 0 0 (fun _ => False)) (F0 m 4 ls []) := by
    intro fn
    induction fn with
    | zero => intro x1 x2 hf; rw [m_X3_countUses_4] at hf; cases hf
    | succ fn ih =>
      intro x1 x2 hf ls hl
      rw [m_X3_countUses_4] at hf
      refine lv_iload_n hx hb dX3_countUses_4 rfl (lv_at hl 2 rfl) ?_
      refine lv_aload_n hx hb dX3_countUses_5 rfl (lv_at hl 0 rfl) ?_
      refine va_get (D := D) (ci := 3) (v := .int a_n) (C := RX3) (T := TX3) (N := 6) hx hb hts hiX3 hown hK.1 hP 0 rfl rfl 0 (by decide) hfl_31 (fun _ h9 => h9) rfl dX3_countUses_6 ?_
      refine lv_icmp_ge (tgt := 30) hx hb dX3_countUses_9 (by decide) (fun hc => ?_) (fun hc => ?_)
      · have hf := ifp hc hf
        refine lv_iload_n hx hb dX3_countUses_30 rfl (lv_at hl 1 rfl) ?_
        cases hf
        exact W.iret hx hb hr (fun t ht _ => ⟨rfl, ht⟩) (fun _ h => nomatch h) dX3_countUses_31
      · have hf := ifn hc hf
        refine lv_iload_n hx hb dX3_countUses_12 rfl (lv_at hl 1 rfl) ?_
        refine lv_aload_n hx hb dX3_countUses_13 rfl (lv_at hl 0 rfl) ?_
        refine va_get (D := D) (ci := 3) (v := .ref a2) (C := RX3) (T := TX3) (N := 6) hx hb hts hiX3 hown hK.1 hP 0 rfl rfl 2 (by decide) hfl_15 (fun _ h9 => h9) rfl dX3_countUses_14 ?_
        refine lv_iload_n hx hb dX3_countUses_17 rfl (lv_at hl 2 rfl) ?_
        obtain ⟨hi, hf⟩ := gd_some hf
        refine va_iald hx hb hK.1 hP 2 0 rfl rfl hi dX3_countUses_18 ?_
        obtain ⟨rv1, hrv1, hf⟩ := bd hf
        refine roI (va_runS (As := [.int (a_U x2.toNatClampNeg)]) (rest := [.int x1]) ⟨hx, hb, hml, hown, hts⟩ (c_J6_bitCount_0f7a4 l D cI cZ cM (a_U x2.toNatClampNeg) rv1 hrv1) (va_cwS 1 hts gX3_countUses_J6_bitCount_0f7a4 rfl rfl rfl hdc_J6_bitCount_0f7a4 ⟨Nat.le_of_ble_eq_true rfl, Nat.le_of_ble_eq_true rfl⟩) (prS hK hP [] rfl) rfl rfl hl.1 rfl (lv_room (Nat.le_of_ble_eq_true rfl)) dX3_countUses_19 ⟨Nat.zero_le _, Nat.zero_le _⟩) ?_
        refine lv_iadd hx hb dX3_countUses_22 ?_
        refine lv_istore_n (lv' := [(1, .int (x1 + rv1)), (0, .ref a0), (2, .int x2)]) hx hb dX3_countUses_23 rfl hl (by decide) rfl (fun ls hl => ?_)
        refine lv_iinc (v := (x2 + (nI 1))) (lv' := [(2, .int (x2 + (nI 1))), (1, .int (x1 + rv1)), (0, .ref a0)]) hx hb dX3_countUses_24 hl (k := 2) rfl (ii_1 _) (by decide) rfl (fun ls hl => ?_)
        refine lv_goto (tgt := 4) hx hb dX3_countUses_27 (by decide) ?_
        exact ih (x1 + rv1) (x2 + (nI 1)) hf  ls (lv_sub hl [2, 1, 0] rfl)
  have hl := lv_entry ([.ref a0]) (n := 3) (Nat.le_of_ble_eq_true rfl)
  rw [lg_entry_eq]
  generalize (lg_sl ([.ref a0]) ++ List.replicate (3 - (lg_sl ([.ref a0])).length) Slot.unset).toArray = ls at hl ⊢
  have hl : lv_has ls 3 [(0, .ref a0)] := hl
  unfold m_X3_countUses at hf
  refine lv_iconst (v := (nI 0)) hx hb dX3_countUses_0 ic_0 ?_
  refine lv_istore_n (lv' := [(1, .int (nI 0)), (0, .ref a0)]) hx hb dX3_countUses_1 rfl hl (by decide) rfl (fun ls hl => ?_)
  refine lv_iconst (v := (nI 0)) hx hb dX3_countUses_2 ic_0 ?_
  refine lv_istore_n (lv' := [(2, .int (nI 0)), (1, .int (nI 0)), (0, .ref a0)]) hx hb dX3_countUses_3 rfl hl (by decide) rfl (fun ls hl => ?_)
  exact hB_4 fu (nI 0) (nI 0) hf  ls (lv_sub hl [2, 1, 0] rfl)
theorem hdc_X3_sumPages : yX3_sumPages.cls ≠ "java/lang/invoke/MethodHandle" ∧ yX3_sumPages.cls ≠ "java/lang/invoke/VarHandle" ∧ (parseMethodDescriptor yX3_sumPages.desc).map (fun d => d.parameters.length) = some 0 := by decide +kernel
set_option maxHeartbeats 4000000 in
set_option maxRecDepth 100000 in
theorem c_X3_sumPages (l : Launch) (D : va_G) (cI cZ cM : ClassId) (a0 a1 a2 a3 a4 a5 : Nat) (a_n : Int32) (a_L : Nat → Int32) (a_U : Nat → Int32) (a_H : Nat → Int32) (a_O : Nat → Int32) (a_B : Nat → Int32) (fu : Nat) (r : Int32) (hf : m_X3_sumPages fu a_n a_L = some r) : Met l yX3_sumPages wsX3_sumPages ({ frames := 0, cells := 0, slots := 0, locals := 0 }) (pR D cI cZ cM [(a0, .inr (3, [.int a_n, .ref a1, .ref a2, .ref a3, .ref a4, .ref a5])), (a1, .inl (cI, 10, .inl a_L)), (a2, .inl (cI, 10, .inl a_U)), (a3, .inl (cI, 12, .inl a_H)), (a4, .inl (cI, 10, .inl a_O)), (a5, .inl (cI, 10, .inl a_B))] [.ref a0]) (qR r) 0 0 (fun _ => False) := by
  refine Met.ofW (cc := cX3_sumPages) (maxL := 3) (ret := (some .int)) (by decide) rfl ?_
  intro p e s m args below meth c s₁ B hml hv
  obtain ⟨rfl, hP, hK⟩ := hv
  have hx := B.exec
  have hb := B.bytes
  have hr := B.returns
  have hts := atoms_spec (ws := wsX3_sumPages) B.pre
  have hown : s.vm.findClass RX3 = some m.cls := findClass_of_methodNamed B.named
  have hlocks := B.notSynchronized
  have hfl_9 := hts (.fieldLink RX3 9 "TermsFirst$Manual" "lengths" "[I") (List.mem_cons_of_mem _ (List.mem_append_left _ (List.mem_of_getElem? (i := 1) rfl)))
  have hfl_31 := hts (.fieldLink RX3 31 "TermsFirst$Manual" "n" "I") (List.mem_cons_of_mem _ (List.mem_append_left _ (List.mem_of_getElem? (i := 0) rfl)))
  have hiX3 : ∀ w ∈ u_ws RX3 TX3 6, w ∈ wsX3_sumPages := fun _ h => (List.mem_cons_of_mem _ (List.mem_append_right _ h))
  have hB_4 : ∀ (fn : Nat) (x1 : Int32) (x2 : Int32), m_X3_sumPages_4 a_n a_L fn x1 x2 = some r → ∀ ls : Array Slot, lv_has ls 3 [(0, .ref a0), (1, .int x1), (2, .int x2)] → W p l e (headSpec wsX3_sumPages { frames := 0, cells := 0, slots := 0, locals := 0 }).room s m ([.ref a0] : List Value).toArray below meth c s.heap [] 0 0 (MQ below (qR r) ([.ref a0] : List Value).toArray s 0 0 (fun _ => False)) (F0 m 4 ls []) := by
    intro fn
    induction fn with
    | zero => intro x1 x2 hf; rw [m_X3_sumPages_4] at hf; cases hf
    | succ fn ih =>
      intro x1 x2 hf ls hl
      rw [m_X3_sumPages_4] at hf
      refine lv_iload_n hx hb dX3_sumPages_4 rfl (lv_at hl 2 rfl) ?_
      refine lv_aload_n hx hb dX3_sumPages_5 rfl (lv_at hl 0 rfl) ?_
      refine va_get (D := D) (ci := 3) (v := .int a_n) (C := RX3) (T := TX3) (N := 6) hx hb hts hiX3 hown hK.1 hP 0 rfl rfl 0 (by decide) hfl_31 (fun _ h9 => h9) rfl dX3_sumPages_6 ?_
      refine lv_icmp_ge (tgt := 27) hx hb dX3_sumPages_9 (by decide) (fun hc => ?_) (fun hc => ?_)
      · have hf := ifp hc hf
        refine lv_iload_n hx hb dX3_sumPages_27 rfl (lv_at hl 1 rfl) ?_
        cases hf
        exact W.iret hx hb hr (fun t ht _ => ⟨rfl, ht⟩) (fun _ h => nomatch h) dX3_sumPages_28
      · have hf := ifn hc hf
        refine lv_iload_n hx hb dX3_sumPages_12 rfl (lv_at hl 1 rfl) ?_
        refine lv_aload_n hx hb dX3_sumPages_13 rfl (lv_at hl 0 rfl) ?_
        refine va_get (D := D) (ci := 3) (v := .ref a1) (C := RX3) (T := TX3) (N := 6) hx hb hts hiX3 hown hK.1 hP 0 rfl rfl 1 (by decide) hfl_9 (fun _ h9 => h9) rfl dX3_sumPages_14 ?_
        refine lv_iload_n hx hb dX3_sumPages_17 rfl (lv_at hl 2 rfl) ?_
        obtain ⟨hi, hf⟩ := gd_some hf
        refine va_iald hx hb hK.1 hP 1 0 rfl rfl hi dX3_sumPages_18 ?_
        refine lv_iadd hx hb dX3_sumPages_19 ?_
        refine lv_istore_n (lv' := [(1, .int (x1 + (a_L x2.toNatClampNeg))), (0, .ref a0), (2, .int x2)]) hx hb dX3_sumPages_20 rfl hl (by decide) rfl (fun ls hl => ?_)
        refine lv_iinc (v := (x2 + (nI 1))) (lv' := [(2, .int (x2 + (nI 1))), (1, .int (x1 + (a_L x2.toNatClampNeg))), (0, .ref a0)]) hx hb dX3_sumPages_21 hl (k := 2) rfl (ii_1 _) (by decide) rfl (fun ls hl => ?_)
        refine lv_goto (tgt := 4) hx hb dX3_sumPages_24 (by decide) ?_
        exact ih (x1 + (a_L x2.toNatClampNeg)) (x2 + (nI 1)) hf  ls (lv_sub hl [2, 1, 0] rfl)
  have hl := lv_entry ([.ref a0]) (n := 3) (Nat.le_of_ble_eq_true rfl)
  rw [lg_entry_eq]
  generalize (lg_sl ([.ref a0]) ++ List.replicate (3 - (lg_sl ([.ref a0])).length) Slot.unset).toArray = ls at hl ⊢
  have hl : lv_has ls 3 [(0, .ref a0)] := hl
  unfold m_X3_sumPages at hf
  refine lv_iconst (v := (nI 0)) hx hb dX3_sumPages_0 ic_0 ?_
  refine lv_istore_n (lv' := [(1, .int (nI 0)), (0, .ref a0)]) hx hb dX3_sumPages_1 rfl hl (by decide) rfl (fun ls hl => ?_)
  refine lv_iconst (v := (nI 0)) hx hb dX3_sumPages_2 ic_0 ?_
  refine lv_istore_n (lv' := [(2, .int (nI 0)), (1, .int (nI 0)), (0, .ref a0)]) hx hb dX3_sumPages_3 rfl hl (by decide) rfl (fun ls hl => ?_)
  exact hB_4 fu (nI 0) (nI 0) hf  ls (lv_sub hl [2, 1, 0] rfl)
theorem hdc_X3_earlyTerms : yX3_earlyTerms.cls ≠ "java/lang/invoke/MethodHandle" ∧ yX3_earlyTerms.cls ≠ "java/lang/invoke/VarHandle" ∧ (parseMethodDescriptor yX3_earlyTerms.desc).map (fun d => d.parameters.length) = some 1 := by decide +kernel
set_option maxHeartbeats 4000000 in
set_option maxRecDepth 100000 in
theorem c_X3_earlyTerms (l : Launch) (D : va_G) (cI cZ cM : ClassId) (a0 a1 a2 a3 a4 a5 : Nat) (a_n : Int32) (a_L : Nat → Int32) (a_U : Nat → Int32) (a_H : Nat → Int32) (a_O : Nat → Int32) (a_B : Nat → Int32) (x1 : Int32) (fu : Nat) (r : Int32) (hf : m_X3_earlyTerms fu a_n a_U a_H a_O x1 = some r) : Met l yX3_earlyTerms wsX3_earlyTerms ({ frames := 2, cells := 0, slots := 0, locals := 44 }) (pR D cI cZ cM [(a0, .inr (3, [.int a_n, .ref a1, .ref a2, .ref a3, .ref a4, .ref a5])), (a1, .inl (cI, 10, .inl a_L)), (a2, .inl (cI, 10, .inl a_U)), (a3, .inl (cI, 12, .inl a_H)), (a4, .inl (cI, 10, .inl a_O)), (a5, .inl (cI, 10, .inl a_B))] [.ref a0, .int x1]) (qR r) 0 0 (fun _ => False) := by
  refine Met.ofW (cc := cX3_earlyTerms) (maxL := 4) (ret := (some .int)) (by decide) rfl ?_
  intro p e s m args below meth c s₁ B hml hv
  obtain ⟨rfl, hP, hK⟩ := hv
  have hx := B.exec
  have hb := B.bytes
  have hr := B.returns
  have hts := atoms_spec (ws := wsX3_earlyTerms) B.pre
  have hown : s.vm.findClass RX3 = some m.cls := findClass_of_methodNamed B.named
  have hlocks := B.notSynchronized
  have hfl_15 := hts (.fieldLink RX3 15 "TermsFirst$Manual" "used" "[I") (List.mem_cons_of_mem _ (List.mem_append_left _ (List.mem_of_getElem? (i := 2) rfl)))
  have hfl_21 := hts (.fieldLink RX3 21 "TermsFirst$Manual" "order" "[I") (List.mem_cons_of_mem _ (List.mem_append_left _ (List.mem_of_getElem? (i := 1) rfl)))
  have hfl_31 := hts (.fieldLink RX3 31 "TermsFirst$Manual" "n" "I") (List.mem_cons_of_mem _ (List.mem_append_left _ (List.mem_of_getElem? (i := 0) rfl)))
  have hiX3 : ∀ w ∈ u_ws RX3 TX3 6, w ∈ wsX3_earlyTerms := fun _ h => (List.mem_cons_of_mem _ (List.mem_append_right _ h))
  have hB_10 : ∀ (fn : Nat) (x2 : Int32) (x3 : Int32), m_X3_earlyTerms_10 fu a_n a_U a_H a_O x1 fn x2 x3 = some r → ∀ ls : Array Slot, lv_has ls 4 [(0, .ref a0), (1, .int x1), (2, .int x2), (3, .int x3)] → W p l e (headSpec wsX3_earlyTerms { frames := 2, cells := 0, slots := 0, locals := 44 }).room s m ([.ref a0, .int x1] : List Value).toArray below meth c s.heap [] 0 0 (MQ below (qR r) ([.ref a0, .int x1] : List Value).toArray s 0 0 (fun _ => False)) (F0 m 10 ls []) := by
    intro fn
    induction fn with
    | zero => intro x2 x3 hf; rw [m_X3_earlyTerms_10] at hf; cases hf
    | succ fn ih =>
      intro x2 x3 hf ls hl
      rw [m_X3_earlyTerms_10] at hf
      refine lv_iload_n hx hb dX3_earlyTerms_10 rfl (lv_at hl 3 rfl) ?_
      refine lv_aload_n hx hb dX3_earlyTerms_11 rfl (lv_at hl 0 rfl) ?_
      refine va_get (D := D) (ci := 3) (v := .int a_n) (C := RX3) (T := TX3) (N := 6) hx hb hts hiX3 hown hK.1 hP 0 rfl rfl 0 (by decide) hfl_31 (fun _ h9 => h9) rfl dX3_earlyTerms_12 ?_
      refine lv_icmp_ge (tgt := 37) hx hb dX3_earlyTerms_15 (by decide) (fun hc => ?_) (fun hc => ?_)
      · have hf := ifp hc hf
        refine lv_aload_n hx hb dX3_earlyTerms_37 rfl (lv_at hl 0 rfl) ?_
        refine va_get (D := D) (ci := 3) (v := .ref a2) (C := RX3) (T := TX3) (N := 6) hx hb hts hiX3 hown hK.1 hP 0 rfl rfl 2 (by decide) hfl_15 (fun _ h9 => h9) rfl dX3_earlyTerms_38 ?_
        refine lv_iload_n hx hb dX3_earlyTerms_41 rfl (lv_at hl 1 rfl) ?_
        obtain ⟨hi, hf⟩ := gd_some hf
        refine va_iald hx hb hK.1 hP 2 0 rfl rfl hi dX3_earlyTerms_42 ?_
        refine lv_iload_n hx hb dX3_earlyTerms_43 rfl (lv_at hl 2 rfl) ?_
        refine lv_iand hx hb dX3_earlyTerms_44 ?_
        cases hf
        exact W.iret hx hb hr (fun t ht _ => ⟨rfl, ht⟩) (fun _ h => nomatch h) dX3_earlyTerms_45
      · have hf := ifn hc hf
        refine lv_iload_n hx hb dX3_earlyTerms_18 rfl (lv_at hl 2 rfl) ?_
        refine lv_aload_n hx hb dX3_earlyTerms_19 rfl (lv_at hl 0 rfl) ?_
        refine lv_aload_n hx hb dX3_earlyTerms_20 rfl (lv_at hl 0 rfl) ?_
        refine va_get (D := D) (ci := 3) (v := .ref a4) (C := RX3) (T := TX3) (N := 6) hx hb hts hiX3 hown hK.1 hP 0 rfl rfl 4 (by decide) hfl_21 (fun _ h9 => h9) rfl dX3_earlyTerms_21 ?_
        refine lv_iload_n hx hb dX3_earlyTerms_24 rfl (lv_at hl 3 rfl) ?_
        obtain ⟨hi, hf⟩ := gd_some hf
        refine va_iald hx hb hK.1 hP 4 0 rfl rfl hi dX3_earlyTerms_25 ?_
        obtain ⟨rv2, hrv2, hf⟩ := bd hf
        refine roI (va_runV (As := [.int (a_O x3.toNatClampNeg)]) (rest := [.int x2]) ⟨hx, hb, hml, hown, hts⟩ (c_X3_termsAtHome l D cI cZ cM a0 a1 a2 a3 a4 a5 a_n a_L a_U a_H a_O a_B (a_O x3.toNatClampNeg) fu rv2 hrv2) (cwV 1 hts gX3_earlyTerms_X3_termsAtHome rfl rfl rfl ⟨rfl, hdc_X3_termsAtHome⟩ ⟨Nat.le_of_ble_eq_true rfl, Nat.le_of_ble_eq_true rfl⟩) (prV hK hP [0, 1, 2, 3, 4, 5] rfl (ci := 3) (q0 := 0) rfl rfl) rfl rfl hl.1 rfl (lv_room (Nat.le_of_ble_eq_true rfl)) dX3_earlyTerms_26 ⟨Nat.zero_le _, Nat.zero_le _⟩) ?_
        refine lv_ior hx hb dX3_earlyTerms_29 ?_
        refine lv_istore_n (lv' := [(2, .int (x2 ||| rv2)), (0, .ref a0), (1, .int x1), (3, .int x3)]) hx hb dX3_earlyTerms_30 rfl hl (by decide) rfl (fun ls hl => ?_)
        refine lv_iinc (v := (x3 + (nI 1))) (lv' := [(3, .int (x3 + (nI 1))), (2, .int (x2 ||| rv2)), (0, .ref a0), (1, .int x1)]) hx hb dX3_earlyTerms_31 hl (k := 3) rfl (ii_1 _) (by decide) rfl (fun ls hl => ?_)
        refine lv_goto (tgt := 10) hx hb dX3_earlyTerms_34 (by decide) ?_
        exact ih (x2 ||| rv2) (x3 + (nI 1)) hf  ls (lv_sub hl [2, 3, 1, 0] rfl)
  have hl := lv_entry ([.ref a0, .int x1]) (n := 4) (Nat.le_of_ble_eq_true rfl)
  rw [lg_entry_eq]
  generalize (lg_sl ([.ref a0, .int x1]) ++ List.replicate (4 - (lg_sl ([.ref a0, .int x1])).length) Slot.unset).toArray = ls at hl ⊢
  have hl : lv_has ls 4 [(0, .ref a0), (1, .int x1)] := hl
  unfold m_X3_earlyTerms at hf
  refine lv_iconst (v := (nI 0)) hx hb dX3_earlyTerms_0 ic_0 ?_
  refine lv_istore_n (lv' := [(2, .int (nI 0)), (0, .ref a0), (1, .int x1)]) hx hb dX3_earlyTerms_1 rfl hl (by decide) rfl (fun ls hl => ?_)
  refine lv_aload_n hx hb dX3_earlyTerms_2 rfl (lv_at hl 1 rfl) ?_
  refine lv_iload_n hx hb dX3_earlyTerms_3 rfl (lv_at hl 2 rfl) ?_
  obtain ⟨rv1, hrv1, hf⟩ := bd hf
  refine roI (va_runV (As := [.int x1]) (rest := []) ⟨hx, hb, hml, hown, hts⟩ (c_X3_placeOf l D cI cZ cM a0 a1 a2 a3 a4 a5 a_n a_L a_U a_H a_O a_B x1 fu rv1 hrv1) (cwV 1 hts gX3_earlyTerms_X3_placeOf rfl rfl rfl ⟨rfl, hdc_X3_placeOf⟩ ⟨Nat.le_of_ble_eq_true rfl, Nat.le_of_ble_eq_true rfl⟩) (prV hK hP [0, 1, 2, 3, 4, 5] rfl (ci := 3) (q0 := 0) rfl rfl) rfl rfl hl.1 rfl (lv_room (Nat.le_of_ble_eq_true rfl)) dX3_earlyTerms_4 ⟨Nat.zero_le _, Nat.zero_le _⟩) ?_
  refine lv_iconst (v := (nI 1)) hx hb dX3_earlyTerms_7 ic_1 ?_
  refine lv_iadd hx hb dX3_earlyTerms_8 ?_
  refine lv_istore_n (lv' := [(3, .int (rv1 + (nI 1))), (2, .int (nI 0)), (0, .ref a0), (1, .int x1)]) hx hb dX3_earlyTerms_9 rfl hl (by decide) rfl (fun ls hl => ?_)
  exact hB_10 fu (nI 0) (rv1 + (nI 1)) hf  ls (lv_sub hl [2, 3, 1, 0] rfl)
theorem hdc_X3_countEarly : yX3_countEarly.cls ≠ "java/lang/invoke/MethodHandle" ∧ yX3_countEarly.cls ≠ "java/lang/invoke/VarHandle" ∧ (parseMethodDescriptor yX3_countEarly.desc).map (fun d => d.parameters.length) = some 0 := by decide +kernel
set_option maxHeartbeats 4000000 in
set_option maxRecDepth 100000 in
theorem c_X3_countEarly (l : Launch) (D : va_G) (cI cZ cM : ClassId) (a0 a1 a2 a3 a4 a5 : Nat) (a_n : Int32) (a_L : Nat → Int32) (a_U : Nat → Int32) (a_H : Nat → Int32) (a_O : Nat → Int32) (a_B : Nat → Int32) (fu : Nat) (r : Int32) (hf : m_X3_countEarly fu a_n a_U a_H a_O = some r) : Met l yX3_countEarly wsX3_countEarly ({ frames := 3, cells := 0, slots := 0, locals := 67 }) (pR D cI cZ cM [(a0, .inr (3, [.int a_n, .ref a1, .ref a2, .ref a3, .ref a4, .ref a5])), (a1, .inl (cI, 10, .inl a_L)), (a2, .inl (cI, 10, .inl a_U)), (a3, .inl (cI, 12, .inl a_H)), (a4, .inl (cI, 10, .inl a_O)), (a5, .inl (cI, 10, .inl a_B))] [.ref a0]) (qR r) 0 0 (fun _ => False) := by
  refine Met.ofW (cc := cX3_countEarly) (maxL := 3) (ret := (some .int)) (by decide) rfl ?_
  intro p e s m args below meth c s₁ B hml hv
  obtain ⟨rfl, hP, hK⟩ := hv
  have hx := B.exec
  have hb := B.bytes
  have hr := B.returns
  have hts := atoms_spec (ws := wsX3_countEarly) B.pre
  have hown : s.vm.findClass RX3 = some m.cls := findClass_of_methodNamed B.named
  have hlocks := B.notSynchronized
  have hfl_31 := hts (.fieldLink RX3 31 "TermsFirst$Manual" "n" "I") (List.mem_cons_of_mem _ (List.mem_append_left _ (List.mem_append_left _ (List.mem_of_getElem? (i := 0) rfl))))
  have hiX3 : ∀ w ∈ u_ws RX3 TX3 6, w ∈ wsX3_countEarly := fun _ h => (List.mem_cons_of_mem _ (List.mem_append_right _ h))
  have hB_4 : ∀ (fn : Nat) (x1 : Int32) (x2 : Int32), m_X3_countEarly_4 fu a_n a_U a_H a_O fn x1 x2 = some r → ∀ ls : Array Slot, lv_has ls 3 [(0, .ref a0), (1, .int x1), (2, .int x2)] → W p l e (headSpec wsX3_countEarly { frames := 3, cells := 0, slots := 0, locals := 67 }).room s m ([.ref a0] : List Value).toArray below meth c s.heap [] 0 0 (MQ below (qR r) ([.ref a0] : List Value).toArray s 0 0 (fun _ => False)) (F0 m 4 ls []) := by
    intro fn
    induction fn with
    | zero => intro x1 x2 hf; rw [m_X3_countEarly_4] at hf; cases hf
    | succ fn ih =>
      intro x1 x2 hf ls hl
      rw [m_X3_countEarly_4] at hf
      refine lv_iload_n hx hb dX3_countEarly_4 rfl (lv_at hl 2 rfl) ?_
      refine lv_aload_n hx hb dX3_countEarly_5 rfl (lv_at hl 0 rfl) ?_
      refine va_get (D := D) (ci := 3) (v := .int a_n) (C := RX3) (T := TX3) (N := 6) hx hb hts hiX3 hown hK.1 hP 0 rfl rfl 0 (by decide) hfl_31 (fun _ h9 => h9) rfl dX3_countEarly_6 ?_
      refine lv_icmp_ge (tgt := 29) hx hb dX3_countEarly_9 (by decide) (fun hc => ?_) (fun hc => ?_)
      · have hf := ifp hc hf
        refine lv_iload_n hx hb dX3_countEarly_29 rfl (lv_at hl 1 rfl) ?_
        cases hf
        exact W.iret hx hb hr (fun t ht _ => ⟨rfl, ht⟩) (fun _ h => nomatch h) dX3_countEarly_30
      · have hf := ifn hc hf
        refine lv_iload_n hx hb dX3_countEarly_12 rfl (lv_at hl 1 rfl) ?_
        refine lv_aload_n hx hb dX3_countEarly_13 rfl (lv_at hl 0 rfl) ?_
        refine lv_iload_n hx hb dX3_countEarly_14 rfl (lv_at hl 2 rfl) ?_
        obtain ⟨rv1, hrv1, hf⟩ := bd hf
        refine roI (va_runV (As := [.int x2]) (rest := [.int x1]) ⟨hx, hb, hml, hown, hts⟩ (c_X3_earlyTerms l D cI cZ cM a0 a1 a2 a3 a4 a5 a_n a_L a_U a_H a_O a_B x2 fu rv1 hrv1) (cwV 1 hts gX3_countEarly_X3_earlyTerms rfl rfl rfl ⟨rfl, hdc_X3_earlyTerms⟩ ⟨Nat.le_of_ble_eq_true rfl, Nat.le_of_ble_eq_true rfl⟩) (prV hK hP [0, 1, 2, 3, 4, 5] rfl (ci := 3) (q0 := 0) rfl rfl) rfl rfl hl.1 rfl (lv_room (Nat.le_of_ble_eq_true rfl)) dX3_countEarly_15 ⟨Nat.zero_le _, Nat.zero_le _⟩) ?_
        obtain ⟨rv2, hrv2, hf⟩ := bd hf
        refine roI (va_runS (As := [.int rv1]) (rest := [.int x1]) ⟨hx, hb, hml, hown, hts⟩ (c_J6_bitCount_0f7a4 l D cI cZ cM rv1 rv2 hrv2) (va_cwS 1 hts gX3_countEarly_J6_bitCount_0f7a4 rfl rfl rfl hdc_J6_bitCount_0f7a4 ⟨Nat.le_of_ble_eq_true rfl, Nat.le_of_ble_eq_true rfl⟩) (prS hK hP [] rfl) rfl rfl hl.1 rfl (lv_room (Nat.le_of_ble_eq_true rfl)) dX3_countEarly_18 ⟨Nat.zero_le _, Nat.zero_le _⟩) ?_
        refine lv_iadd hx hb dX3_countEarly_21 ?_
        refine lv_istore_n (lv' := [(1, .int (x1 + rv2)), (0, .ref a0), (2, .int x2)]) hx hb dX3_countEarly_22 rfl hl (by decide) rfl (fun ls hl => ?_)
        refine lv_iinc (v := (x2 + (nI 1))) (lv' := [(2, .int (x2 + (nI 1))), (1, .int (x1 + rv2)), (0, .ref a0)]) hx hb dX3_countEarly_23 hl (k := 2) rfl (ii_1 _) (by decide) rfl (fun ls hl => ?_)
        refine lv_goto (tgt := 4) hx hb dX3_countEarly_26 (by decide) ?_
        exact ih (x1 + rv2) (x2 + (nI 1)) hf  ls (lv_sub hl [2, 1, 0] rfl)
  have hl := lv_entry ([.ref a0]) (n := 3) (Nat.le_of_ble_eq_true rfl)
  rw [lg_entry_eq]
  generalize (lg_sl ([.ref a0]) ++ List.replicate (3 - (lg_sl ([.ref a0])).length) Slot.unset).toArray = ls at hl ⊢
  have hl : lv_has ls 3 [(0, .ref a0)] := hl
  unfold m_X3_countEarly at hf
  refine lv_iconst (v := (nI 0)) hx hb dX3_countEarly_0 ic_0 ?_
  refine lv_istore_n (lv' := [(1, .int (nI 0)), (0, .ref a0)]) hx hb dX3_countEarly_1 rfl hl (by decide) rfl (fun ls hl => ?_)
  refine lv_iconst (v := (nI 0)) hx hb dX3_countEarly_2 ic_0 ?_
  refine lv_istore_n (lv' := [(2, .int (nI 0)), (1, .int (nI 0)), (0, .ref a0)]) hx hb dX3_countEarly_3 rfl hl (by decide) rfl (fun ls hl => ?_)
  exact hB_4 fu (nI 0) (nI 0) hf  ls (lv_sub hl [2, 1, 0] rfl)
theorem hdc_X3_notedTerms : yX3_notedTerms.cls ≠ "java/lang/invoke/MethodHandle" ∧ yX3_notedTerms.cls ≠ "java/lang/invoke/VarHandle" ∧ (parseMethodDescriptor yX3_notedTerms.desc).map (fun d => d.parameters.length) = some 1 := by decide +kernel
set_option maxHeartbeats 4000000 in
set_option maxRecDepth 100000 in
theorem c_X3_notedTerms (l : Launch) (D : va_G) (cI cZ cM : ClassId) (a0 a1 a2 a3 a4 a5 w0 : Nat) (a_n : Int32) (a_L : Nat → Int32) (a_U : Nat → Int32) (a_H : Nat → Int32) (a_O : Nat → Int32) (a_B : Nat → Int32) (w_a : Nat → Int32) (fu : Nat) (r : Int32) (hf : m_X3_notedTerms fu a_n a_U a_H w_a = some r) : Met l yX3_notedTerms wsX3_notedTerms ({ frames := 2, cells := 0, slots := 0, locals := 44 }) (pR D cI cZ cM [(a0, .inr (3, [.int a_n, .ref a1, .ref a2, .ref a3, .ref a4, .ref a5])), (a1, .inl (cI, 10, .inl a_L)), (a2, .inl (cI, 10, .inl a_U)), (a3, .inl (cI, 12, .inl a_H)), (a4, .inl (cI, 10, .inl a_O)), (a5, .inl (cI, 10, .inl a_B)), (w0, .inl (cI, 10, .inl w_a))] [.ref a0, .ref w0]) (qR r) 0 0 (fun _ => False) := by
  refine Met.ofW (cc := cX3_notedTerms) (maxL := 6) (ret := (some .int)) (by decide) rfl ?_
  intro p e s m args below meth c s₁ B hml hv
  obtain ⟨rfl, hP, hK⟩ := hv
  have hx := B.exec
  have hb := B.bytes
  have hr := B.returns
  have hts := atoms_spec (ws := wsX3_notedTerms) B.pre
  have hown : s.vm.findClass RX3 = some m.cls := findClass_of_methodNamed B.named
  have hlocks := B.notSynchronized
  have hfl_15 := hts (.fieldLink RX3 15 "TermsFirst$Manual" "used" "[I") (List.mem_cons_of_mem _ (List.mem_append_left _ (List.mem_of_getElem? (i := 1) rfl)))
  have hfl_31 := hts (.fieldLink RX3 31 "TermsFirst$Manual" "n" "I") (List.mem_cons_of_mem _ (List.mem_append_left _ (List.mem_of_getElem? (i := 0) rfl)))
  have hiX3 : ∀ w ∈ u_ws RX3 TX3 6, w ∈ wsX3_notedTerms := fun _ h => (List.mem_cons_of_mem _ (List.mem_append_right _ h))
  have hB_7 : ∀ (fn : Nat) (x2 : Int32) (x3 : Int32) (x4 : Int32), m_X3_notedTerms_7 fu a_n a_U a_H w_a fn x2 x3 x4 = some r → ∀ ls : Array Slot, lv_has ls 6 [(0, .ref a0), (1, .ref w0), (2, .int x2), (3, .int x3), (4, .int x4)] → W p l e (headSpec wsX3_notedTerms { frames := 2, cells := 0, slots := 0, locals := 44 }).room s m ([.ref a0, .ref w0] : List Value).toArray below meth c s.heap [] 0 0 (MQ below (qR r) ([.ref a0, .ref w0] : List Value).toArray s 0 0 (fun _ => False)) (F0 m 7 ls []) := by
    intro fn
    induction fn with
    | zero => intro x2 x3 x4 hf; rw [m_X3_notedTerms_7] at hf; cases hf
    | succ fn ih =>
      intro x2 x3 x4 hf ls hl
      rw [m_X3_notedTerms_7] at hf
      refine lv_iload hx hb dX3_notedTerms_7 (lv_at hl 4 rfl) ?_
      refine lv_aload_n hx hb dX3_notedTerms_9 rfl (lv_at hl 0 rfl) ?_
      refine va_get (D := D) (ci := 3) (v := .int a_n) (C := RX3) (T := TX3) (N := 6) hx hb hts hiX3 hown hK.1 hP 0 rfl rfl 0 (by decide) hfl_31 (fun _ h9 => h9) rfl dX3_notedTerms_10 ?_
      refine lv_icmp_ge (tgt := 49) hx hb dX3_notedTerms_13 (by decide) (fun hc => ?_) (fun hc => ?_)
      · have hf := ifp hc hf
        refine lv_iload_n hx hb dX3_notedTerms_49 rfl (lv_at hl 2 rfl) ?_
        cases hf
        exact W.iret hx hb hr (fun t ht _ => ⟨rfl, ht⟩) (fun _ h => nomatch h) dX3_notedTerms_50
      · have hf := ifn hc hf
        refine lv_aload_n hx hb dX3_notedTerms_16 rfl (lv_at hl 1 rfl) ?_
        refine lv_iload hx hb dX3_notedTerms_17 (lv_at hl 4 rfl) ?_
        obtain ⟨hi, hf⟩ := gd_some hf
        refine va_iald hx hb hK.1 hP 6 0 rfl rfl hi dX3_notedTerms_19 ?_
        refine lv_istore (lv' := [(5, .int (w_a x4.toNatClampNeg)), (0, .ref a0), (1, .ref w0), (2, .int x2), (3, .int x3), (4, .int x4)]) hx hb dX3_notedTerms_20 hl (by decide) rfl (fun ls hl => ?_)
        refine lv_iload_n hx hb dX3_notedTerms_22 rfl (lv_at hl 3 rfl) ?_
        refine lv_iload_n hx hb dX3_notedTerms_23 rfl (lv_at hl 4 rfl) ?_
        refine lv_aload_n hx hb dX3_notedTerms_24 rfl (lv_at hl 1 rfl) ?_
        refine lv_iload hx hb dX3_notedTerms_25 (lv_at hl 0 rfl) ?_
        obtain ⟨rv1, hrv1, hf⟩ := bd hf
        refine roI (va_runV (As := [.int (w_a x4.toNatClampNeg)]) (rest := [.int x3, .int x2]) ⟨hx, hb, hml, hown, hts⟩ (c_X3_termsAtHome l D cI cZ cM a0 a1 a2 a3 a4 a5 a_n a_L a_U a_H a_O a_B (w_a x4.toNatClampNeg) fu rv1 hrv1) (cwV 1 hts gX3_notedTerms_X3_termsAtHome rfl rfl rfl ⟨rfl, hdc_X3_termsAtHome⟩ ⟨Nat.le_of_ble_eq_true rfl, Nat.le_of_ble_eq_true rfl⟩) (prV hK hP [0, 1, 2, 3, 4, 5] rfl (ci := 3) (q0 := 0) rfl rfl) rfl rfl hl.1 rfl (lv_room (Nat.le_of_ble_eq_true rfl)) dX3_notedTerms_27 ⟨Nat.zero_le _, Nat.zero_le _⟩) ?_
        refine lv_iand hx hb dX3_notedTerms_30 ?_
        refine lv_ior hx hb dX3_notedTerms_31 ?_
        refine lv_istore_n (lv' := [(2, .int (x2 ||| (x3 &&& rv1))), (5, .int (w_a x4.toNatClampNeg)), (0, .ref a0), (1, .ref w0), (3, .int x3), (4, .int x4)]) hx hb dX3_notedTerms_32 rfl hl (by decide) rfl (fun ls hl => ?_)
        refine lv_iload_n hx hb dX3_notedTerms_33 rfl (lv_at hl 4 rfl) ?_
        refine lv_aload_n hx hb dX3_notedTerms_34 rfl (lv_at hl 2 rfl) ?_
        refine va_get (D := D) (ci := 3) (v := .ref a2) (C := RX3) (T := TX3) (N := 6) hx hb hts hiX3 hown hK.1 hP 0 rfl rfl 2 (by decide) hfl_15 (fun _ h9 => h9) rfl dX3_notedTerms_35 ?_
        refine lv_iload hx hb dX3_notedTerms_38 (lv_at hl 1 rfl) ?_
        obtain ⟨hi, hf⟩ := gd_some hf
        refine va_iald hx hb hK.1 hP 2 0 rfl rfl hi dX3_notedTerms_40 ?_
        refine lv_ior hx hb dX3_notedTerms_41 ?_
        refine lv_istore_n (lv' := [(3, .int (x3 ||| (a_U (w_a x4.toNatClampNeg).toNatClampNeg))), (2, .int (x2 ||| (x3 &&& rv1))), (5, .int (w_a x4.toNatClampNeg)), (0, .ref a0), (1, .ref w0), (4, .int x4)]) hx hb dX3_notedTerms_42 rfl hl (by decide) rfl (fun ls hl => ?_)
        refine lv_iinc (v := (x4 + (nI 1))) (lv' := [(4, .int (x4 + (nI 1))), (3, .int (x3 ||| (a_U (w_a x4.toNatClampNeg).toNatClampNeg))), (2, .int (x2 ||| (x3 &&& rv1))), (5, .int (w_a x4.toNatClampNeg)), (0, .ref a0), (1, .ref w0)]) hx hb dX3_notedTerms_43 hl (k := 5) rfl (ii_1 _) (by decide) rfl (fun ls hl => ?_)
        refine lv_goto (tgt := 7) hx hb dX3_notedTerms_46 (by decide) ?_
        exact ih (x2 ||| (x3 &&& rv1)) (x3 ||| (a_U (w_a x4.toNatClampNeg).toNatClampNeg)) (x4 + (nI 1)) hf  ls (lv_sub hl [4, 5, 2, 1, 0] rfl)
  have hl := lv_entry ([.ref a0, .ref w0]) (n := 6) (Nat.le_of_ble_eq_true rfl)
  rw [lg_entry_eq]
  generalize (lg_sl ([.ref a0, .ref w0]) ++ List.replicate (6 - (lg_sl ([.ref a0, .ref w0])).length) Slot.unset).toArray = ls at hl ⊢
  have hl : lv_has ls 6 [(0, .ref a0), (1, .ref w0)] := hl
  unfold m_X3_notedTerms at hf
  refine lv_iconst (v := (nI 0)) hx hb dX3_notedTerms_0 ic_0 ?_
  refine lv_istore_n (lv' := [(2, .int (nI 0)), (0, .ref a0), (1, .ref w0)]) hx hb dX3_notedTerms_1 rfl hl (by decide) rfl (fun ls hl => ?_)
  refine lv_iconst (v := (nI 0)) hx hb dX3_notedTerms_2 ic_0 ?_
  refine lv_istore_n (lv' := [(3, .int (nI 0)), (2, .int (nI 0)), (0, .ref a0), (1, .ref w0)]) hx hb dX3_notedTerms_3 rfl hl (by decide) rfl (fun ls hl => ?_)
  refine lv_iconst (v := (nI 0)) hx hb dX3_notedTerms_4 ic_0 ?_
  refine lv_istore (lv' := [(4, .int (nI 0)), (3, .int (nI 0)), (2, .int (nI 0)), (0, .ref a0), (1, .ref w0)]) hx hb dX3_notedTerms_5 hl (by decide) rfl (fun ls hl => ?_)
  exact hB_7 fu (nI 0) (nI 0) (nI 0) hf  ls (lv_sub hl [3, 4, 2, 1, 0] rfl)
theorem hdc_X3_countNotes : yX3_countNotes.cls ≠ "java/lang/invoke/MethodHandle" ∧ yX3_countNotes.cls ≠ "java/lang/invoke/VarHandle" ∧ (parseMethodDescriptor yX3_countNotes.desc).map (fun d => d.parameters.length) = some 1 := by decide +kernel
set_option maxHeartbeats 4000000 in
set_option maxRecDepth 100000 in
theorem c_X3_countNotes (l : Launch) (D : va_G) (cI cZ cM : ClassId) (a0 a1 a2 a3 a4 a5 w0 : Nat) (a_n : Int32) (a_L : Nat → Int32) (a_U : Nat → Int32) (a_H : Nat → Int32) (a_O : Nat → Int32) (a_B : Nat → Int32) (w_a : Nat → Int32) (fu : Nat) (r : Int32) (hf : m_X3_countNotes fu a_n a_U a_H w_a = some r) : Met l yX3_countNotes wsX3_countNotes ({ frames := 3, cells := 0, slots := 0, locals := 69 }) (pR D cI cZ cM [(a0, .inr (3, [.int a_n, .ref a1, .ref a2, .ref a3, .ref a4, .ref a5])), (a1, .inl (cI, 10, .inl a_L)), (a2, .inl (cI, 10, .inl a_U)), (a3, .inl (cI, 12, .inl a_H)), (a4, .inl (cI, 10, .inl a_O)), (a5, .inl (cI, 10, .inl a_B)), (w0, .inl (cI, 10, .inl w_a))] [.ref a0, .ref w0]) (qR r) 0 0 (fun _ => False) := by
  refine Met.ofW (cc := cX3_countNotes) (maxL := 2) (ret := (some .int)) (by decide) rfl ?_
  intro p e s m args below meth c s₁ B hml hv
  obtain ⟨rfl, hP, hK⟩ := hv
  have hx := B.exec
  have hb := B.bytes
  have hr := B.returns
  have hts := atoms_spec (ws := wsX3_countNotes) B.pre
  have hown : s.vm.findClass RX3 = some m.cls := findClass_of_methodNamed B.named
  have hlocks := B.notSynchronized
  have hl := lv_entry ([.ref a0, .ref w0]) (n := 2) (Nat.le_of_ble_eq_true rfl)
  rw [lg_entry_eq]
  generalize (lg_sl ([.ref a0, .ref w0]) ++ List.replicate (2 - (lg_sl ([.ref a0, .ref w0])).length) Slot.unset).toArray = ls at hl ⊢
  have hl : lv_has ls 2 [(0, .ref a0), (1, .ref w0)] := hl
  unfold m_X3_countNotes at hf
  refine lv_aload_n hx hb dX3_countNotes_0 rfl (lv_at hl 0 rfl) ?_
  refine lv_aload_n hx hb dX3_countNotes_1 rfl (lv_at hl 1 rfl) ?_
  obtain ⟨rv1, hrv1, hf⟩ := bd hf
  refine roI (va_runV (As := [.ref w0]) (rest := []) ⟨hx, hb, hml, hown, hts⟩ (c_X3_notedTerms l D cI cZ cM a0 a1 a2 a3 a4 a5 w0 a_n a_L a_U a_H a_O a_B w_a fu rv1 hrv1) (cwV 1 hts gX3_countNotes_X3_notedTerms rfl rfl rfl ⟨rfl, hdc_X3_notedTerms⟩ ⟨Nat.le_of_ble_eq_true rfl, Nat.le_of_ble_eq_true rfl⟩) (prV hK hP [0, 1, 2, 3, 4, 5, 6] rfl (ci := 3) (q0 := 0) rfl rfl) rfl rfl hl.1 rfl (lv_room (Nat.le_of_ble_eq_true rfl)) dX3_countNotes_2 ⟨Nat.zero_le _, Nat.zero_le _⟩) ?_
  obtain ⟨rv2, hrv2, hf⟩ := bd hf
  refine roI (va_runS (As := [.int rv1]) (rest := []) ⟨hx, hb, hml, hown, hts⟩ (c_J6_bitCount_0f7a4 l D cI cZ cM rv1 rv2 hrv2) (va_cwS 1 hts gX3_countNotes_J6_bitCount_0f7a4 rfl rfl rfl hdc_J6_bitCount_0f7a4 ⟨Nat.le_of_ble_eq_true rfl, Nat.le_of_ble_eq_true rfl⟩) (prS hK hP [] rfl) rfl rfl hl.1 rfl (lv_room (Nat.le_of_ble_eq_true rfl)) dX3_countNotes_5 ⟨Nat.zero_le _, Nat.zero_le _⟩) ?_
  cases hf
  exact W.iret hx hb hr (fun t ht _ => ⟨rfl, ht⟩) (fun _ h => nomatch h) dX3_countNotes_8
theorem hdc_X3_noteSection : yX3_noteSection.cls ≠ "java/lang/invoke/MethodHandle" ∧ yX3_noteSection.cls ≠ "java/lang/invoke/VarHandle" ∧ (parseMethodDescriptor yX3_noteSection.desc).map (fun d => d.parameters.length) = some 1 := by decide +kernel
set_option maxHeartbeats 4000000 in
set_option maxRecDepth 100000 in
theorem c_X3_noteSection (l : Launch) (D : va_G) (cI cZ cM : ClassId) (a0 a1 a2 a3 a4 a5 : Nat) (a_n : Int32) (a_L : Nat → Int32) (a_U : Nat → Int32) (a_H : Nat → Int32) (a_O : Nat → Int32) (a_B : Nat → Int32) (x1 : Int32) (fu : Nat) (r : Int32) (hf : m_X3_noteSection fu a_n a_U a_H a_O x1 = some r) : Met l yX3_noteSection wsX3_noteSection ({ frames := 1, cells := 0, slots := 0, locals := 21 }) (pR D cI cZ cM [(a0, .inr (3, [.int a_n, .ref a1, .ref a2, .ref a3, .ref a4, .ref a5])), (a1, .inl (cI, 10, .inl a_L)), (a2, .inl (cI, 10, .inl a_U)), (a3, .inl (cI, 12, .inl a_H)), (a4, .inl (cI, 10, .inl a_O)), (a5, .inl (cI, 10, .inl a_B))] [.ref a0, .int x1]) (qR r) 0 0 (fun _ => False) := by
  refine Met.ofW (cc := cX3_noteSection) (maxL := 4) (ret := (some .int)) (by decide) rfl ?_
  intro p e s m args below meth c s₁ B hml hv
  obtain ⟨rfl, hP, hK⟩ := hv
  have hx := B.exec
  have hb := B.bytes
  have hr := B.returns
  have hts := atoms_spec (ws := wsX3_noteSection) B.pre
  have hown : s.vm.findClass RX3 = some m.cls := findClass_of_methodNamed B.named
  have hlocks := B.notSynchronized
  have hfl_15 := hts (.fieldLink RX3 15 "TermsFirst$Manual" "used" "[I") (List.mem_cons_of_mem _ (List.mem_append_left _ (List.mem_of_getElem? (i := 3) rfl)))
  have hfl_18 := hts (.fieldLink RX3 18 "TermsFirst$Manual" "homes" "[I") (List.mem_cons_of_mem _ (List.mem_append_left _ (List.mem_of_getElem? (i := 0) rfl)))
  have hfl_21 := hts (.fieldLink RX3 21 "TermsFirst$Manual" "order" "[I") (List.mem_cons_of_mem _ (List.mem_append_left _ (List.mem_of_getElem? (i := 2) rfl)))
  have hfl_31 := hts (.fieldLink RX3 31 "TermsFirst$Manual" "n" "I") (List.mem_cons_of_mem _ (List.mem_append_left _ (List.mem_of_getElem? (i := 1) rfl)))
  have hn_7 : va_Nw (.methodLinkNest RX3 39 yX6_has RX6) s := nw_7 hK
  have hin_RX6 : (Cond.initialized yX6_has.cls).before _ s = true := hts (.initialized RX6) (List.mem_cons_of_mem _ (List.mem_append_left _ (List.mem_of_getElem? (i := 5) rfl)))
  have hst_X6_has := hts (.static yX6_has) (List.mem_cons_of_mem _ (List.mem_append_left _ (List.mem_of_getElem? (i := 4) rfl)))
  have hiX3 : ∀ w ∈ u_ws RX3 TX3 6, w ∈ wsX3_noteSection := fun _ h => (List.mem_cons_of_mem _ (List.mem_append_right _ h))
  have hB_16 : ∀ (x2 : Int32) (fn : Nat) (x3 : Int32), m_X3_noteSection_16 a_n a_U a_O x1 x2 fn x3 = some r → ∀ ls : Array Slot, lv_has ls 4 [(0, .ref a0), (1, .int x1), (2, .int x2), (3, .int x3)] → W p l e (headSpec wsX3_noteSection { frames := 1, cells := 0, slots := 0, locals := 21 }).room s m ([.ref a0, .int x1] : List Value).toArray below meth c s.heap [] 0 0 (MQ below (qR r) ([.ref a0, .int x1] : List Value).toArray s 0 0 (fun _ => False)) (F0 m 16 ls []) := by
    intro x2 fn
    induction fn with
    | zero => intro x3 hf; rw [m_X3_noteSection_16] at hf; cases hf
    | succ fn ih =>
      intro x3 hf ls hl
      rw [m_X3_noteSection_16] at hf
      refine lv_iload_n hx hb dX3_noteSection_16 rfl (lv_at hl 3 rfl) ?_
      refine lv_aload_n hx hb dX3_noteSection_17 rfl (lv_at hl 0 rfl) ?_
      refine va_get (D := D) (ci := 3) (v := .int a_n) (C := RX3) (T := TX3) (N := 6) hx hb hts hiX3 hown hK.1 hP 0 rfl rfl 0 (by decide) hfl_31 (fun _ h9 => h9) rfl dX3_noteSection_18 ?_
      refine lv_icmp_ge (tgt := 65) hx hb dX3_noteSection_21 (by decide) (fun hc => ?_) (fun hc => ?_)
      · have hf := ifp hc hf
        refine lv_iconst (v := (-1 : Int32)) hx hb dX3_noteSection_65 ic_m1 ?_
        cases hf
        exact W.iret hx hb hr (fun t ht _ => ⟨rfl, ht⟩) (fun _ h => nomatch h) dX3_noteSection_66
      · have hf := ifn hc hf
        refine lv_aload_n hx hb dX3_noteSection_24 rfl (lv_at hl 0 rfl) ?_
        refine va_get (D := D) (ci := 3) (v := .ref a4) (C := RX3) (T := TX3) (N := 6) hx hb hts hiX3 hown hK.1 hP 0 rfl rfl 4 (by decide) hfl_21 (fun _ h9 => h9) rfl dX3_noteSection_25 ?_
        refine lv_iload_n hx hb dX3_noteSection_28 rfl (lv_at hl 3 rfl) ?_
        obtain ⟨hi, hf⟩ := gd_some hf
        refine va_iald hx hb hK.1 hP 4 0 rfl rfl hi dX3_noteSection_29 ?_
        refine lv_iload_n hx hb dX3_noteSection_30 rfl (lv_at hl 2 rfl) ?_
        refine lv_icmp_eq (tgt := 65) hx hb dX3_noteSection_31 (by decide) (fun hc => ?_) (fun hc => ?_)
        · have hf := ifp hc hf
          refine lv_iconst (v := (-1 : Int32)) hx hb dX3_noteSection_65 ic_m1 ?_
          cases hf
          exact W.iret hx hb hr (fun t ht _ => ⟨rfl, ht⟩) (fun _ h => nomatch h) dX3_noteSection_66
        · have hf := ifn hc hf
          refine lv_aload_n hx hb dX3_noteSection_34 rfl (lv_at hl 0 rfl) ?_
          refine va_get (D := D) (ci := 3) (v := .ref a2) (C := RX3) (T := TX3) (N := 6) hx hb hts hiX3 hown hK.1 hP 0 rfl rfl 2 (by decide) hfl_15 (fun _ h9 => h9) rfl dX3_noteSection_35 ?_
          refine lv_aload_n hx hb dX3_noteSection_38 rfl (lv_at hl 0 rfl) ?_
          refine va_get (D := D) (ci := 3) (v := .ref a4) (C := RX3) (T := TX3) (N := 6) hx hb hts hiX3 hown hK.1 hP 0 rfl rfl 4 (by decide) hfl_21 (fun _ h9 => h9) rfl dX3_noteSection_39 ?_
          refine lv_iload_n hx hb dX3_noteSection_42 rfl (lv_at hl 3 rfl) ?_
          obtain ⟨hi, hf⟩ := gd_some hf
          refine va_iald hx hb hK.1 hP 4 0 rfl rfl hi dX3_noteSection_43 ?_
          obtain ⟨hi, hf⟩ := gd_some hf
          refine va_iald hx hb hK.1 hP 2 0 rfl rfl hi dX3_noteSection_44 ?_
          refine lv_iload_n hx hb dX3_noteSection_45 rfl (lv_at hl 1 rfl) ?_
          obtain ⟨rv1, hrv1, hf⟩ := bd hf
          refine roI (va_runSN (As := [.int (a_U (a_O x3.toNatClampNeg).toNatClampNeg), .int x1]) (rest := []) ⟨hx, hb, hml, hown, hts⟩ (c_X6_has l D cI cZ cM (a_U (a_O x3.toNatClampNeg).toNatClampNeg) x1 rv1 hrv1) ⟨va_cnB (host := RX6) 2 hts gX3_noteSection_X6_has_n39 rfl rfl rfl hn_7 hin_RX6 hdc_X6_has ⟨Nat.le_of_ble_eq_true rfl, Nat.le_of_ble_eq_true rfl⟩, hst_X6_has, trivial⟩ (prS hK hP [] rfl) rfl rfl hl.1 rfl (lv_room (Nat.le_of_ble_eq_true rfl)) dX3_noteSection_46 ⟨Nat.zero_le _, Nat.zero_le _⟩) ?_
          refine lv_if_eq (tgt := 59) hx hb dX3_noteSection_49 (by decide) (fun hc => ?_) (fun hc => ?_)
          · have hf := ifp hc hf
            refine lv_iinc (v := (x3 + (nI 1))) (lv' := [(3, .int (x3 + (nI 1))), (0, .ref a0), (1, .int x1), (2, .int x2)]) hx hb dX3_noteSection_59 hl (k := 3) rfl (ii_1 _) (by decide) rfl (fun ls hl => ?_)
            refine lv_goto (tgt := 16) hx hb dX3_noteSection_62 (by decide) ?_
            exact ih (x3 + (nI 1)) hf  ls (lv_sub hl [1, 2, 3, 0] rfl)
          · have hf := ifn hc hf
            refine lv_aload_n hx hb dX3_noteSection_52 rfl (lv_at hl 0 rfl) ?_
            refine va_get (D := D) (ci := 3) (v := .ref a4) (C := RX3) (T := TX3) (N := 6) hx hb hts hiX3 hown hK.1 hP 0 rfl rfl 4 (by decide) hfl_21 (fun _ h9 => h9) rfl dX3_noteSection_53 ?_
            refine lv_iload_n hx hb dX3_noteSection_56 rfl (lv_at hl 3 rfl) ?_
            obtain ⟨hi, hf⟩ := gd_some hf
            refine va_iald hx hb hK.1 hP 4 0 rfl rfl hi dX3_noteSection_57 ?_
            cases hf
            exact W.iret hx hb hr (fun t ht _ => ⟨rfl, ht⟩) (fun _ h => nomatch h) dX3_noteSection_58
  have hl := lv_entry ([.ref a0, .int x1]) (n := 4) (Nat.le_of_ble_eq_true rfl)
  rw [lg_entry_eq]
  generalize (lg_sl ([.ref a0, .int x1]) ++ List.replicate (4 - (lg_sl ([.ref a0, .int x1])).length) Slot.unset).toArray = ls at hl ⊢
  have hl : lv_has ls 4 [(0, .ref a0), (1, .int x1)] := hl
  unfold m_X3_noteSection at hf
  refine lv_aload_n hx hb dX3_noteSection_0 rfl (lv_at hl 0 rfl) ?_
  refine va_get (D := D) (ci := 3) (v := .ref a3) (C := RX3) (T := TX3) (N := 6) hx hb hts hiX3 hown hK.1 hP 0 rfl rfl 3 (by decide) hfl_18 (fun _ h9 => h9) rfl dX3_noteSection_1 ?_
  refine lv_iload_n hx hb dX3_noteSection_4 rfl (lv_at hl 1 rfl) ?_
  obtain ⟨hi, hf⟩ := gd_some hf
  refine va_iald hx hb hK.1 hP 3 0 rfl rfl hi dX3_noteSection_5 ?_
  refine lv_istore_n (lv' := [(2, .int (a_H x1.toNatClampNeg)), (0, .ref a0), (1, .int x1)]) hx hb dX3_noteSection_6 rfl hl (by decide) rfl (fun ls hl => ?_)
  refine lv_iload_n hx hb dX3_noteSection_7 rfl (lv_at hl 0 rfl) ?_
  refine lv_iconst (v := (-1 : Int32)) hx hb dX3_noteSection_8 ic_m1 ?_
  refine lv_icmp_ne (tgt := 14) hx hb dX3_noteSection_9 (by decide) (fun hc => ?_) (fun hc => ?_)
  · have hf := ifn hc hf
    refine lv_iconst (v := (nI 0)) hx hb dX3_noteSection_14 ic_0 ?_
    refine lv_istore_n (lv' := [(3, .int (nI 0)), (2, .int (a_H x1.toNatClampNeg)), (0, .ref a0), (1, .int x1)]) hx hb dX3_noteSection_15 rfl hl (by decide) rfl (fun ls hl => ?_)
    exact hB_16 (a_H x1.toNatClampNeg) fu (nI 0) hf  ls (lv_sub hl [2, 3, 1, 0] rfl)
  · have hf := ifp hc hf
    refine lv_iconst (v := (-1 : Int32)) hx hb dX3_noteSection_12 ic_m1 ?_
    cases hf
    exact W.iret hx hb hr (fun t ht _ => ⟨rfl, ht⟩) (fun _ h => nomatch h) dX3_noteSection_13
theorem hdc_X3_notesIn : yX3_notesIn.cls ≠ "java/lang/invoke/MethodHandle" ∧ yX3_notesIn.cls ≠ "java/lang/invoke/VarHandle" ∧ (parseMethodDescriptor yX3_notesIn.desc).map (fun d => d.parameters.length) = some 1 := by decide +kernel
set_option maxHeartbeats 4000000 in
set_option maxRecDepth 100000 in
theorem c_X3_notesIn (l : Launch) (D : va_G) (cI cZ cM : ClassId) (a0 a1 a2 a3 a4 a5 : Nat) (a_n : Int32) (a_L : Nat → Int32) (a_U : Nat → Int32) (a_H : Nat → Int32) (a_O : Nat → Int32) (a_B : Nat → Int32) (x1 : Int32) (fu : Nat) (r : Int32) (hf : m_X3_notesIn fu a_n a_U a_H a_O x1 = some r) : Met l yX3_notesIn wsX3_notesIn ({ frames := 2, cells := 0, slots := 0, locals := 44 }) (pR D cI cZ cM [(a0, .inr (3, [.int a_n, .ref a1, .ref a2, .ref a3, .ref a4, .ref a5])), (a1, .inl (cI, 10, .inl a_L)), (a2, .inl (cI, 10, .inl a_U)), (a3, .inl (cI, 12, .inl a_H)), (a4, .inl (cI, 10, .inl a_O)), (a5, .inl (cI, 10, .inl a_B))] [.ref a0, .int x1]) (qR r) 0 0 (fun _ => False) := by
  refine Met.ofW (cc := cX3_notesIn) (maxL := 4) (ret := (some .int)) (by decide) rfl ?_
  intro p e s m args below meth c s₁ B hml hv
  obtain ⟨rfl, hP, hK⟩ := hv
  have hx := B.exec
  have hb := B.bytes
  have hr := B.returns
  have hts := atoms_spec (ws := wsX3_notesIn) B.pre
  have hown : s.vm.findClass RX3 = some m.cls := findClass_of_methodNamed B.named
  have hlocks := B.notSynchronized
  have hn_8 : va_Nw (.methodLinkNest RX3 43 yX6_with RX6) s := nw_8 hK
  have hin_RX6 : (Cond.initialized yX6_with.cls).before _ s = true := hts (.initialized RX6) (List.mem_cons_of_mem _ (List.mem_append_left _ (List.mem_of_getElem? (i := 10) rfl)))
  have hst_X6_with := hts (.static yX6_with) (List.mem_cons_of_mem _ (List.mem_append_left _ (List.mem_of_getElem? (i := 12) rfl)))
  have hB_4 : ∀ (fn : Nat) (x2 : Int32) (x3 : Int32), m_X3_notesIn_4 fu a_n a_U a_H a_O x1 fn x2 x3 = some r → ∀ ls : Array Slot, lv_has ls 4 [(0, .ref a0), (1, .int x1), (2, .int x2), (3, .int x3)] → W p l e (headSpec wsX3_notesIn { frames := 2, cells := 0, slots := 0, locals := 44 }).room s m ([.ref a0, .int x1] : List Value).toArray below meth c s.heap [] 0 0 (MQ below (qR r) ([.ref a0, .int x1] : List Value).toArray s 0 0 (fun _ => False)) (F0 m 4 ls []) := by
    intro fn
    induction fn with
    | zero => intro x2 x3 hf; rw [m_X3_notesIn_4] at hf; cases hf
    | succ fn ih =>
      intro x2 x3 hf ls hl
      rw [m_X3_notesIn_4] at hf
      refine lv_iload_n hx hb dX3_notesIn_4 rfl (lv_at hl 3 rfl) ?_
      refine lv_bipush (v := (nI 12)) hx hb dX3_notesIn_5 bp_12 ?_
      refine lv_icmp_ge (tgt := 31) hx hb dX3_notesIn_7 (by decide) (fun hc => ?_) (fun hc => ?_)
      · have hf := ifp hc hf
        refine lv_iload_n hx hb dX3_notesIn_31 rfl (lv_at hl 2 rfl) ?_
        cases hf
        exact W.iret hx hb hr (fun t ht _ => ⟨rfl, ht⟩) (fun _ h => nomatch h) dX3_notesIn_32
      · have hf := ifn hc hf
        refine lv_aload_n hx hb dX3_notesIn_10 rfl (lv_at hl 0 rfl) ?_
        refine lv_iload_n hx hb dX3_notesIn_11 rfl (lv_at hl 3 rfl) ?_
        obtain ⟨rv1, hrv1, hf⟩ := bd hf
        refine roI (va_runV (As := [.int x3]) (rest := []) ⟨hx, hb, hml, hown, hts⟩ (c_X3_noteSection l D cI cZ cM a0 a1 a2 a3 a4 a5 a_n a_L a_U a_H a_O a_B x3 fu rv1 hrv1) (cwV 1 hts gX3_notesIn_X3_noteSection rfl rfl rfl ⟨rfl, hdc_X3_noteSection⟩ ⟨Nat.le_of_ble_eq_true rfl, Nat.le_of_ble_eq_true rfl⟩) (prV hK hP [0, 1, 2, 3, 4, 5] rfl (ci := 3) (q0 := 0) rfl rfl) rfl rfl hl.1 rfl (lv_room (Nat.le_of_ble_eq_true rfl)) dX3_notesIn_12 ⟨Nat.zero_le _, Nat.zero_le _⟩) ?_
        refine lv_iload_n hx hb dX3_notesIn_15 rfl (lv_at hl 1 rfl) ?_
        refine lv_icmp_ne (tgt := 25) hx hb dX3_notesIn_16 (by decide) (fun hc => ?_) (fun hc => ?_)
        · have hf := ifn hc hf
          refine lv_iinc (v := (x3 + (nI 1))) (lv' := [(3, .int (x3 + (nI 1))), (0, .ref a0), (1, .int x1), (2, .int x2)]) hx hb dX3_notesIn_25 hl (k := 3) rfl (ii_1 _) (by decide) rfl (fun ls hl => ?_)
          refine lv_goto (tgt := 4) hx hb dX3_notesIn_28 (by decide) ?_
          exact ih x2 (x3 + (nI 1)) hf  ls (lv_sub hl [1, 2, 3, 0] rfl)
        · have hf := ifp hc hf
          refine lv_iload_n hx hb dX3_notesIn_19 rfl (lv_at hl 2 rfl) ?_
          refine lv_iload_n hx hb dX3_notesIn_20 rfl (lv_at hl 3 rfl) ?_
          obtain ⟨rv2, hrv2, hf⟩ := bd hf
          refine roI (va_runSN (As := [.int x2, .int x3]) (rest := []) ⟨hx, hb, hml, hown, hts⟩ (c_X6_with l D cI cZ cM x2 x3 rv2 hrv2) ⟨va_cnB (host := RX6) 2 hts gX3_notesIn_X6_with_n43 rfl rfl rfl hn_8 hin_RX6 hdc_X6_with ⟨Nat.le_of_ble_eq_true rfl, Nat.le_of_ble_eq_true rfl⟩, hst_X6_with, trivial⟩ (prS hK hP [] rfl) rfl rfl hl.1 rfl (lv_room (Nat.le_of_ble_eq_true rfl)) dX3_notesIn_21 ⟨Nat.zero_le _, Nat.zero_le _⟩) ?_
          refine lv_istore_n (lv' := [(2, .int rv2), (0, .ref a0), (1, .int x1), (3, .int x3)]) hx hb dX3_notesIn_24 rfl hl (by decide) rfl (fun ls hl => ?_)
          refine lv_iinc (v := (x3 + (nI 1))) (lv' := [(3, .int (x3 + (nI 1))), (2, .int rv2), (0, .ref a0), (1, .int x1)]) hx hb dX3_notesIn_25 hl (k := 3) rfl (ii_1 _) (by decide) rfl (fun ls hl => ?_)
          refine lv_goto (tgt := 4) hx hb dX3_notesIn_28 (by decide) ?_
          exact ih rv2 (x3 + (nI 1)) hf  ls (lv_sub hl [2, 3, 1, 0] rfl)
  have hl := lv_entry ([.ref a0, .int x1]) (n := 4) (Nat.le_of_ble_eq_true rfl)
  rw [lg_entry_eq]
  generalize (lg_sl ([.ref a0, .int x1]) ++ List.replicate (4 - (lg_sl ([.ref a0, .int x1])).length) Slot.unset).toArray = ls at hl ⊢
  have hl : lv_has ls 4 [(0, .ref a0), (1, .int x1)] := hl
  unfold m_X3_notesIn at hf
  refine lv_iconst (v := (nI 0)) hx hb dX3_notesIn_0 ic_0 ?_
  refine lv_istore_n (lv' := [(2, .int (nI 0)), (0, .ref a0), (1, .int x1)]) hx hb dX3_notesIn_1 rfl hl (by decide) rfl (fun ls hl => ?_)
  refine lv_iconst (v := (nI 0)) hx hb dX3_notesIn_2 ic_0 ?_
  refine lv_istore_n (lv' := [(3, .int (nI 0)), (2, .int (nI 0)), (0, .ref a0), (1, .int x1)]) hx hb dX3_notesIn_3 rfl hl (by decide) rfl (fun ls hl => ?_)
  exact hB_4 fu (nI 0) (nI 0) hf  ls (lv_sub hl [2, 3, 1, 0] rfl)
theorem hdc_X3_noteLength : yX3_noteLength.cls ≠ "java/lang/invoke/MethodHandle" ∧ yX3_noteLength.cls ≠ "java/lang/invoke/VarHandle" ∧ (parseMethodDescriptor yX3_noteLength.desc).map (fun d => d.parameters.length) = some 2 := by decide +kernel
set_option maxHeartbeats 4000000 in
set_option maxRecDepth 100000 in
theorem c_X3_noteLength (l : Launch) (D : va_G) (cI cZ cM : ClassId) (a0 a1 a2 a3 a4 a5 w0 : Nat) (a_n : Int32) (a_L : Nat → Int32) (a_U : Nat → Int32) (a_H : Nat → Int32) (a_O : Nat → Int32) (a_B : Nat → Int32) (w_a : Nat → Int32) (x1 : Int32) (fu : Nat) (r : Int32) (hf : m_X3_noteLength fu a_n a_L a_U a_H w_a x1 = some r) : Met l yX3_noteLength wsX3_noteLength ({ frames := 1, cells := 0, slots := 0, locals := 21 }) (pR D cI cZ cM [(a0, .inr (3, [.int a_n, .ref a1, .ref a2, .ref a3, .ref a4, .ref a5])), (a1, .inl (cI, 10, .inl a_L)), (a2, .inl (cI, 10, .inl a_U)), (a3, .inl (cI, 12, .inl a_H)), (a4, .inl (cI, 10, .inl a_O)), (a5, .inl (cI, 10, .inl a_B)), (w0, .inl (cI, 10, .inl w_a))] [.ref a0, .int x1, .ref w0]) (qR r) 0 0 (fun _ => False) := by
  refine Met.ofW (cc := cX3_noteLength) (maxL := 8) (ret := (some .int)) (by decide) rfl ?_
  intro p e s m args below meth c s₁ B hml hv
  obtain ⟨rfl, hP, hK⟩ := hv
  have hx := B.exec
  have hb := B.bytes
  have hr := B.returns
  have hts := atoms_spec (ws := wsX3_noteLength) B.pre
  have hown : s.vm.findClass RX3 = some m.cls := findClass_of_methodNamed B.named
  have hlocks := B.notSynchronized
  have hfl_9 := hts (.fieldLink RX3 9 "TermsFirst$Manual" "lengths" "[I") (List.mem_cons_of_mem _ (List.mem_append_left _ (List.mem_of_getElem? (i := 3) rfl)))
  have hfl_15 := hts (.fieldLink RX3 15 "TermsFirst$Manual" "used" "[I") (List.mem_cons_of_mem _ (List.mem_append_left _ (List.mem_of_getElem? (i := 2) rfl)))
  have hfl_18 := hts (.fieldLink RX3 18 "TermsFirst$Manual" "homes" "[I") (List.mem_cons_of_mem _ (List.mem_append_left _ (List.mem_of_getElem? (i := 0) rfl)))
  have hfl_31 := hts (.fieldLink RX3 31 "TermsFirst$Manual" "n" "I") (List.mem_cons_of_mem _ (List.mem_append_left _ (List.mem_of_getElem? (i := 1) rfl)))
  have hn_7 : va_Nw (.methodLinkNest RX3 39 yX6_has RX6) s := nw_7 hK
  have hin_RX6 : (Cond.initialized yX6_has.cls).before _ s = true := hts (.initialized RX6) (List.mem_cons_of_mem _ (List.mem_append_left _ (List.mem_of_getElem? (i := 5) rfl)))
  have hst_X6_has := hts (.static yX6_has) (List.mem_cons_of_mem _ (List.mem_append_left _ (List.mem_of_getElem? (i := 4) rfl)))
  have hiX3 : ∀ w ∈ u_ws RX3 TX3 6, w ∈ wsX3_noteLength := fun _ h => (List.mem_cons_of_mem _ (List.mem_append_right _ h))
  have hB_70 : ∀ (x3 : Int32) (x4 : Int32) (x6 : Int32) (x7 : Int32) (s0 : Int32) (kt23 : Int32 → Int32 → Int32 → Option (Int32)) (hkt23 : ∀ (x4 : Int32) (x5 : Int32) (x6 : Int32), kt23 x4 x5 x6 = some r → ∀ ls : Array Slot, lv_has ls 8 [(0, .ref a0), (1, .int x1), (2, .ref w0), (3, .int x3), (4, .int x4), (5, .int x5), (6, .int x6)] → W p l e (headSpec wsX3_noteLength { frames := 1, cells := 0, slots := 0, locals := 21 }).room s m ([.ref a0, .int x1, .ref w0] : List Value).toArray below meth c s.heap [] 0 0 (MQ below (qR r) ([.ref a0, .int x1, .ref w0] : List Value).toArray s 0 0 (fun _ => False)) (F0 m 23 ls [])), m_X3_noteLength_70 a_L s0 x4 x6 x7 kt23 = some r → ∀ ls : Array Slot, lv_has ls 8 [(0, .ref a0), (1, .int x1), (2, .ref w0), (3, .int x3), (4, .int x4), (6, .int x6), (7, .int x7)] → W p l e (headSpec wsX3_noteLength { frames := 1, cells := 0, slots := 0, locals := 21 }).room s m ([.ref a0, .int x1, .ref w0] : List Value).toArray below meth c s.heap [] 0 0 (MQ below (qR r) ([.ref a0, .int x1, .ref w0] : List Value).toArray s 0 0 (fun _ => False)) (F0 m 70 ls [.int s0]) := by
    intro x3 x4 x6 x7 s0 kt23 hkt23 hf ls hl
    unfold m_X3_noteLength_70 at hf
    refine lv_istore (lv' := [(5, .int s0), (0, .ref a0), (1, .int x1), (2, .ref w0), (3, .int x3), (4, .int x4), (6, .int x6), (7, .int x7)]) hx hb dX3_noteLength_70 hl (by decide) rfl (fun ls hl => ?_)
    refine lv_iload hx hb dX3_noteLength_72 (lv_at hl 0 rfl) ?_
    refine lv_if_eq (tgt := 89) hx hb dX3_noteLength_74 (by decide) (fun hc => ?_) (fun hc => ?_)
    · have hf := ifp hc hf
      refine lv_iinc (v := (x6 + (nI 1))) (lv' := [(6, .int (x6 + (nI 1))), (5, .int s0), (0, .ref a0), (1, .int x1), (2, .ref w0), (3, .int x3), (4, .int x4), (7, .int x7)]) hx hb dX3_noteLength_89 hl (k := 6) rfl (ii_1 _) (by decide) rfl (fun ls hl => ?_)
      refine lv_goto (tgt := 23) hx hb dX3_noteLength_92 (by decide) ?_
      exact hkt23 x4 s0 (x6 + (nI 1)) hf  ls (lv_sub hl [2, 3, 4, 5, 6, 1, 0] rfl)
    · have hf := ifn hc hf
      refine lv_iload hx hb dX3_noteLength_77 (lv_at hl 5 rfl) ?_
      refine lv_aload_n hx hb dX3_noteLength_79 rfl (lv_at hl 1 rfl) ?_
      refine va_get (D := D) (ci := 3) (v := .ref a1) (C := RX3) (T := TX3) (N := 6) hx hb hts hiX3 hown hK.1 hP 0 rfl rfl 1 (by decide) hfl_9 (fun _ h9 => h9) rfl dX3_noteLength_80 ?_
      refine lv_iload hx hb dX3_noteLength_83 (lv_at hl 7 rfl) ?_
      obtain ⟨hi, hf⟩ := gd_some hf
      refine va_iald hx hb hK.1 hP 1 0 rfl rfl hi dX3_noteLength_85 ?_
      refine lv_iadd hx hb dX3_noteLength_86 ?_
      refine lv_istore (lv' := [(4, .int (x4 + (a_L x7.toNatClampNeg))), (5, .int s0), (0, .ref a0), (1, .int x1), (2, .ref w0), (3, .int x3), (6, .int x6), (7, .int x7)]) hx hb dX3_noteLength_87 hl (by decide) rfl (fun ls hl => ?_)
      refine lv_iinc (v := (x6 + (nI 1))) (lv' := [(6, .int (x6 + (nI 1))), (4, .int (x4 + (a_L x7.toNatClampNeg))), (5, .int s0), (0, .ref a0), (1, .int x1), (2, .ref w0), (3, .int x3), (7, .int x7)]) hx hb dX3_noteLength_89 hl (k := 6) rfl (ii_1 _) (by decide) rfl (fun ls hl => ?_)
      refine lv_goto (tgt := 23) hx hb dX3_noteLength_92 (by decide) ?_
      exact hkt23 (x4 + (a_L x7.toNatClampNeg)) s0 (x6 + (nI 1)) hf  ls (lv_sub hl [3, 4, 5, 6, 1, 2, 0] rfl)
  have hB_23 : ∀ (x3 : Int32) (fn : Nat) (x4 : Int32) (x5 : Int32) (x6 : Int32), m_X3_noteLength_23 a_n a_L a_U w_a x1 x3 fn x4 x5 x6 = some r → ∀ ls : Array Slot, lv_has ls 8 [(0, .ref a0), (1, .int x1), (2, .ref w0), (3, .int x3), (4, .int x4), (5, .int x5), (6, .int x6)] → W p l e (headSpec wsX3_noteLength { frames := 1, cells := 0, slots := 0, locals := 21 }).room s m ([.ref a0, .int x1, .ref w0] : List Value).toArray below meth c s.heap [] 0 0 (MQ below (qR r) ([.ref a0, .int x1, .ref w0] : List Value).toArray s 0 0 (fun _ => False)) (F0 m 23 ls []) := by
    intro x3 fn
    induction fn with
    | zero => intro x4 x5 x6 hf; rw [m_X3_noteLength_23] at hf; cases hf
    | succ fn ih =>
      intro x4 x5 x6 hf ls hl
      rw [m_X3_noteLength_23] at hf
      refine lv_iload hx hb dX3_noteLength_23 (lv_at hl 6 rfl) ?_
      refine lv_aload_n hx hb dX3_noteLength_25 rfl (lv_at hl 0 rfl) ?_
      refine va_get (D := D) (ci := 3) (v := .int a_n) (C := RX3) (T := TX3) (N := 6) hx hb hts hiX3 hown hK.1 hP 0 rfl rfl 0 (by decide) hfl_31 (fun _ h9 => h9) rfl dX3_noteLength_26 ?_
      refine lv_icmp_ge (tgt := 95) hx hb dX3_noteLength_29 (by decide) (fun hc => ?_) (fun hc => ?_)
      · have hf := ifp hc hf
        refine lv_iload hx hb dX3_noteLength_95 (lv_at hl 4 rfl) ?_
        cases hf
        exact W.iret hx hb hr (fun t ht _ => ⟨rfl, ht⟩) (fun _ h => nomatch h) dX3_noteLength_97
      · have hf := ifn hc hf
        refine lv_aload_n hx hb dX3_noteLength_32 rfl (lv_at hl 2 rfl) ?_
        refine lv_iload hx hb dX3_noteLength_33 (lv_at hl 6 rfl) ?_
        obtain ⟨hi, hf⟩ := gd_some hf
        refine va_iald hx hb hK.1 hP 6 0 rfl rfl hi dX3_noteLength_35 ?_
        refine lv_iload_n hx hb dX3_noteLength_36 rfl (lv_at hl 3 rfl) ?_
        refine lv_icmp_eq (tgt := 95) hx hb dX3_noteLength_37 (by decide) (fun hc => ?_) (fun hc => ?_)
        · have hf := ifp hc hf
          refine lv_iload hx hb dX3_noteLength_95 (lv_at hl 4 rfl) ?_
          cases hf
          exact W.iret hx hb hr (fun t ht _ => ⟨rfl, ht⟩) (fun _ h => nomatch h) dX3_noteLength_97
        · have hf := ifn hc hf
          refine lv_aload_n hx hb dX3_noteLength_40 rfl (lv_at hl 2 rfl) ?_
          refine lv_iload hx hb dX3_noteLength_41 (lv_at hl 6 rfl) ?_
          obtain ⟨hi, hf⟩ := gd_some hf
          refine va_iald hx hb hK.1 hP 6 0 rfl rfl hi dX3_noteLength_43 ?_
          refine lv_istore (lv' := [(7, .int (w_a x6.toNatClampNeg)), (0, .ref a0), (1, .int x1), (2, .ref w0), (3, .int x3), (4, .int x4), (5, .int x5), (6, .int x6)]) hx hb dX3_noteLength_44 hl (by decide) rfl (fun ls hl => ?_)
          refine lv_iload hx hb dX3_noteLength_46 (lv_at hl 6 rfl) ?_
          refine lv_if_ne (tgt := 65) hx hb dX3_noteLength_48 (by decide) (fun hc => ?_) (fun hc => ?_)
          · have hf := ifn hc hf
            refine lv_iconst (v := (nI 1)) hx hb dX3_noteLength_65 ic_1 ?_
            refine lv_goto (tgt := 70) hx hb dX3_noteLength_66 (by decide) ?_
            exact hB_70 x3 x4 x6 (w_a x6.toNatClampNeg) (nI 1) _ ih hf  ls (lv_sub hl [1, 2, 3, 4, 5, 7, 0] rfl)
          · have hf := ifp hc hf
            refine lv_aload_n hx hb dX3_noteLength_51 rfl (lv_at hl 1 rfl) ?_
            refine va_get (D := D) (ci := 3) (v := .ref a2) (C := RX3) (T := TX3) (N := 6) hx hb hts hiX3 hown hK.1 hP 0 rfl rfl 2 (by decide) hfl_15 (fun _ h9 => h9) rfl dX3_noteLength_52 ?_
            refine lv_iload hx hb dX3_noteLength_55 (lv_at hl 0 rfl) ?_
            obtain ⟨hi, hf⟩ := gd_some hf
            refine va_iald hx hb hK.1 hP 2 0 rfl rfl hi dX3_noteLength_57 ?_
            refine lv_iload_n hx hb dX3_noteLength_58 rfl (lv_at hl 2 rfl) ?_
            obtain ⟨rv1, hrv1, hf⟩ := bd hf
            refine roI (va_runSN (As := [.int (a_U (w_a x6.toNatClampNeg).toNatClampNeg), .int x1]) (rest := []) ⟨hx, hb, hml, hown, hts⟩ (c_X6_has l D cI cZ cM (a_U (w_a x6.toNatClampNeg).toNatClampNeg) x1 rv1 hrv1) ⟨va_cnB (host := RX6) 2 hts gX3_noteLength_X6_has_n39 rfl rfl rfl hn_7 hin_RX6 hdc_X6_has ⟨Nat.le_of_ble_eq_true rfl, Nat.le_of_ble_eq_true rfl⟩, hst_X6_has, trivial⟩ (prS hK hP [] rfl) rfl rfl hl.1 rfl (lv_room (Nat.le_of_ble_eq_true rfl)) dX3_noteLength_59 ⟨Nat.zero_le _, Nat.zero_le _⟩) ?_
            refine lv_if_eq (tgt := 69) hx hb dX3_noteLength_62 (by decide) (fun hc => ?_) (fun hc => ?_)
            · have hf := ifp hc hf
              refine lv_iconst (v := (nI 0)) hx hb dX3_noteLength_69 ic_0 ?_
              exact hB_70 x3 x4 x6 (w_a x6.toNatClampNeg) (nI 0) _ ih hf  ls (lv_sub hl [1, 2, 3, 4, 5, 7, 0] rfl)
            · have hf := ifn hc hf
              refine lv_iconst (v := (nI 1)) hx hb dX3_noteLength_65 ic_1 ?_
              refine lv_goto (tgt := 70) hx hb dX3_noteLength_66 (by decide) ?_
              exact hB_70 x3 x4 x6 (w_a x6.toNatClampNeg) (nI 1) _ ih hf  ls (lv_sub hl [1, 2, 3, 4, 5, 7, 0] rfl)
  have hl := lv_entry ([.ref a0, .int x1, .ref w0]) (n := 8) (Nat.le_of_ble_eq_true rfl)
  rw [lg_entry_eq]
  generalize (lg_sl ([.ref a0, .int x1, .ref w0]) ++ List.replicate (8 - (lg_sl ([.ref a0, .int x1, .ref w0])).length) Slot.unset).toArray = ls at hl ⊢
  have hl : lv_has ls 8 [(0, .ref a0), (1, .int x1), (2, .ref w0)] := hl
  unfold m_X3_noteLength at hf
  refine lv_aload_n hx hb dX3_noteLength_0 rfl (lv_at hl 0 rfl) ?_
  refine va_get (D := D) (ci := 3) (v := .ref a3) (C := RX3) (T := TX3) (N := 6) hx hb hts hiX3 hown hK.1 hP 0 rfl rfl 3 (by decide) hfl_18 (fun _ h9 => h9) rfl dX3_noteLength_1 ?_
  refine lv_iload_n hx hb dX3_noteLength_4 rfl (lv_at hl 1 rfl) ?_
  obtain ⟨hi, hf⟩ := gd_some hf
  refine va_iald hx hb hK.1 hP 3 0 rfl rfl hi dX3_noteLength_5 ?_
  refine lv_istore_n (lv' := [(3, .int (a_H x1.toNatClampNeg)), (0, .ref a0), (1, .int x1), (2, .ref w0)]) hx hb dX3_noteLength_6 rfl hl (by decide) rfl (fun ls hl => ?_)
  refine lv_iload_n hx hb dX3_noteLength_7 rfl (lv_at hl 0 rfl) ?_
  refine lv_iconst (v := (-1 : Int32)) hx hb dX3_noteLength_8 ic_m1 ?_
  refine lv_icmp_ne (tgt := 14) hx hb dX3_noteLength_9 (by decide) (fun hc => ?_) (fun hc => ?_)
  · have hf := ifn hc hf
    refine lv_iconst (v := (nI 0)) hx hb dX3_noteLength_14 ic_0 ?_
    refine lv_istore (lv' := [(4, .int (nI 0)), (3, .int (a_H x1.toNatClampNeg)), (0, .ref a0), (1, .int x1), (2, .ref w0)]) hx hb dX3_noteLength_15 hl (by decide) rfl (fun ls hl => ?_)
    refine lv_iconst (v := (nI 0)) hx hb dX3_noteLength_17 ic_0 ?_
    refine lv_istore (lv' := [(5, .int (nI 0)), (4, .int (nI 0)), (3, .int (a_H x1.toNatClampNeg)), (0, .ref a0), (1, .int x1), (2, .ref w0)]) hx hb dX3_noteLength_18 hl (by decide) rfl (fun ls hl => ?_)
    refine lv_iconst (v := (nI 0)) hx hb dX3_noteLength_20 ic_0 ?_
    refine lv_istore (lv' := [(6, .int (nI 0)), (5, .int (nI 0)), (4, .int (nI 0)), (3, .int (a_H x1.toNatClampNeg)), (0, .ref a0), (1, .int x1), (2, .ref w0)]) hx hb dX3_noteLength_21 hl (by decide) rfl (fun ls hl => ?_)
    exact hB_23 (a_H x1.toNatClampNeg) fu (nI 0) (nI 0) (nI 0) hf  ls (lv_sub hl [4, 5, 6, 3, 2, 1, 0] rfl)
  · have hf := ifp hc hf
    refine lv_iconst (v := (nI 0)) hx hb dX3_noteLength_12 ic_0 ?_
    cases hf
    exact W.iret hx hb hr (fun t ht _ => ⟨rfl, ht⟩) (fun _ h => nomatch h) dX3_noteLength_13
