set_option maxHeartbeats 4000000 in
set_option maxRecDepth 100000 in
theorem whole_start {p : Program} {e : Env} {s : State} {m : MethodId} {below : List Frame} {meth : Method} {c : Code} (l : Launch) (hflags : l.flags = flags0) {b L : Nat} {xs : Nat → Int32} (hL : L ≤ 2048) (C0 : lw_At p s m meth c b L xs) : W p l e room_1 s m #[Value.ref b] below meth c s.heap [] 0 0 (lw_Z below #[Value.ref b] s) (entryFrame m ([Value.ref b] : List Value).toArray 4) := by
  obtain ⟨hx, hb0, hr, hml, hown, hts0, hX, hbl, hlocks, hgv⟩ := id C0
  have hb : c.code = cL_law := hb0
  have hown : s.vm.findClass RL = some m.cls := hown
  have hts : ∀ w ∈ wsL_law, w.before #[Value.ref b] s = true := fun w h => hts0 w (wsL_law_in w h)
  obtain ⟨D, cI, cZ, cM, hK⟩ := KK_of hts0
  obtain ⟨adK, adV, hE⟩ := ENV_of hts0 hgv
  obtain ⟨vL, vU, vH, vO, vB, m1, hc⟩ := X3_beginAnew (n := 4) (fu := 1100) (Nat.le_refl _) (fun _ => nI 0) (fun _ => nI 0) (fun _ => nI 0) (fun _ => nI 0) (fun _ => nI 0)
  have hf6 : m_X3_init 1100 = some (nI 4, vL, vU, vH, vO, vB) := m1
  obtain ⟨ro, m2, hk, -⟩ := X7_begins (n := 4) (fu := 1100) (Nat.le_refl _) (fun _ => nI 0)
  have hf7 : m_X7_init 1100 = some ro := m2
  have hA : ∀ q : Nat, s.heap.size ≤ q → (fun q : Nat => s.heap.size ≤ q) q := fun _ h => h
  have hS : va_S (fun q : Nat => s.heap.size ≤ q) s.heap s.heap [] := va_S.rf
  have hP : va_P D vwCl [] s.heap := fun k q h => by simp at h
  have hD : va_D (fun q : Nat => s.heap.size ≤ q) [] := ⟨fun i j p q h => by simp at h, fun k q h => by simp at h⟩
  have hl := lv_entry ([.ref b]) (n := 4) (Nat.le_of_ble_eq_true rfl)
  rw [lg_entry_eq]
  generalize (lg_sl ([.ref b]) ++ List.replicate (4 - (lg_sl ([.ref b])).length) Slot.unset).toArray = ls at hl ⊢
  have hl : lv_has ls 4 [(0, .ref b)] := hl
  refine va_new (ci := 6) (fs := [.null, .null, .null, .null, .null, .null, .null, .null, .null, .null]) (C := RX6) (T := TX6) (N := 10) hx hb hts inlX6 tyX6 tyX6_ok hown (hts0 (.classLink RL 7 RX6) (tb_in 15 (by decide +kernel))) (hts0 _ ini_X6) (hts0 (.initialized RX6) (tb_in 1 (by decide +kernel))) hK.1 hP hD hS hA rfl (fun j hj => by rcases (show j = 0 ∨ j = 1 ∨ j = 2 ∨ j = 3 ∨ j = 4 ∨ j = 5 ∨ j = 6 ∨ j = 7 ∨ j = 8 ∨ j = 9 by omega) with rfl | rfl | rfl | rfl | rfl | rfl | rfl | rfl | rfl | rfl <;> rfl) (Nat.le_of_ble_eq_true rfl) (Nat.le_of_ble_eq_true rfl) dL_law_0 (fun x0 H hP hD hS => ?_)
  have hP : va_P D vwCl [(x0, .inr (6, [.null, .null, .null, .null, .null, .null, .null, .null, .null, .null]))] H := hP
  have hD : va_D (fun q : Nat => s.heap.size ≤ q) [(x0, .inr (6, [.null, .null, .null, .null, .null, .null, .null, .null, .null, .null]))] := hD
  refine W.widen (k := 1) (n := 10) (by omega) (by omega) ?_
  refine lv_dup hx hb dL_law_3 rfl ?_
  refine muN (wr := []) (va_runI (As := []) (rest := [.ref x0]) ⟨hx, hb, hml, hown, hts⟩ (c_X6_init l D cI cZ cM x0 H.size 1100 (nI 4) vL vU vH vO vB hf6) (cwI 0 hts gL_law_X6_init rfl rfl rfl (hts0 (.initialized RX6) (tb_in 1 (by decide +kernel))) (hts0 (.methodLink RL 9 yX6_init) (tb_in 17 (by decide +kernel))) (hts0 (.instanceMethod yX6_init) (tb_in 18 (by decide +kernel))) rfl hdc_X6_init ⟨(Nat.le_of_ble_eq_true rfl), (Nat.le_of_ble_eq_true rfl)⟩) (pmS hK hP hD [0] (by decide) rfl rfl) rfl rfl hl.1 rfl (lv_room (Nat.le_of_ble_eq_true rfl)) dL_law_4 ⟨(Nat.le_of_ble_eq_true rfl), (Nat.le_of_ble_eq_true rfl)⟩) hP hD hS hA [0] [] rfl rfl (by decide) (by decide) (fun f H locs hP hD hS => ?_)
  have hP : va_P D vwCl (w6F cI cZ cM x0 f vL vU vH vO vB) H := hP
  have hD : va_D (fun q : Nat => s.heap.size ≤ q) (w6F cI cZ cM x0 f vL vU vH vO vB) := hD
  refine W.widen (k := 99) (n := 4155) (by omega) (by omega) ?_
  refine lv_astore_n (lv' := [(1, .ref x0), (0, .ref b)]) hx hb dL_law_7 rfl hl (by decide) rfl (fun ls hl => ?_)
  refine va_new (ci := 7) (fs := [.null, .int (nI 0), .null, .null, .int (nI 0), .int (nI 0), .int (nI 0), .int (nI 0), .int (nI 0), .int (nI 0), .null, .null, .null, .null]) (C := RX7) (T := TX7) (N := 14) hx hb hts inlX7 tyX7 tyX7_ok hown (hts0 (.classLink RL 10 RX7) (tb_in 681 (by decide +kernel))) (hts0 _ ini_X7) (hts0 (.initialized RX7) (tb_in 8 (by decide +kernel))) hK.1 hP hD hS hA rfl (fun j hj => by rcases (show j = 0 ∨ j = 1 ∨ j = 2 ∨ j = 3 ∨ j = 4 ∨ j = 5 ∨ j = 6 ∨ j = 7 ∨ j = 8 ∨ j = 9 ∨ j = 10 ∨ j = 11 ∨ j = 12 ∨ j = 13 by omega) with rfl | rfl | rfl | rfl | rfl | rfl | rfl | rfl | rfl | rfl | rfl | rfl | rfl | rfl <;> rfl) (Nat.le_of_ble_eq_true rfl) (Nat.le_of_ble_eq_true rfl) dL_law_8 (fun k0 H hP hD hS => ?_)
  refine W.widen (k := 100) (n := 4169) (by omega) (by omega) ?_
  refine lv_dup hx hb dL_law_11 rfl ?_
  refine muN (wr := w6F cI cZ cM x0 f vL vU vH vO vB) (va_runI (As := []) (rest := [.ref k0]) ⟨hx, hb, hml, hown, hts⟩ (c_X7_init l D cI cZ cM k0 H.size 1100 ro hf7) (cwI 0 hts gL_law_X7_init rfl rfl rfl (hts0 (.initialized RX7) (tb_in 8 (by decide +kernel))) (hts0 (.methodLink RL 12 yX7_init) (tb_in 683 (by decide +kernel))) (hts0 (.instanceMethod yX7_init) (tb_in 684 (by decide +kernel))) rfl hdc_X7_init ⟨(Nat.le_of_ble_eq_true rfl), (Nat.le_of_ble_eq_true rfl)⟩) (pmS hK hP hD [99] (by decide) rfl rfl) rfl rfl hl.1 rfl (lv_room (Nat.le_of_ble_eq_true rfl)) dL_law_12 ⟨(Nat.le_of_ble_eq_true rfl), (Nat.le_of_ble_eq_true rfl)⟩) hP hD hS hA [99] [0, 1, 2, 3, 4, 5, 6, 7, 8, 9, 10, 11, 12, 13, 14, 15, 16, 17, 18, 19, 20, 21, 22, 23, 24, 25, 26, 27, 28, 29, 30, 31, 32, 33, 34, 35, 36, 37, 38, 39, 40, 41, 42, 43, 44, 45, 46, 47, 48, 49, 50, 51, 52, 53, 54, 55, 56, 57, 58, 59, 60, 61, 62, 63, 64, 65, 66, 67, 68, 69, 70, 71, 72, 73, 74, 75, 76, 77, 78, 79, 80, 81, 82, 83, 84, 85, 86, 87, 88, 89, 90, 91, 92, 93, 94, 95, 96, 97, 98] rfl (w6_all _) (by decide +kernel) (by decide +kernel) (fun f2 H locs hP hD hS => ?_)
  refine W.widen (k := 107) (n := 7060) (by omega) (by omega) ?_
  refine lv_astore_n (lv' := [(2, .ref k0), (1, .ref x0), (0, .ref b)]) hx hb dL_law_15 rfl hl (by decide) rfl (fun ls hl => ?_)
  refine lv_iconst (v := nI 0) hx hb dL_law_16 ic_0 ?_
  refine lv_istore_n (lv' := [(3, .int (nI 0)), (2, .ref k0), (1, .ref x0), (0, .ref b)]) hx hb dL_law_17 rfl hl (by decide) rfl (fun ls hl => ?_)
  exact law_loop C0 hL hK hE (L + 1) 0 (by omega) (Nat.zero_le L) H locs ls (lv_sub hl [3, 2, 1, 0] rfl) (INV_0 hc hk hP hD hS)
