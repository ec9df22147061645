/-! THE LAW: the words of the skeleton, and what its start gives -/
/-! THE CLAIM OUT OF ONE WALK OF THE LAW'S BODY. Your part is whole_start (and what it stands on); all else here is the same for every law, but numbers. -/
def R_law : String := "TermsFirstLaw"
def lw_P (b : Addr) (xs : List Int32) (args : Array Value) (s : State) : Prop := args = #[.ref b] ∧ s.IntsAt b xs ∧ xs.length ≤ 2048 ∧ (Jvm.Cond.and given_1 narrow_1).before args s = true
def lw_Q (_ : Array Value) (s : State) (o : Outcome) (t : State) : Prop := o = .returned (some (.int 1)) ∧ Framed s o t [] 600000 7302250
def lw_Z (below : List Frame) (a : Array Value) (s : State) : State → Prop := fun t => ∃ o, t.status = .running ∧ Ended t below o ∧ lw_Q a s o t
/-- the law's own end, with 1 on the stack, nothing written that was there before, its room as the claim has it -/
theorem lw_ret {p : Program} {l : Launch} {e : Env} {s : State} {m : MethodId} {below : List Frame} {meth : Method} {c : Code} {b : Nat} (hx : p.tables.exec = Jvm.exec) (hb : c.code = code) (hr : meth.sig.returnType = ret) (hlocks : meth.locks = false) {pc : Nat} {H : Heap} {ls : Array Slot} (hdg : decode code pc = .ok (.ireturn, 1)) : W p l e room_1 s m #[Value.ref b] below meth c H [] 600000 7302250 (lw_Z below #[Value.ref b] s) (F0 m pc ls [.int 1]) := by
  intro T hT X
  obtain ⟨fs, hret, hrun, hended, hW, hframe⟩ := X.leave (v := some (.int 1)) (hlocks := hlocks) (fun h => by rw [hr] at h; cases h)
  have hmeth' : T.vm.method? m = some meth := X.method'
  refine ⟨T.setFrames fs, ?_, .returned (some (.int 1)), hrun, hended, rfl, ⟨_, rfl⟩, hW, hframe⟩
  jvm_step X.here [X.here.top, hx, hb, hdg, hmeth', hr, ret, narrow_b1]
  (try refine ⟨rfl, ?_⟩); (try refine ⟨rfl, ?_⟩)
  first | (intro acts; rw [hret _ acts rfl rfl rfl]) | rw [hret _ _ rfl rfl rfl]
  exact Steps.refl _
/-- what holds at the law's entry: the machine, the code, the tables' words (any of lw_tbl by 'hts w (by decide +kernel)'), the script of L ints xs at the cell b, what the Statement gives of the start (any of its parts by flat_of_before) -/
def lw_At (p : Program) (s : State) (m : MethodId) (meth : Method) (c : Code) (b L : Nat) (xs : Nat → Int32) : Prop :=
  p.tables.exec = Jvm.exec ∧ c.code = code ∧ meth.sig.returnType = ret ∧ c.maxLocals = 4 ∧ s.vm.findClass R_law = some m.cls ∧ (∀ w ∈ lw_tbl, w.before #[Value.ref b] s = true) ∧ va_X b L xs s s.heap ∧ b < s.heap.size ∧ meth.locks = false ∧ (Jvm.Cond.and given_1 narrow_1).before #[Value.ref b] s = true
theorem tb_in {w : Cond} (i : Nat) (h : tables_1[i]? = some w) : w ∈ lw_tbl := List.mem_append_right _ (List.mem_of_getElem? h)
theorem ini_X0 : Cond.instantiable RX0 9 ∈ lw_tbl := tb_in 159 (by decide +kernel)
theorem ini_X1 : Cond.instantiable RX1 3 ∈ lw_tbl := tb_in 94 (by decide +kernel)
theorem ini_X2 : Cond.instantiable RX2 3 ∈ lw_tbl := tb_in 111 (by decide +kernel)
theorem ini_X3 : Cond.instantiable RX3 6 ∈ lw_tbl := tb_in 24 (by decide +kernel)
theorem ini_X4 : Cond.instantiable RX4 6 ∈ lw_tbl := tb_in 131 (by decide +kernel)
theorem ini_X5 : Cond.instantiable RX5 5 ∈ lw_tbl := tb_in 70 (by decide +kernel)
theorem ini_X6 : Cond.instantiable RX6 10 ∈ lw_tbl := tb_in 16 (by decide +kernel)
theorem ini_X7 : Cond.instantiable RX7 14 ∈ lw_tbl := tb_in 682 (by decide +kernel)
theorem nin_0 : Cond.methodLinkNest RX6 25 yX5_init RX6 ∈ lw_tbl := tb_in 71 (by decide +kernel)
theorem nin_1 : Cond.methodLinkNest RX6 56 yX4_init RX6 ∈ lw_tbl := tb_in 132 (by decide +kernel)
theorem nin_2 : Cond.methodLinkNest RX6 63 yX0_init RX6 ∈ lw_tbl := tb_in 160 (by decide +kernel)
theorem nin_3 : Cond.methodLinkNest RX0 70 yX6_with RX6 ∈ lw_tbl := tb_in 516 (by decide +kernel)
theorem nin_4 : Cond.methodLinkNest RX0 79 yX6_has RX6 ∈ lw_tbl := tb_in 522 (by decide +kernel)
theorem nin_5 : Cond.methodLinkNest RX1 122 yX6_with RX6 ∈ lw_tbl := tb_in 386 (by decide +kernel)
theorem nin_6 : Cond.methodLinkNest RX1 125 yX6_has RX6 ∈ lw_tbl := tb_in 392 (by decide +kernel)
theorem nin_7 : Cond.methodLinkNest RX3 39 yX6_has RX6 ∈ lw_tbl := tb_in 383 (by decide +kernel)
theorem nin_8 : Cond.methodLinkNest RX3 43 yX6_with RX6 ∈ lw_tbl := tb_in 397 (by decide +kernel)
theorem nin_9 : Cond.methodLinkNest RX4 35 yX6_with RX6 ∈ lw_tbl := tb_in 579 (by decide +kernel)
theorem nin_10 : Cond.methodLinkNest RX4 39 yX6_has RX6 ∈ lw_tbl := tb_in 580 (by decide +kernel)
theorem nin_11 : Cond.methodLinkNest RX5 41 yX6_isTerm RX6 ∈ lw_tbl := tb_in 355 (by decide +kernel)
theorem nin_12 : Cond.methodLinkNest RX5 45 yX6_with RX6 ∈ lw_tbl := tb_in 367 (by decide +kernel)
theorem KK_of {s : State} {A0 : Array Value} (hts : ∀ w ∈ lw_tbl, w.before A0 s = true) : ∃ (D : va_G) (cI cZ cM : ClassId), KK D cI cZ cM s := by
  obtain ⟨c0, iS0, hKn0⟩ := u_known (C := RX0) (T := TX0) (N := 9) (n := 9) hts inX0 (hts _ ini_X0)
  obtain ⟨c1, iS1, hKn1⟩ := u_known (C := RX1) (T := TX1) (N := 3) (n := 3) hts inX1 (hts _ ini_X1)
  obtain ⟨c2, iS2, hKn2⟩ := u_known (C := RX2) (T := TX2) (N := 3) (n := 3) hts inX2 (hts _ ini_X2)
  obtain ⟨c3, iS3, hKn3⟩ := u_known (C := RX3) (T := TX3) (N := 6) (n := 6) hts inX3 (hts _ ini_X3)
  obtain ⟨c4, iS4, hKn4⟩ := u_known (C := RX4) (T := TX4) (N := 6) (n := 6) hts inX4 (hts _ ini_X4)
  obtain ⟨c5, iS5, hKn5⟩ := u_known (C := RX5) (T := TX5) (N := 5) (n := 5) hts inX5 (hts _ ini_X5)
  obtain ⟨c6, iS6, hKn6⟩ := u_known (C := RX6) (T := TX6) (N := 10) (n := 10) hts inX6 (hts _ ini_X6)
  obtain ⟨c7, iS7, hKn7⟩ := u_known (C := RX7) (T := TX7) (N := 14) (n := 14) hts inX7 (hts _ ini_X7)
  obtain ⟨cI, kI, coI, i1, i2, i3⟩ := Cond.arrayClass_spec (hts (.arrayClass .int) (tb_in 68 (by decide +kernel)))
  obtain ⟨cZ, kZ, coZ, z1, z2, z3⟩ := Cond.arrayClass_spec (hts (.arrayClass .boolean) (tb_in 157 (by decide +kernel)))
  have hAO := hts (.arrayOver (.object RX3)) (tb_in 117 (by decide +kernel))
  obtain ⟨coM, cM, kM, m1, m2, m3, m4, m5⟩ := Cond.arrayOver_spec hAO
  refine ⟨(fun k => if k = 0 then c0 else if k = 1 then c1 else if k = 2 then c2 else if k = 3 then c3 else if k = 4 then c4 else if k = 5 then c5 else if k = 6 then c6 else c7, fun k => if k = 0 then iS0 else if k = 1 then iS1 else if k = 2 then iS2 else if k = 3 then iS3 else if k = 4 then iS4 else if k = 5 then iS5 else if k = 6 then iS6 else iS7), cI, cZ, cM, ⟨?_, ?_⟩, ?_, va_AO.of hAO⟩
  · intro k q hq
    match k, hq with
    | 0, hq => cases hq; exact hKn0
    | 1, hq => cases hq; exact hKn1
    | 2, hq => cases hq; exact hKn2
    | 3, hq => cases hq; exact hKn3
    | 4, hq => cases hq; exact hKn4
    | 5, hq => cases hq; exact hKn5
    | 6, hq => cases hq; exact hKn6
    | 7, hq => cases hq; exact hKn7
    | k + 8, hq => simp [vwCl] at hq
  · intro k q hq
    match k, hq with
    | 0, hq => cases hq; exact ⟨fun n z => ⟨fun k h => (by cases h), kI, i2, coI, i3⟩, i1⟩
    | 1, hq => cases hq; exact ⟨fun n z => ⟨fun k h => (by cases h), kZ, z2, coZ, z3⟩, z1⟩
    | 2, hq => cases hq; exact ⟨fun n z => ⟨fun k h => (by cases h), kM, m3, coM, m4⟩, kM, coM, m3, m4, m1, m5⟩
    | k + 3, hq => simp at hq
  · intro q hq
    unfold nsL at hq
    simp only [List.mem_cons, List.not_mem_nil, or_false] at hq
    rcases hq with rfl | rfl | rfl | rfl | rfl | rfl | rfl | rfl | rfl | rfl | rfl | rfl | rfl
    · exact va_Nw.of rfl (hts _ nin_0)
    · exact va_Nw.of rfl (hts _ nin_1)
    · exact va_Nw.of rfl (hts _ nin_2)
    · exact va_Nw.of rfl (hts _ nin_3)
    · exact va_Nw.of rfl (hts _ nin_4)
    · exact va_Nw.of rfl (hts _ nin_5)
    · exact va_Nw.of rfl (hts _ nin_6)
    · exact va_Nw.of rfl (hts _ nin_7)
    · exact va_Nw.of rfl (hts _ nin_8)
    · exact va_Nw.of rfl (hts _ nin_9)
    · exact va_Nw.of rfl (hts _ nin_10)
    · exact va_Nw.of rfl (hts _ nin_11)
    · exact va_Nw.of rfl (hts _ nin_12)
theorem env_1 : ∀ i, i < 6 → Cond.exactly (.string RX1 (wix i)) "java/lang/String" ∈ flatC (Jvm.Cond.and given_1 narrow_1) ∧ Cond.eq (.field (.string RX1 (wix i)) "java/lang/String" "coder" "B") (.int 0) ∈ flatC (Jvm.Cond.and given_1 narrow_1) ∧ Cond.arrayOf (.field (.string RX1 (wix i)) "java/lang/String" "value" "[B") .byte ∈ flatC (Jvm.Cond.and given_1 narrow_1) ∧ Cond.eq (.length (.field (.string RX1 (wix i)) "java/lang/String" "value" "[B")) (.int (Int32.ofNat ([8, 5, 4, 4, 5, 5].getD i 0))) ∈ flatC (Jvm.Cond.and given_1 narrow_1) := by decide +kernel
theorem env_2 : ∀ i, i < 6 → ∀ j, j < [8, 5, 4, 4, 5, 5].getD i 0 → Cond.eq (.elem (.field (.string RX1 (wix i)) "java/lang/String" "value" "[B") (.int (Int32.ofNat j))) (.int ((wbyt.getD i []).getD j 0)) ∈ flatC (Jvm.Cond.and given_1 narrow_1) := by decide +kernel
theorem env_3 : ∀ i, i < 6 → ∀ j, j < 6 → i ≠ j → Cond.not (Cond.eq (.string RX1 (wix i)) (.string RX1 (wix j))) ∈ flatC (Jvm.Cond.and given_1 narrow_1) ∨ Cond.not (Cond.eq (.string RX1 (wix j)) (.string RX1 (wix i))) ∈ flatC (Jvm.Cond.and given_1 narrow_1) := by decide +kernel
theorem env_4 : Cond.eq (.static "java/lang/String" "COMPACT_STRINGS" "Z") (.int 1) ∈ flatC (Jvm.Cond.and given_1 narrow_1) ∧ Cond.isRef (.static "jdk/internal/util/Preconditions" "SIOOBE_FORMATTER" "Ljava/util/function/BiFunction;") ∈ flatC (Jvm.Cond.and given_1 narrow_1) := by decide +kernel
theorem env_5 : ∀ i, i < 6 → tables_1[[271, 337, 346, 358, 370, 387].getD i 0]? = some (Cond.stringRef RX1 (wix i) (wtx i)) := by decide +kernel
theorem ENV_of {s : State} {b : Nat} (hts : ∀ w ∈ lw_tbl, w.before #[Value.ref b] s = true) (hgv : (Jvm.Cond.and given_1 narrow_1).before #[Value.ref b] s = true) : ∃ adK adV : Nat → Nat, ENV (fun q : Nat => s.heap.size ≤ q) adK adV s s.heap := by
  have hs := flat_of_before _ hgv
  have hA : ∀ a : Nat, a < s.heap.size → ¬ (fun q : Nat => s.heap.size ≤ q) a := fun a h => Nat.not_le.mpr h
  obtain ⟨adK, adV, hv, he⟩ := vk_Sof (args := #[Value.ref b]) (s := s) (N := 6) (tm := fun i => .string RX1 (wix i)) (len := [8, 5, 4, 4, 5, 5]) (byt := wbyt) (A := fun q : Nat => s.heap.size ≤ q) wlen_lt (fun i hi => hs _ (env_1 i hi).1) (fun i hi => hs _ (env_1 i hi).2.1) (fun i hi => hs _ (env_1 i hi).2.2.1) (fun i hi => hs _ (env_1 i hi).2.2.2) (fun i hi j hj => hs _ (env_2 i hi j hj)) (fun i j hi hj hne => (env_3 i hi j hj hne).elim (fun h => Or.inl (hs _ h)) (fun h => Or.inr (hs _ h))) hA
  have hZ : va_Z "java/lang/String" "COMPACT_STRINGS" "Z" (.int 1) (fun q : Nat => s.heap.size ≤ q) s s.heap := va_Zof (args := #[Value.ref b]) (hts _ (tb_in 285 (by decide +kernel))) (hts _ (tb_in 9 (by decide +kernel))) (va_eqi (hs _ env_4.1)) hA
  have hZq : va_Zq "jdk/internal/util/Preconditions" "SIOOBE_FORMATTER" "Ljava/util/function/BiFunction;" (fun q : Nat => s.heap.size ≤ q) s s.heap := va_Zqof (args := #[Value.ref b]) (hts _ (tb_in 301 (by decide +kernel))) (hts _ (tb_in 11 (by decide +kernel))) (hs _ env_4.2) hA
  exact ⟨adK, adV, fun i hi => ⟨⟨(hv.1 i hi).1, (hv.1 i hi).2.1, (hv.1 i hi).2.2.1, (hv.1 i hi).2.2.2, hZ, hZq⟩, vk_R.of (A := #[Value.ref b]) (hts _ (tb_in _ (env_5 i hi))) (he i hi)⟩⟩
/-! a whole world before and behind a call -/
def sX (is : List Nat) : Nat → va_W → va_W → Prop
  | _, [], [] => True
  | n, a :: w, b :: v => a.1 = b.1 ∧ (n ∈ is ∨ b = a) ∧ sX is (n + 1) w v
  | _, [], _ :: _ => False
  | _, _ :: _, [] => False
theorem sX_n {is : List Nat} {n : Nat} : sX is n [] [] := trivial
theorem sX_e {is : List Nat} {n : Nat} {a : Nat × va_E} {w v : va_W} (h : sX is (n + 1) w v) : sX is n (a :: w) (a :: v) := ⟨rfl, Or.inr rfl, h⟩
theorem sX_c {is : List Nat} {n : Nat} {a b : Nat × va_E} {w v : va_W} (h1 : a.1 = b.1) (h2 : n ∈ is) (h : sX is (n + 1) w v) : sX is n (a :: w) (b :: v) := ⟨h1, Or.inl h2, h⟩
theorem sX_spec {is : List Nat} : ∀ {w v : va_W} {n : Nat}, sX is n w v → v.map (fun q => q.1) = w.map (fun q => q.1) ∧ ∀ k, n + k ∉ is → v[k]? = w[k]?
  | [], [], _, _ => ⟨rfl, fun _ _ => rfl⟩
  | a :: w, b :: v, n, h => by
    obtain ⟨h1, h2, h3⟩ := h
    obtain ⟨i1, i2⟩ := sX_spec h3
    refine ⟨by rw [List.map_cons, List.map_cons, i1, h1], fun k hk => ?_⟩
    cases k with
    | zero =>
      rcases h2 with z | z
      · exact absurd z hk
      · rw [z]; rfl
    | succ k =>
      rw [List.getElem?_cons_succ, List.getElem?_cons_succ]
      exact i2 k (by rw [show n + 1 + k = n + (k + 1) by omega]; exact hk)
  | [], _ :: _, _, h => False.elim h
  | _ :: _, [], _, h => False.elim h
theorem wD_same {A : Nat → Prop} {w v : va_W} (h : v.map (fun q => q.1) = w.map (fun q => q.1)) (hD : va_D A w) : va_D A v := by
  have key : ∀ (k : Nat) (q : Nat × va_E), v[k]? = some q → ∃ p : Nat × va_E, w[k]? = some p ∧ p.1 = q.1 := by
    intro k q hq
    have h2 : (v.map (fun q => q.1))[k]? = (w.map (fun q => q.1))[k]? := by rw [h]
    rw [List.getElem?_map, List.getElem?_map, hq, Option.map_some] at h2
    cases hw : w[k]? with
    | none => rw [hw] at h2; cases h2
    | some p => rw [hw, Option.map_some] at h2; exact ⟨p, rfl, (Option.some.inj h2).symm⟩
  refine ⟨fun i j p q hp hq e => ?_, fun k q hq => ?_⟩
  · obtain ⟨p2, a1, a2⟩ := key i p hp
    obtain ⟨q2, b1, b2⟩ := key j q hq
    exact hD.1 i j p2 q2 a1 b1 (by rw [a2, b2, e])
  · obtain ⟨p, a1, a2⟩ := key k q hq
    rw [← a2]
    exact hD.2 k p a1
theorem wP_same {D : va_G} {cl : List vw_C} {is : List Nat} {w v : va_W} {H : Heap} (h : sX is 0 w v) (hP : ∀ (k : Nat) (q : Nat × va_E), k ∉ is → w[k]? = some q → va_at D cl q H) (hC : ∀ (k : Nat), k ∈ is → ∀ (q : Nat × va_E), v[k]? = some q → va_at D cl q H) : va_P D cl v H := fun k q hq => by
  by_cases z : k ∈ is
  · exact hC k z q hq
  · refine hP k q z ?_
    rw [← (sX_spec h).2 k (by rw [Nat.zero_add]; exact z)]
    exact hq
theorem ndl : ∀ {l : List Nat}, l.Nodup → va_nd l = true
  | [], _ => rfl
  | a :: l, h => by
    rw [List.nodup_cons] at h
    unfold va_nd
    rw [Bool.and_eq_true, decide_eq_true_eq]
    exact ⟨h.1, ndl h.2⟩
theorem mapsome {w : va_W} : ∀ (is : List Nat), (∀ i ∈ is, i < w.length) → is.map (fun i => w[i]?) = (is.filterMap (fun i => w[i]?)).map some
  | [], _ => rfl
  | i :: is, h => by
    obtain ⟨x, h1⟩ : ∃ x, w[i]? = some x := ⟨_, List.getElem?_eq_getElem (h i List.mem_cons_self)⟩
    rw [List.map_cons, List.filterMap_cons, h1, mapsome is (fun j hj => h j (List.mem_cons_of_mem _ hj))]
    rfl
theorem wP_mem {D : va_G} {cl : List vw_C} {w : va_W} {H : Heap} (hP : va_P D cl w H) {q : Nat × va_E} (h : q ∈ w) : va_at D cl q H := by
  obtain ⟨k, hk⟩ := List.getElem?_of_mem h
  exact hP k q hk
section MUF
variable {p : Program} {l : Launch} {e : Env} {R : Room} {s : State} {m : MethodId} {args : Array Value} {below : List Frame} {meth : Method} {c : Code} {H : Heap} {locs : List Loc} {cells slots : Nat} {Q : State → Prop}
variable {pc : Nat} {ls : Array Slot} {rest st0 : List Value} {a : Array Value} {A0 : Nat → Prop} {H0 : Heap} {D : va_G} {w w' wc w1 : va_W} {r : Int32}
theorem muF (hr : va_Run p l e R s m args below meth c H locs cells slots 0 0 (F0 m pc ls st0) rest (qI D r w1 (va_A wc H.size) a) (va_A wc H.size)) (hP : va_P D vwCl w H) (hD : va_D A0 w) (hS : va_S A0 H0 H locs) (hA : ∀ q, H0.size ≤ q → A0 q) (isC : List Nat) (hC : isC.map (fun i => w[i]?) = wc.map some) (hC2 : isC.map (fun i => w'[i]?) = w1.map some) (hX : sX isC 0 w w')
    (kk : ∀ (H1 : Heap) (locs1 : List Loc), va_P D vwCl w' H1 → va_D A0 w' → va_S A0 H0 H1 locs1 → W p l e R s m args below meth c H1 locs1 cells slots Q (F0 m (pc + 3) ls (.int r :: rest))) : W p l e R s m args below meth c H locs cells slots Q (F0 m pc ls st0) := by
  refine muI0 (wr := ((List.range w.length).filter (fun i => decide (i ∉ isC))).filterMap (fun i => w[i]?)) hr hP hD hS hA isC ((List.range w.length).filter (fun i => decide (i ∉ isC))) hC (mapsome _ (fun i hi => List.mem_range.mp (List.mem_filter.mp hi).1)) (ndl (List.Pairwise.filter _ List.nodup_range)) (fun i hi => of_decide_eq_true (List.mem_filter.mp hi).2) (fun H1 locs1 hP1 hD1 hS1 => kk H1 locs1 ?_ (wD_same (sX_spec hX).1 hD) hS1)
  refine wP_same hX (fun k q hk hq => wP_mem hP1 (List.mem_append_left _ (List.mem_filterMap.mpr ⟨k, List.mem_filter.mpr ⟨List.mem_range.mpr (List.getElem?_eq_some_iff.mp hq).1, decide_eq_true hk⟩, hq⟩))) (fun k hk q hq => ?_)
  have h1 : some q ∈ w1.map some := by rw [← hC2]; exact List.mem_map.mpr ⟨k, hk, hq⟩
  obtain ⟨q2, h2, h3⟩ := List.mem_map.mp h1
  cases h3
  exact wP_mem hP1 (List.mem_append_right _ h2)
end MUF
