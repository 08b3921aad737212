/-! what every method takes as given, at the start -/
set_option maxRecDepth 20000 in
theorem lw_K {s : State} {b : Nat} (hts : ∀ w ∈ lw_tbl, w.before #[Value.ref b] s = true) : ∃ (D : va_G) (cA : Nat → ClassId), va_K D vwCl [(cA 0, .int), (cA 1, .boolean), (cA 2, .object "SandPlates$Plate"), (cA 3, .array .int)] s := by
  obtain ⟨c0, i0, k0⟩ := u_known (C := RX0) (T := TX0) (N := 2) (n := 2) hts iL0 (hts (.instantiable RX0 2) (List.mem_of_getElem? (i := 155) (by decide +kernel)))
  obtain ⟨c1, i1, k1⟩ := u_known (C := RX1) (T := TX1) (N := 8) (n := 8) hts iL1 (hts (.instantiable RX1 8) (List.mem_of_getElem? (i := 223) (by decide +kernel)))
  obtain ⟨c2, i2, k2⟩ := u_known (C := RX2) (T := TX2) (N := 5) (n := 5) hts iL2 (hts (.instantiable RX2 5) (List.mem_of_getElem? (i := 101) (by decide +kernel)))
  obtain ⟨c3, i3, k3⟩ := u_known (C := RX3) (T := TX3) (N := 2) (n := 2) hts iL3 (hts (.instantiable RX3 2) (List.mem_of_getElem? (i := 256) (by decide +kernel)))
  obtain ⟨c4, i4, k4⟩ := u_known (C := RX4) (T := TX4) (N := 3) (n := 3) hts iL4 (hts (.instantiable RX4 3) (List.mem_of_getElem? (i := 269) (by decide +kernel)))
  obtain ⟨c5, i5, k5⟩ := u_known (C := RX5) (T := TX5) (N := 4) (n := 4) hts iL5 (hts (.instantiable RX5 4) (List.mem_of_getElem? (i := 172) (by decide +kernel)))
  obtain ⟨c6, i6, k6⟩ := u_known (C := RX6) (T := TX6) (N := 5) (n := 5) hts iL6 (hts (.instantiable RX6 5) (List.mem_of_getElem? (i := 178) (by decide +kernel)))
  obtain ⟨c7, i7, k7⟩ := u_known (C := RX7) (T := TX7) (N := 9) (n := 9) hts iL7 (hts (.instantiable RX7 9) (List.mem_of_getElem? (i := 93) (by decide +kernel)))
  obtain ⟨c8, i8, k8⟩ := u_known (C := RX8) (T := TX8) (N := 31) (n := 31) hts iL8 (hts (.instantiable RX8 31) (List.mem_of_getElem? (i := 693) (by decide +kernel)))
  obtain ⟨a0, kA0, comp0, f0, g0, e0⟩ := Cond.arrayClass_spec (hts (.arrayClass .int) (List.mem_of_getElem? (i := 153) (by decide +kernel)))
  obtain ⟨a1, kA1, comp1, f1, g1, e1⟩ := Cond.arrayClass_spec (hts (.arrayClass .boolean) (List.mem_of_getElem? (i := 204) (by decide +kernel)))
  obtain ⟨comp2, a2, kA2, f2, -, g2, e2, n2⟩ := Cond.arrayOver_spec (hts (.arrayOver (.object "SandPlates$Plate")) (List.mem_of_getElem? (i := 161) (by decide +kernel)))
  obtain ⟨comp3, a3, kA3, f3, g3, e3, n3⟩ := Cond.arrayOver_specA (hts (.arrayOver (.array .int)) (List.mem_of_getElem? (i := 229) (by decide +kernel)))
  refine ⟨(fun k => match k with | 0 => c0 | 1 => c1 | 2 => c2 | 3 => c3 | 4 => c4 | 5 => c5 | 6 => c6 | 7 => c7 | _ => c8, fun k => match k with | 0 => i0 | 1 => i1 | 2 => i2 | 3 => i3 | 4 => i4 | 5 => i5 | 6 => i6 | 7 => i7 | _ => i8), fun k => match k with | 0 => a0 | 1 => a1 | 2 => a2 | _ => a3, ?_, ?_⟩
  · intro k q hq
    match k, hq with
    | 0, hq => cases hq; exact k0
    | 1, hq => cases hq; exact k1
    | 2, hq => cases hq; exact k2
    | 3, hq => cases hq; exact k3
    | 4, hq => cases hq; exact k4
    | 5, hq => cases hq; exact k5
    | 6, hq => cases hq; exact k6
    | 7, hq => cases hq; exact k7
    | 8, hq => cases hq; exact k8
    | k + 9, hq => simp [vwCl] at hq
  · intro k q hq
    match k, hq with
    | 0, hq => cases hq; exact ⟨fun n z => ⟨fun k h => (by cases h), kA0, g0, comp0, e0⟩, f0⟩
    | 1, hq => cases hq; exact ⟨fun n z => ⟨fun k h => (by cases h), kA1, g1, comp1, e1⟩, f1⟩
    | 2, hq => cases hq; exact ⟨fun n z => ⟨fun k h => (by cases h), kA2, g2, comp2, e2⟩, kA2, comp2, g2, e2, f2, n2⟩
    | 3, hq => cases hq; exact ⟨fun n z => ⟨fun k h => (by cases h), kA3, g3, comp3, e3⟩, n3⟩
    | k + 4, hq => simp at hq
set_option maxRecDepth 20000 in
theorem nwl_in : nwl = ([110, 123, 124, 125, 126, 128, 129, 130, 131, 133, 134, 135, 137, 138, 140, 141, 165, 184, 186, 187, 189, 192, 208, 210, 277, 445, 447, 536, 538, 102, 156, 162, 173, 179, 206, 224, 257, 270, 317, 329, 337, 341, 342, 365, 429, 453, 461, 465, 471, 480, 510, 524, 532, 540, 544, 562, 567, 576, 577, 581, 586, 594, 604, 612, 617, 621, 647, 659, 663, 664, 687] : List Nat).filterMap (fun i => lw_tbl[i]?) := by decide +kernel
theorem lw_NW {s : State} {b : Nat} (hts : ∀ w ∈ lw_tbl, w.before #[Value.ref b] s = true) : NW s := by
  intro w hw
  have hm : w ∈ lw_tbl := by
    rw [nwl_in] at hw
    obtain ⟨i, -, hi⟩ := List.mem_filterMap.mp hw
    exact List.mem_of_getElem? hi
  have h1 := hts w hm
  have h2 := nwl_nest w hw
  cases w <;> first | exact va_Nw.of rfl h1 | cases h2
set_option maxRecDepth 20000 in
theorem lw_T0 {s : State} {b : Nat} (hts : ∀ w ∈ lw_tbl, w.before #[Value.ref b] s = true) (hs : ∀ w ∈ flatC (Jvm.Cond.and given_1 narrow_1), w.before #[Value.ref b] s = true) {A : Nat → Prop} (hA : ∀ a : Nat, a < s.heap.size → ¬ A a) : ∃ t : Nat, TB1 "AT_FIRST" t 7 tbl0 A s s.heap := by
  obtain ⟨t, ev, hT⟩ := va_Tof (tm := .static RX7 "AT_FIRST" "[I") (ty := .int) (N := 7) (f := fun j => .int (tbl0 j)) (by decide) (hs _ (by decide +kernel)) (va_eqt (hs _ (by decide +kernel))) (fun j hj => by rcases (show j = 0 ∨ j = 1 ∨ j = 2 ∨ j = 3 ∨ j = 4 ∨ j = 5 ∨ j = 6 by omega) with rfl | rfl | rfl | rfl | rfl | rfl | rfl <;> exact va_eqt (hs _ (by decide +kernel))) hA
  exact ⟨t, va_Zref (hts (.laysStatic RX7 "AT_FIRST" "[I") (List.mem_of_getElem? (i := 111) (by decide +kernel))) (hts (.initialized RX7) (List.mem_of_getElem? (i := 76) (by decide +kernel))) ev hA, hT⟩
set_option maxRecDepth 20000 in
theorem lw_T1 {s : State} {b : Nat} (hts : ∀ w ∈ lw_tbl, w.before #[Value.ref b] s = true) (hs : ∀ w ∈ flatC (Jvm.Cond.and given_1 narrow_1), w.before #[Value.ref b] s = true) {A : Nat → Prop} (hA : ∀ a : Nat, a < s.heap.size → ¬ A a) : ∃ t : Nat, TB1 "LEAST" t 6 tbl1 A s s.heap := by
  obtain ⟨t, ev, hT⟩ := va_Tof (tm := .static RX7 "LEAST" "[I") (ty := .int) (N := 6) (f := fun j => .int (tbl1 j)) (by decide) (hs _ (by decide +kernel)) (va_eqt (hs _ (by decide +kernel))) (fun j hj => by rcases (show j = 0 ∨ j = 1 ∨ j = 2 ∨ j = 3 ∨ j = 4 ∨ j = 5 by omega) with rfl | rfl | rfl | rfl | rfl | rfl <;> exact va_eqt (hs _ (by decide +kernel))) hA
  exact ⟨t, va_Zref (hts (.laysStatic RX7 "LEAST" "[I") (List.mem_of_getElem? (i := 446) (by decide +kernel))) (hts (.initialized RX7) (List.mem_of_getElem? (i := 76) (by decide +kernel))) ev hA, hT⟩
set_option maxRecDepth 20000 in
theorem lw_T2 {s : State} {b : Nat} (hts : ∀ w ∈ lw_tbl, w.before #[Value.ref b] s = true) (hs : ∀ w ∈ flatC (Jvm.Cond.and given_1 narrow_1), w.before #[Value.ref b] s = true) {A : Nat → Prop} (hA : ∀ a : Nat, a < s.heap.size → ¬ A a) : ∃ t : Nat, TB1 "MOST" t 6 tbl2 A s s.heap := by
  obtain ⟨t, ev, hT⟩ := va_Tof (tm := .static RX7 "MOST" "[I") (ty := .int) (N := 6) (f := fun j => .int (tbl2 j)) (by decide) (hs _ (by decide +kernel)) (va_eqt (hs _ (by decide +kernel))) (fun j hj => by rcases (show j = 0 ∨ j = 1 ∨ j = 2 ∨ j = 3 ∨ j = 4 ∨ j = 5 by omega) with rfl | rfl | rfl | rfl | rfl | rfl <;> exact va_eqt (hs _ (by decide +kernel))) hA
  exact ⟨t, va_Zref (hts (.laysStatic RX7 "MOST" "[I") (List.mem_of_getElem? (i := 448) (by decide +kernel))) (hts (.initialized RX7) (List.mem_of_getElem? (i := 76) (by decide +kernel))) ev hA, hT⟩
set_option maxRecDepth 20000 in
theorem lw_T3 {s : State} {b : Nat} (hts : ∀ w ∈ lw_tbl, w.before #[Value.ref b] s = true) (hs : ∀ w ∈ flatC (Jvm.Cond.and given_1 narrow_1), w.before #[Value.ref b] s = true) {A : Nat → Prop} (hA : ∀ a : Nat, a < s.heap.size → ¬ A a) : ∃ t : Nat, TB1 "STEP_X" t 4 tbl3 A s s.heap := by
  obtain ⟨t, ev, hT⟩ := va_Tof (tm := .static RX7 "STEP_X" "[I") (ty := .int) (N := 4) (f := fun j => .int (tbl3 j)) (by decide) (hs _ (by decide +kernel)) (va_eqt (hs _ (by decide +kernel))) (fun j hj => by rcases (show j = 0 ∨ j = 1 ∨ j = 2 ∨ j = 3 by omega) with rfl | rfl | rfl | rfl <;> exact va_eqt (hs _ (by decide +kernel))) hA
  exact ⟨t, va_Zref (hts (.laysStatic RX7 "STEP_X" "[I") (List.mem_of_getElem? (i := 537) (by decide +kernel))) (hts (.initialized RX7) (List.mem_of_getElem? (i := 76) (by decide +kernel))) ev hA, hT⟩
set_option maxRecDepth 20000 in
theorem lw_T4 {s : State} {b : Nat} (hts : ∀ w ∈ lw_tbl, w.before #[Value.ref b] s = true) (hs : ∀ w ∈ flatC (Jvm.Cond.and given_1 narrow_1), w.before #[Value.ref b] s = true) {A : Nat → Prop} (hA : ∀ a : Nat, a < s.heap.size → ¬ A a) : ∃ t : Nat, TB1 "STEP_Y" t 4 tbl4 A s s.heap := by
  obtain ⟨t, ev, hT⟩ := va_Tof (tm := .static RX7 "STEP_Y" "[I") (ty := .int) (N := 4) (f := fun j => .int (tbl4 j)) (by decide) (hs _ (by decide +kernel)) (va_eqt (hs _ (by decide +kernel))) (fun j hj => by rcases (show j = 0 ∨ j = 1 ∨ j = 2 ∨ j = 3 by omega) with rfl | rfl | rfl | rfl <;> exact va_eqt (hs _ (by decide +kernel))) hA
  exact ⟨t, va_Zref (hts (.laysStatic RX7 "STEP_Y" "[I") (List.mem_of_getElem? (i := 539) (by decide +kernel))) (hts (.initialized RX7) (List.mem_of_getElem? (i := 76) (by decide +kernel))) ev hA, hT⟩
set_option maxRecDepth 20000 in
theorem lw_Sel_d : ∀ i : Fin 9, ∀ j : Fin 6, j.val < stL.getD i.val 0 → Cond.eq (.elem (.field (.string RX5 (stX.getD i.val (0, "")).1) "java/lang/String" "value" "[B") (.int (Int32.ofNat j.val))) (.int ((stB.getD i.val []).getD j.val 0)) ∈ flatC (Jvm.Cond.and given_1 narrow_1) := by decide +kernel
set_option maxRecDepth 20000 in
theorem lw_Sne_d : ∀ i : Fin 9, ∀ j : Fin 9, i.val ≠ j.val → Cond.not (Cond.eq (.string RX5 (stX.getD i.val (0, "")).1) (.string RX5 (stX.getD j.val (0, "")).1)) ∈ flatC (Jvm.Cond.and given_1 narrow_1) ∨ Cond.not (Cond.eq (.string RX5 (stX.getD j.val (0, "")).1) (.string RX5 (stX.getD i.val (0, "")).1)) ∈ flatC (Jvm.Cond.and given_1 narrow_1) := by decide +kernel
theorem stL_le : ∀ i : Nat, i < 9 → stL.getD i 0 ≤ 6 := by decide
set_option maxRecDepth 20000 in
set_option maxHeartbeats 4000000 in
theorem lw_S {s : State} {b : Nat} (hts : ∀ w ∈ lw_tbl, w.before #[Value.ref b] s = true) (hs : ∀ w ∈ flatC (Jvm.Cond.and given_1 narrow_1), w.before #[Value.ref b] s = true) {A : Nat → Prop} (hA : ∀ a : Nat, a < s.heap.size → ¬ A a) : ∃ adK adV : Nat → Nat, vk_S 9 stL stB adK adV A s s.heap ∧ SR adK s := by
  obtain ⟨adK, adV, h1, h2⟩ := vk_Sof (args := #[Value.ref b]) (s := s) (N := 9) (tm := fun i => .string RX5 (stX.getD i (0, "")).1) (len := stL) (byt := stB) (A := A) (by decide)
    (fun i hi => by rcases (show i = 0 ∨ i = 1 ∨ i = 2 ∨ i = 3 ∨ i = 4 ∨ i = 5 ∨ i = 6 ∨ i = 7 ∨ i = 8 by omega) with rfl | rfl | rfl | rfl | rfl | rfl | rfl | rfl | rfl <;> exact hs _ (by decide +kernel)) (fun i hi => by rcases (show i = 0 ∨ i = 1 ∨ i = 2 ∨ i = 3 ∨ i = 4 ∨ i = 5 ∨ i = 6 ∨ i = 7 ∨ i = 8 by omega) with rfl | rfl | rfl | rfl | rfl | rfl | rfl | rfl | rfl <;> exact hs _ (by decide +kernel)) (fun i hi => by rcases (show i = 0 ∨ i = 1 ∨ i = 2 ∨ i = 3 ∨ i = 4 ∨ i = 5 ∨ i = 6 ∨ i = 7 ∨ i = 8 by omega) with rfl | rfl | rfl | rfl | rfl | rfl | rfl | rfl | rfl <;> exact hs _ (by decide +kernel)) (fun i hi => by rcases (show i = 0 ∨ i = 1 ∨ i = 2 ∨ i = 3 ∨ i = 4 ∨ i = 5 ∨ i = 6 ∨ i = 7 ∨ i = 8 by omega) with rfl | rfl | rfl | rfl | rfl | rfl | rfl | rfl | rfl <;> exact hs _ (by decide +kernel))
    (fun i hi j hj => hs _ (lw_Sel_d ⟨i, hi⟩ ⟨j, Nat.lt_of_lt_of_le hj (stL_le i hi)⟩ hj)) (fun i j hi hj hij => (lw_Sne_d ⟨i, hi⟩ ⟨j, hj⟩ hij).imp (hs _) (hs _)) hA
  refine ⟨adK, adV, h1, fun i hi => ?_⟩
  have h3 := h2 i hi
  rcases (show i = 0 ∨ i = 1 ∨ i = 2 ∨ i = 3 ∨ i = 4 ∨ i = 5 ∨ i = 6 ∨ i = 7 ∨ i = 8 by omega) with rfl | rfl | rfl | rfl | rfl | rfl | rfl | rfl | rfl
  · exact vk_R.of (hts (.stringRef RX5 83 "edge") (List.mem_of_getElem? (i := 356) (by decide +kernel))) h3
  · exact vk_R.of (hts (.stringRef RX5 85 "stiff") (List.mem_of_getElem? (i := 357) (by decide +kernel))) h3
  · exact vk_R.of (hts (.stringRef RX5 87 "loss") (List.mem_of_getElem? (i := 358) (by decide +kernel))) h3
  · exact vk_R.of (hts (.stringRef RX5 89 "force") (List.mem_of_getElem? (i := 359) (by decide +kernel))) h3
  · exact vk_R.of (hts (.stringRef RX5 91 "period") (List.mem_of_getElem? (i := 360) (by decide +kernel))) h3
  · exact vk_R.of (hts (.stringRef RX5 93 "limit") (List.mem_of_getElem? (i := 361) (by decide +kernel))) h3
  · exact vk_R.of (hts (.stringRef RX5 95 "plate") (List.mem_of_getElem? (i := 362) (by decide +kernel))) h3
  · exact vk_R.of (hts (.stringRef RX5 96 "drive") (List.mem_of_getElem? (i := 363) (by decide +kernel))) h3
  · exact vk_R.of (hts (.stringRef RX5 98 "row") (List.mem_of_getElem? (i := 364) (by decide +kernel))) h3
set_option maxRecDepth 20000 in
theorem lw_EV {s : State} {b : Nat} (hts : ∀ w ∈ lw_tbl, w.before #[Value.ref b] s = true) (hs : ∀ w ∈ flatC (Jvm.Cond.and given_1 narrow_1), w.before #[Value.ref b] s = true) {A : Nat → Prop} (hA : ∀ a : Nat, a < s.heap.size → ¬ A a) : ∃ Γ : GE, EV Γ A s ∧ AOs s := by
  obtain ⟨D, cA, hK⟩ := lw_K hts
  obtain ⟨t0, h0⟩ := lw_T0 hts hs hA
  obtain ⟨t1, h1⟩ := lw_T1 hts hs hA
  obtain ⟨t2, h2⟩ := lw_T2 hts hs hA
  obtain ⟨t3, h3⟩ := lw_T3 hts hs hA
  obtain ⟨t4, h4⟩ := lw_T4 hts hs hA
  obtain ⟨adK, adV, hS1, hS2⟩ := lw_S hts hs hA
  refine ⟨(D, cA, fun k => match k with | 0 => t0 | 1 => t1 | 2 => t2 | 3 => t3 | _ => t4, adK, adV), ⟨hK, lw_NW hts, ⟨h0, h1, h2, h3, h4⟩, hS2, hS1, va_Zof (hts (.laysStatic RJ0 "COMPACT_STRINGS" "Z") (List.mem_of_getElem? (i := 378) (by decide +kernel))) (hts (.initialized RJ0) (List.mem_of_getElem? (i := 87) (by decide +kernel))) (va_eqi (hs _ (by decide +kernel))) hA, va_Zqof (hts (.laysStatic RJ3 "SIOOBE_FORMATTER" "Ljava/util/function/BiFunction;") (List.mem_of_getElem? (i := 394) (by decide +kernel))) (hts (.initialized RJ3) (List.mem_of_getElem? (i := 89) (by decide +kernel))) (hs _ (by decide +kernel)) hA⟩, va_AO.of (hts (.arrayOver (.object "SandPlates$Plate")) (List.mem_of_getElem? (i := 161) (by decide +kernel))), (hts (.arrayOver (.array .int)) (List.mem_of_getElem? (i := 229) (by decide +kernel)))⟩
