def wd_X3_takeFrom (Γ : GE) (q0 q1 q2 q3 d0 d1 d2 : Nat) (grains : Nat → Int32) (p1_columns : Int32) (p1_rows : Int32) (p1_grains : Nat → Int32) : va_W := [(q0, .inr (3, [.ref q1, .ref d0])), (q1, .inl (Γ.2.1 0, 36, .inl grains)), (q2, .inr (2, [.int p1_columns, .int p1_rows, .ref d1, .ref d2, .ref q3])), (q3, .inl (Γ.2.1 0, 36, .inl p1_grains))]
def f_X3_takeFrom (grains : Nat → Int32) (p1_grains : Nat → Int32) : Option (Nat → Int32) := some (va_cpy p1_grains grains 0 0 36)
set_option maxHeartbeats 4000000 in
set_option maxRecDepth 100000 in
theorem c_X3_takeFrom (l : Launch) (Γ : GE) (sz : Nat) (q0 q1 q2 q3 d0 d1 d2 : Nat) (grains : Nat → Int32) (p1_columns : Int32) (p1_rows : Int32) (p1_grains : Nat → Int32) (o_grains : Nat → Int32) (hf : f_X3_takeFrom grains p1_grains = some o_grains) : MetV l yX3_takeFrom wsX3_takeFrom ({ frames := 1, cells := 0, slots := 0, locals := 48 } : Room) Γ [.ref q0, .ref q2] (wd_X3_takeFrom Γ q0 q1 q2 q3 d0 d1 d2 grains p1_columns p1_rows p1_grains) (wd_X3_takeFrom Γ q0 q1 q2 q3 d0 d1 d2 o_grains p1_columns p1_rows p1_grains) sz := by
  refine Met.ofW (cc := cX3_takeFrom) (maxL := 2) (ret := none) (by decide) rfl ?_
  intro p e s m args below meth c s₁ B hml hv
  obtain ⟨rfl, hsz, hE, hP, hD⟩ := hv
  have hx := B.exec
  have hb := B.bytes
  have hr := B.returns
  have hts := atoms_spec (ws := wsX3_takeFrom) B.pre
  have hown : s.vm.findClass RX3 = some m.cls := findClass_of_methodNamed B.named
  have hlocks := B.notSynchronized
  subst hsz
  generalize hAe : va_A (wd_X3_takeFrom Γ q0 q1 q2 q3 d0 d1 d2 grains p1_columns p1_rows p1_grains) s.heap.size = A at hE hD ⊢
  have hA : ∀ q : Nat, s.heap.size ≤ q → A q := fun q h => by rw [← hAe]; exact Or.inr h
  clear hAe
  have hS : va_S A s.heap s.heap [] := va_S.rf
  have hK := hE.1
  have hl := lv_entry ([.ref q0, .ref q2]) (n := 2) (Nat.le_of_ble_eq_true rfl)
  rw [lg_entry_eq]
  generalize (lg_sl ([.ref q0, .ref q2]) ++ List.replicate (2 - (lg_sl ([.ref q0, .ref q2])).length) Slot.unset).toArray = ls at hl ⊢
  have hl : lv_has ls 2 [(0, .ref q0), (1, .ref q2)] := hl
  have hi2 : ∀ w ∈ u_ws RX2 TX2 5, w ∈ wsX3_takeFrom := fun w h => (List.mem_cons_of_mem _ (List.mem_append_left _ (List.mem_append_right _ h)))
  have hi3 : ∀ w ∈ u_ws RX3 TX3 2, w ∈ wsX3_takeFrom := fun w h => (List.mem_cons_of_mem _ (List.mem_append_right _ h))
  obtain ⟨out, hout⟩ : ∃ o, o = o_grains := ⟨_, rfl⟩
  rw [← hout] at hf
  obtain ⟨QQ, hQQ⟩ : ∃ Q, Q = MQ below (va_Qv (fun _ : Unit => True) (CQ Γ (wd_X3_takeFrom Γ q0 q1 q2 q3 d0 d1 d2 o_grains p1_columns p1_rows p1_grains) A) A) (([.ref q0, .ref q2] : List Value).toArray) s 0 0 A := ⟨_, rfl⟩
  show W p l e ({ frames := 1, cells := 0, slots := 0, locals := 48 } : Room) s m (([.ref q0, .ref q2] : List Value).toArray) below meth c s.heap [] 0 0 (MQ below _ (([.ref q0, .ref q2] : List Value).toArray) s 0 0 A) (F0 m 0 ls [])
  rw [← hQQ]
  unfold f_X3_takeFrom at hf
  refine lv_aload_n hx hb dX3_takeFrom_0 rfl (lv_at hl 1 rfl) ?_
  refine va_getN (D := Γ.1) (ci := 2) (v := .ref q3) (C := RX2) (T := TX2) (N := 5) hx hb hts hi2 hown hK hP 2 rfl rfl 4 (by decide) (va_Nw.use rfl (nfX3_18 hE.2.1)) (fun _ h9 => h9) rfl dX3_takeFrom_1 ?_
  refine lv_iconst (v := 0) hx hb dX3_takeFrom_4 (by decide) ?_
  refine lv_aload_n hx hb dX3_takeFrom_5 rfl (lv_at hl 0 rfl) ?_
  refine va_get (D := Γ.1) (ci := 3) (v := .ref q1) (C := RX3) (T := TX3) (N := 2) hx hb hts hi3 hown hK hP 0 rfl rfl 0 (by decide) (hts (.fieldLink RX3 9 "SandPlates$Sand" "grains" "[I") (List.mem_of_getElem? (i := 1) rfl)) (fun _ h9 => h9) rfl dX3_takeFrom_6 ?_
  refine lv_iconst (v := 0) hx hb dX3_takeFrom_9 (by decide) ?_
  refine lv_bipush (v := 36) hx hb dX3_takeFrom_10 (by decide) ?_
  refine vm_copyi hx hb (hml.trans hl.1.symm) hown (hts (.methodLink RX3 21 arraycopyName) (List.mem_of_getElem? (i := 2) rfl)) (hts (.native arraycopyName) (List.mem_of_getElem? (i := 3) rfl)) (hts (.static arraycopyName) (List.mem_of_getElem? (i := 4) rfl)) (hts (.initialized "java/lang/System") (List.mem_of_getElem? (i := 5) rfl)) hK hP hD hS 3 1 0 0 rfl rfl rfl rfl rfl (sp := 0) (dp := 0) (n := 36) (sn := 0) (dn := 0) (nn := 36) rfl rfl rfl (by decide) (by decide) (by decide) (Nat.le_of_ble_eq_true rfl) (Nat.le_of_ble_eq_true rfl) (Nat.le_of_ble_eq_true rfl) (Nat.le_of_ble_eq_true rfl) dX3_takeFrom_12 (fun H locs hP hD hS => ?_)
  have hP : va_P Γ.1 vwCl (wd_X3_takeFrom Γ q0 q1 q2 q3 d0 d1 d2 (va_cpy p1_grains grains 0 0 36) p1_columns p1_rows p1_grains) H := hP
  have hD : va_D A (wd_X3_takeFrom Γ q0 q1 q2 q3 d0 d1 d2 (va_cpy p1_grains grains 0 0 36) p1_columns p1_rows p1_grains) := hD
  subst hout; obtain rfl := Option.some.inj hf
  subst hQQ
  exact W.vret hx hb hr (fun t ht hW => ⟨⟨(), rfl, trivial, by rw [ht]; exact hP, hD⟩, hS.F ht⟩) hS.2.2 dX3_takeFrom_15
def wd_X3_layOn (Γ : GE) (q0 q1 q2 q3 d0 d1 d2 : Nat) (grains : Nat → Int32) (p1_columns : Int32) (p1_rows : Int32) (p1_grains : Nat → Int32) : va_W := [(q0, .inr (3, [.ref q1, .ref d0])), (q1, .inl (Γ.2.1 0, 36, .inl grains)), (q2, .inr (2, [.int p1_columns, .int p1_rows, .ref d1, .ref d2, .ref q3])), (q3, .inl (Γ.2.1 0, 36, .inl p1_grains))]
def f_X3_layOn (grains : Nat → Int32) (p1_grains : Nat → Int32) : Option (Nat → Int32) := some (va_cpy grains p1_grains 0 0 36)
set_option maxHeartbeats 4000000 in
set_option maxRecDepth 100000 in
theorem c_X3_layOn (l : Launch) (Γ : GE) (sz : Nat) (q0 q1 q2 q3 d0 d1 d2 : Nat) (grains : Nat → Int32) (p1_columns : Int32) (p1_rows : Int32) (p1_grains : Nat → Int32) (o_p1_grains : Nat → Int32) (hf : f_X3_layOn grains p1_grains = some o_p1_grains) : MetV l yX3_layOn wsX3_layOn ({ frames := 1, cells := 0, slots := 0, locals := 48 } : Room) Γ [.ref q0, .ref q2] (wd_X3_layOn Γ q0 q1 q2 q3 d0 d1 d2 grains p1_columns p1_rows p1_grains) (wd_X3_layOn Γ q0 q1 q2 q3 d0 d1 d2 grains p1_columns p1_rows o_p1_grains) sz := by
  refine Met.ofW (cc := cX3_layOn) (maxL := 2) (ret := none) (by decide) rfl ?_
  intro p e s m args below meth c s₁ B hml hv
  obtain ⟨rfl, hsz, hE, hP, hD⟩ := hv
  have hx := B.exec
  have hb := B.bytes
  have hr := B.returns
  have hts := atoms_spec (ws := wsX3_layOn) B.pre
  have hown : s.vm.findClass RX3 = some m.cls := findClass_of_methodNamed B.named
  have hlocks := B.notSynchronized
  subst hsz
  generalize hAe : va_A (wd_X3_layOn Γ q0 q1 q2 q3 d0 d1 d2 grains p1_columns p1_rows p1_grains) s.heap.size = A at hE hD ⊢
  have hA : ∀ q : Nat, s.heap.size ≤ q → A q := fun q h => by rw [← hAe]; exact Or.inr h
  clear hAe
  have hS : va_S A s.heap s.heap [] := va_S.rf
  have hK := hE.1
  have hl := lv_entry ([.ref q0, .ref q2]) (n := 2) (Nat.le_of_ble_eq_true rfl)
  rw [lg_entry_eq]
  generalize (lg_sl ([.ref q0, .ref q2]) ++ List.replicate (2 - (lg_sl ([.ref q0, .ref q2])).length) Slot.unset).toArray = ls at hl ⊢
  have hl : lv_has ls 2 [(0, .ref q0), (1, .ref q2)] := hl
  have hi2 : ∀ w ∈ u_ws RX2 TX2 5, w ∈ wsX3_layOn := fun w h => (List.mem_cons_of_mem _ (List.mem_append_right _ h))
  have hi3 : ∀ w ∈ u_ws RX3 TX3 2, w ∈ wsX3_layOn := fun w h => (List.mem_cons_of_mem _ (List.mem_append_left _ (List.mem_append_right _ h)))
  obtain ⟨out, hout⟩ : ∃ o, o = o_p1_grains := ⟨_, rfl⟩
  rw [← hout] at hf
  obtain ⟨QQ, hQQ⟩ : ∃ Q, Q = MQ below (va_Qv (fun _ : Unit => True) (CQ Γ (wd_X3_layOn Γ q0 q1 q2 q3 d0 d1 d2 grains p1_columns p1_rows o_p1_grains) A) A) (([.ref q0, .ref q2] : List Value).toArray) s 0 0 A := ⟨_, rfl⟩
  show W p l e ({ frames := 1, cells := 0, slots := 0, locals := 48 } : Room) s m (([.ref q0, .ref q2] : List Value).toArray) below meth c s.heap [] 0 0 (MQ below _ (([.ref q0, .ref q2] : List Value).toArray) s 0 0 A) (F0 m 0 ls [])
  rw [← hQQ]
  unfold f_X3_layOn at hf
  refine lv_aload_n hx hb dX3_layOn_0 rfl (lv_at hl 0 rfl) ?_
  refine va_get (D := Γ.1) (ci := 3) (v := .ref q1) (C := RX3) (T := TX3) (N := 2) hx hb hts hi3 hown hK hP 0 rfl rfl 0 (by decide) (hts (.fieldLink RX3 9 "SandPlates$Sand" "grains" "[I") (List.mem_of_getElem? (i := 1) rfl)) (fun _ h9 => h9) rfl dX3_layOn_1 ?_
  refine lv_iconst (v := 0) hx hb dX3_layOn_4 (by decide) ?_
  refine lv_aload_n hx hb dX3_layOn_5 rfl (lv_at hl 1 rfl) ?_
  refine va_getN (D := Γ.1) (ci := 2) (v := .ref q3) (C := RX2) (T := TX2) (N := 5) hx hb hts hi2 hown hK hP 2 rfl rfl 4 (by decide) (va_Nw.use rfl (nfX3_18 hE.2.1)) (fun _ h9 => h9) rfl dX3_layOn_6 ?_
  refine lv_iconst (v := 0) hx hb dX3_layOn_9 (by decide) ?_
  refine lv_bipush (v := 36) hx hb dX3_layOn_10 (by decide) ?_
  refine vm_copyi hx hb (hml.trans hl.1.symm) hown (hts (.methodLink RX3 21 arraycopyName) (List.mem_of_getElem? (i := 2) rfl)) (hts (.native arraycopyName) (List.mem_of_getElem? (i := 3) rfl)) (hts (.static arraycopyName) (List.mem_of_getElem? (i := 4) rfl)) (hts (.initialized "java/lang/System") (List.mem_of_getElem? (i := 5) rfl)) hK hP hD hS 1 3 0 0 rfl rfl rfl rfl rfl (sp := 0) (dp := 0) (n := 36) (sn := 0) (dn := 0) (nn := 36) rfl rfl rfl (by decide) (by decide) (by decide) (Nat.le_of_ble_eq_true rfl) (Nat.le_of_ble_eq_true rfl) (Nat.le_of_ble_eq_true rfl) (Nat.le_of_ble_eq_true rfl) dX3_layOn_12 (fun H locs hP hD hS => ?_)
  have hP : va_P Γ.1 vwCl (wd_X3_layOn Γ q0 q1 q2 q3 d0 d1 d2 grains p1_columns p1_rows (va_cpy grains p1_grains 0 0 36)) H := hP
  have hD : va_D A (wd_X3_layOn Γ q0 q1 q2 q3 d0 d1 d2 grains p1_columns p1_rows (va_cpy grains p1_grains 0 0 36)) := hD
  subst hout; obtain rfl := Option.some.inj hf
  subst hQQ
  exact W.vret hx hb hr (fun t ht hW => ⟨⟨(), rfl, trivial, by rw [ht]; exact hP, hD⟩, hS.F ht⟩) hS.2.2 dX3_layOn_15
def wd_X3_goal (Γ : GE) (q0 q1 q2 d0 d1 : Nat) (p0_columns : Int32) (p0_rows : Int32) (p0_numbers : Nat → Int32) (p1_a : Nat → Int32) : va_W := [(q0, .inr (2, [.int p0_columns, .int p0_rows, .ref q1, .ref d0, .ref d1])), (q1, .inl (Γ.2.1 0, 7, .inl p0_numbers)), (q2, .inl (Γ.2.1 0, 36, .inl p1_a))]
def f_X3_goal_83 (x4 : Int32) : Option Int32 := some x4
def f_X3_goal_77 (p0_columns : Int32) (p0_rows : Int32) (p1_a : Nat → Int32) (x2 : Int32) (x3 : Int32) (x4 : Int32) (x5 : Int32) (k : ((Int32 × Int32) → Option Int32)) : Option Int32 := k (x4, (x5 + 1))
def f_X3_goal_26b (p0_columns : Int32) (p0_rows : Int32) (p1_a : Nat → Int32) (x2 : Int32) (x3 : Int32) (x4 : Int32) (x5 : Int32) (k : ((Int32 × Int32) → Option Int32)) : Option Int32 := if 4 ≤ x5 then (some x4) else (if inb x5 4 = true then if inb x5 4 = true then ob1 (f_X2_cellAt p0_columns p0_rows (x2 + (tbl3 x5.toNatClampNeg)) (x3 + (tbl4 x5.toNatClampNeg))) (fun r_4 => if r_4 < 0 then (f_X3_goal_77 p0_columns p0_rows p1_a x2 x3 x4 x5 k) else (if inb r_4 36 = true then if inb x4 36 = true then if (p1_a (x4.toNatClampNeg)) ≤ (p1_a (r_4.toNatClampNeg)) then (f_X3_goal_77 p0_columns p0_rows p1_a x2 x3 x4 x5 k) else (f_X3_goal_77 p0_columns p0_rows p1_a x2 x3 r_4 x5 k) else none else none)) else none else none)
def f_X3_goal_26s (p0_columns : Int32) (p0_rows : Int32) (p1_a : Nat → Int32) (x2 : Int32) (x3 : Int32) : (Int32 × Int32) → ((Int32 × Int32) → Option Int32) → Option Int32 := fun t k => f_X3_goal_26b p0_columns p0_rows p1_a x2 x3 t.1 t.2 k
def f_X3_goal_26 (p0_columns : Int32) (p0_rows : Int32) (p1_a : Nat → Int32) (x2 : Int32) (x3 : Int32) (x4 : Int32) (x5 : Int32) : Option Int32 := obx (vm_it (f_X3_goal_26s p0_columns p0_rows p1_a x2 x3) FU (x4, x5)) (fun x4 => f_X3_goal_83 x4)
def f_X3_goal (p0_columns : Int32) (p0_rows : Int32) (p0_numbers : Nat → Int32) (p1_a : Nat → Int32) (x2 : Int32) (x3 : Int32) : Option Int32 := ob1 (f_X2_isStill p0_numbers p1_a ((p0_columns * x3) + x2)) (fun r_10 => if r_10 = 0 then (f_X3_goal_26 p0_columns p0_rows p1_a x2 x3 ((p0_columns * x3) + x2) 0) else (some ((p0_columns * x3) + x2)))
set_option maxHeartbeats 4000000 in
set_option maxRecDepth 100000 in
theorem c_X3_goal (l : Launch) (Γ : GE) (sz : Nat) (q0 q1 q2 d0 d1 : Nat) (p0_columns : Int32) (p0_rows : Int32) (p0_numbers : Nat → Int32) (p1_a : Nat → Int32) (x2 : Int32) (x3 : Int32) (ro : Int32) (hf : f_X3_goal p0_columns p0_rows p0_numbers p1_a x2 x3 = some ro) : MetI l yX3_goal wsX3_goal ({ frames := 1, cells := 0, slots := 0, locals := 22 } : Room) Γ [.ref q0, .ref q2, .int x2, .int x3] (wd_X3_goal Γ q0 q1 q2 d0 d1 p0_columns p0_rows p0_numbers p1_a) (wd_X3_goal Γ q0 q1 q2 d0 d1 p0_columns p0_rows p0_numbers p1_a) sz ro := by
  refine Met.ofW (cc := cX3_goal) (maxL := 7) (ret := (some .int)) (by decide) rfl ?_
  intro p e s m args below meth c s₁ B hml hv
  obtain ⟨rfl, hsz, hE, hP, hD⟩ := hv
  have hx := B.exec
  have hb := B.bytes
  have hr := B.returns
  have hts := atoms_spec (ws := wsX3_goal) B.pre
  have hown : s.vm.findClass RX3 = some m.cls := findClass_of_methodNamed B.named
  have hlocks := B.notSynchronized
  subst hsz
  generalize hAe : va_A (wd_X3_goal Γ q0 q1 q2 d0 d1 p0_columns p0_rows p0_numbers p1_a) s.heap.size = A at hE hD ⊢
  have hA : ∀ q : Nat, s.heap.size ≤ q → A q := fun q h => by rw [← hAe]; exact Or.inr h
  clear hAe
  have hS : va_S A s.heap s.heap [] := va_S.rf
  have hK := hE.1
  have hl := lv_entry ([.ref q0, .ref q2, .int x2, .int x3]) (n := 7) (Nat.le_of_ble_eq_true rfl)
  rw [lg_entry_eq]
  generalize (lg_sl ([.ref q0, .ref q2, .int x2, .int x3]) ++ List.replicate (7 - (lg_sl ([.ref q0, .ref q2, .int x2, .int x3])).length) Slot.unset).toArray = ls at hl ⊢
  have hl : lv_has ls 7 [(0, .ref q0), (1, .ref q2), (2, .int x2), (3, .int x3)] := hl
  have hi2 : ∀ w ∈ u_ws RX2 TX2 5, w ∈ wsX3_goal := fun w h => (List.mem_cons_of_mem _ (List.mem_append_right _ h))
  obtain ⟨out, hout⟩ : ∃ o, o = ro := ⟨_, rfl⟩
  rw [← hout] at hf
  obtain ⟨QQ, hQQ⟩ : ∃ Q, Q = MQ below (va_Qi (fun (r' : Int32) (_ : Unit) => r' = ro) (CQ Γ (wd_X3_goal Γ q0 q1 q2 d0 d1 p0_columns p0_rows p0_numbers p1_a) A) A) (([.ref q0, .ref q2, .int x2, .int x3] : List Value).toArray) s 0 0 A := ⟨_, rfl⟩
  show W p l e ({ frames := 1, cells := 0, slots := 0, locals := 22 } : Room) s m (([.ref q0, .ref q2, .int x2, .int x3] : List Value).toArray) below meth c s.heap [] 0 0 (MQ below _ (([.ref q0, .ref q2, .int x2, .int x3] : List Value).toArray) s 0 0 A) (F0 m 0 ls [])
  rw [← hQQ]
  have K_83 : ∀ (x4 : Int32) {H : Heap} {locs : List Loc} {ls : Array Slot}, va_P Γ.1 vwCl (wd_X3_goal Γ q0 q1 q2 d0 d1 p0_columns p0_rows p0_numbers p1_a) H → va_D A (wd_X3_goal Γ q0 q1 q2 d0 d1 p0_columns p0_rows p0_numbers p1_a) → va_S A s.heap H locs → lv_has ls 7 [(4, .int x4)] → f_X3_goal_83 x4 = some out → W p l e ({ frames := 1, cells := 0, slots := 0, locals := 22 } : Room) s m ([.ref q0, .ref q2, .int x2, .int x3] : List Value).toArray below meth c H locs 0 0 QQ (F0 m 83 ls []) := by
    intro x4 H locs ls hP hD hS hl hf
    unfold f_X3_goal_83 at hf
    refine lv_iload hx hb dX3_goal_83 (lv_at hl 0 rfl) ?_
    subst hout; obtain rfl := Option.some.inj hf
    subst hQQ
    exact W.iret hx hb hr (fun t ht hW => ⟨⟨_, (), rfl, rfl, by rw [ht]; exact hP, hD⟩, hS.F ht⟩) hS.2.2 dX3_goal_85
  have K_26 : ∀ (x4 : Int32) (x5 : Int32) {H : Heap} {locs : List Loc} {ls : Array Slot}, va_P Γ.1 vwCl (wd_X3_goal Γ q0 q1 q2 d0 d1 p0_columns p0_rows p0_numbers p1_a) H → va_D A (wd_X3_goal Γ q0 q1 q2 d0 d1 p0_columns p0_rows p0_numbers p1_a) → va_S A s.heap H locs → lv_has ls 7 [(0, .ref q0), (1, .ref q2), (2, .int x2), (3, .int x3), (4, .int x4), (5, .int x5)] → f_X3_goal_26 p0_columns p0_rows p1_a x2 x3 x4 x5 = some out → W p l e ({ frames := 1, cells := 0, slots := 0, locals := 22 } : Room) s m ([.ref q0, .ref q2, .int x2, .int x3] : List Value).toArray below meth c H locs 0 0 QQ (F0 m 26 ls []) := by
    intro x4 x5 H locs ls hP hD hS hl hf
    unfold f_X3_goal_26 at hf
    obtain ⟨ex26, h1, hX26⟩ := obx_some hf
    have LP : ∀ (n : Nat) (x4 : Int32) (x5 : Int32)  {H : Heap} {locs : List Loc} {ls : Array Slot}, va_P Γ.1 vwCl (wd_X3_goal Γ q0 q1 q2 d0 d1 p0_columns p0_rows p0_numbers p1_a) H → va_D A (wd_X3_goal Γ q0 q1 q2 d0 d1 p0_columns p0_rows p0_numbers p1_a) → va_S A s.heap H locs → lv_has ls 7 [(0, .ref q0), (1, .ref q2), (2, .int x2), (3, .int x3), (4, .int x4), (5, .int x5)] → vm_it (f_X3_goal_26s p0_columns p0_rows p1_a x2 x3) n (x4, x5) = some ex26 → W p l e ({ frames := 1, cells := 0, slots := 0, locals := 22 } : Room) s m ([.ref q0, .ref q2, .int x2, .int x3] : List Value).toArray below meth c H locs 0 0 QQ (F0 m 26 ls []) := by
      clear hP hD hS hl hf h1
      intro n
      induction n with
      | zero => intro x4 x5 H locs ls hP hD hS hl hf; exact (vm_it_0 hf).elim
      | succ n ih =>
        intro x4 x5 H locs ls hP hD hS hl hf
        have hf : f_X3_goal_26b p0_columns p0_rows p1_a x2 x3 x4 x5 (vm_it (f_X3_goal_26s p0_columns p0_rows p1_a x2 x3) n) = some ex26 := hf
        have K_77 : ∀ (x4 : Int32) (x5 : Int32) {H : Heap} {locs : List Loc} {ls : Array Slot}, va_P Γ.1 vwCl (wd_X3_goal Γ q0 q1 q2 d0 d1 p0_columns p0_rows p0_numbers p1_a) H → va_D A (wd_X3_goal Γ q0 q1 q2 d0 d1 p0_columns p0_rows p0_numbers p1_a) → va_S A s.heap H locs → lv_has ls 7 [(0, .ref q0), (1, .ref q2), (2, .int x2), (3, .int x3), (4, .int x4), (5, .int x5)] → f_X3_goal_77 p0_columns p0_rows p1_a x2 x3 x4 x5 (vm_it (f_X3_goal_26s p0_columns p0_rows p1_a x2 x3) n) = some ex26 → W p l e ({ frames := 1, cells := 0, slots := 0, locals := 22 } : Room) s m ([.ref q0, .ref q2, .int x2, .int x3] : List Value).toArray below meth c H locs 0 0 QQ (F0 m 77 ls []) := by
          intro x4 x5 H locs ls hP hD hS hl hf
          unfold f_X3_goal_77 at hf
          refine lv_iinc (v := (x5 + 1)) (lv' := [(5, .int (x5 + 1)), (0, .ref q0), (1, .ref q2), (2, .int x2), (3, .int x3), (4, .int x4)]) hx hb dX3_goal_77 hl (k := 5) rfl rfl (by decide) rfl (fun ls hl => ?_)
          refine lv_goto (tgt := 26) hx hb dX3_goal_80 (by decide) ?_
          exact ih x4 (x5 + 1) hP hD hS (lv_sub hl [1, 2, 3, 4, 5, 0] rfl) hf
        unfold f_X3_goal_26b at hf
        refine lv_iload hx hb dX3_goal_26 (lv_at hl 5 rfl) ?_
        refine va_getsN hx hb hE.2.2.1.2.2.2.1.1 hS hown (va_Nw.use rfl (nfX3_48 hE.2.1)) (fun _ h9 => h9) dX3_goal_28 ?_
        refine va_tlen hx hb hE.2.2.1.2.2.2.1.2 hS (v := 4) rfl dX3_goal_31 ?_
        refine lv_icmp_ge (tgt := 83) hx hb dX3_goal_32 (by decide) (fun hc_1 => ?_) (fun hc_1 => ?_)
        · have hf := vm_pos hc_1 hf
          have hX := hX26
          rw [← Option.some.inj hf] at hX
          exact K_83 x4 hP hD hS (lv_sub hl [4] rfl) hX
        · have hf := vm_neg hc_1 hf
          refine lv_aload_n hx hb dX3_goal_35 rfl (lv_at hl 0 rfl) ?_
          refine lv_iload_n hx hb dX3_goal_36 rfl (lv_at hl 2 rfl) ?_
          refine va_getsN hx hb hE.2.2.1.2.2.2.1.1 hS hown (va_Nw.use rfl (nfX3_48 hE.2.1)) (fun _ h9 => h9) dX3_goal_37 ?_
          refine lv_iload hx hb dX3_goal_40 (lv_at hl 5 rfl) ?_
          obtain ⟨hc_2, hf⟩ := vm_ck hf
          refine va_ti hx hb hE.2.2.1.2.2.2.1.2 hS (inb_vp hc_2) rfl dX3_goal_42 ?_
          refine lv_iadd hx hb dX3_goal_43 ?_
          refine lv_iload_n hx hb dX3_goal_44 rfl (lv_at hl 3 rfl) ?_
          refine va_getsN hx hb hE.2.2.1.2.2.2.2.1 hS hown (va_Nw.use rfl (nfX3_51 hE.2.1)) (fun _ h9 => h9) dX3_goal_45 ?_
          refine lv_iload hx hb dX3_goal_48 (lv_at hl 5 rfl) ?_
          obtain ⟨hc_3, hf⟩ := vm_ck hf
          refine va_ti hx hb hE.2.2.1.2.2.2.2.2 hS (inb_vp hc_3) rfl dX3_goal_50 ?_
          refine lv_iadd hx hb dX3_goal_51 ?_
          obtain ⟨r_4, hq_5, hf⟩ := ob1_some hf
          refine vm_cNi (isC := [0]) (wc := (wd_X2_cellAt Γ q0 q1 d0 d1 p0_columns p0_rows)) (w1 := (wd_X2_cellAt Γ q0 q1 d0 d1 p0_columns p0_rows)) (As := [.int (x2 + (tbl3 x5.toNatClampNeg)), .int (x3 + (tbl4 x5.toNatClampNeg))]) (rest := []) ⟨hx, hb, hml, hown, hts⟩ hE hP hD hS hA rfl rfl rfl (c_X2_cellAt l Γ _ q0 q1 d0 d1 p0_columns p0_rows (x2 + (tbl3 x5.toNatClampNeg)) (x3 + (tbl4 x5.toNatClampNeg)) r_4 hq_5) ⟨va_cnB 2 hts ggX3_goal_X2_cellAt rfl rfl rfl (nmX3_54 hE.2.1) (hts (.initialized RX2) (List.mem_of_getElem? (i := 2) rfl)) (by decide +kernel) ⟨Nat.le_of_ble_eq_true rfl, Nat.le_of_ble_eq_true rfl⟩, (hts (.instanceMethod yX2_cellAt) (List.mem_of_getElem? (i := 6) rfl)), (hts (.selects RX2 yX2_cellAt yX2_cellAt) (List.mem_of_getElem? (i := 7) rfl))⟩ (va_recv (ci := 2) (q0 := 0) hK hP rfl rfl) rfl hl.1 rfl (Nat.le_of_ble_eq_true rfl) dX3_goal_52 ⟨Nat.zero_le _, Nat.zero_le _⟩ (fun H locs hP hD hS => ?_)
          have hP : va_P Γ.1 vwCl (wd_X3_goal Γ q0 q1 q2 d0 d1 p0_columns p0_rows p0_numbers p1_a) H := hP
          have hD : va_D A (wd_X3_goal Γ q0 q1 q2 d0 d1 p0_columns p0_rows p0_numbers p1_a) := hD
          refine lv_istore (lv' := [(6, .int r_4), (0, .ref q0), (1, .ref q2), (2, .int x2), (3, .int x3), (4, .int x4), (5, .int x5)]) hx hb dX3_goal_55 hl (by decide) rfl (fun ls hl => ?_)
          refine lv_iload hx hb dX3_goal_57 (lv_at hl 0 rfl) ?_
          refine lv_if_lt (tgt := 77) hx hb dX3_goal_59 (by decide) (fun hc_6 => ?_) (fun hc_6 => ?_)
          · have hf := vm_pos hc_6 hf
            exact K_77 x4 x5 hP hD hS (lv_sub hl [1, 2, 3, 4, 5, 6] rfl) hf
          · have hf := vm_neg hc_6 hf
            refine lv_aload_n hx hb dX3_goal_62 rfl (lv_at hl 2 rfl) ?_
            refine lv_iload hx hb dX3_goal_63 (lv_at hl 0 rfl) ?_
            obtain ⟨hc_7, hf⟩ := vm_ck hf
            refine vm_iald hx hb hK hP 2 0 rfl rfl hc_7 (j := r_4.toNatClampNeg) rfl dX3_goal_65 ?_
            refine lv_aload_n hx hb dX3_goal_66 rfl (lv_at hl 2 rfl) ?_
            refine lv_iload hx hb dX3_goal_67 (lv_at hl 5 rfl) ?_
            obtain ⟨hc_8, hf⟩ := vm_ck hf
            refine vm_iald hx hb hK hP 2 0 rfl rfl hc_8 (j := x4.toNatClampNeg) rfl dX3_goal_69 ?_
            refine lv_icmp_ge (tgt := 77) hx hb dX3_goal_70 (by decide) (fun hc_9 => ?_) (fun hc_9 => ?_)
            · have hf := vm_pos hc_9 hf
              exact K_77 x4 x5 hP hD hS (lv_sub hl [1, 2, 3, 4, 5, 6] rfl) hf
            · have hf := vm_neg hc_9 hf
              refine lv_iload hx hb dX3_goal_73 (lv_at hl 0 rfl) ?_
              refine lv_istore (lv' := [(4, .int r_4), (6, .int r_4), (0, .ref q0), (1, .ref q2), (2, .int x2), (3, .int x3), (5, .int x5)]) hx hb dX3_goal_75 hl (by decide) rfl (fun ls hl => ?_)
              exact K_77 r_4 x5 hP hD hS (lv_sub hl [2, 3, 4, 5, 0, 6] rfl) hf
    exact LP FU x4 x5 hP hD hS hl h1
  unfold f_X3_goal at hf
  refine lv_aload_n hx hb dX3_goal_0 rfl (lv_at hl 0 rfl) ?_
  refine va_getN (D := Γ.1) (ci := 2) (v := .int p0_columns) (C := RX2) (T := TX2) (N := 5) hx hb hts hi2 hown hK hP 0 rfl rfl 0 (by decide) (va_Nw.use rfl (nfX3_37 hE.2.1)) (fun _ h9 => h9) rfl dX3_goal_1 ?_
  refine lv_iload_n hx hb dX3_goal_4 rfl (lv_at hl 3 rfl) ?_
  refine lv_imul hx hb dX3_goal_5 ?_
  refine lv_iload_n hx hb dX3_goal_6 rfl (lv_at hl 2 rfl) ?_
  refine lv_iadd hx hb dX3_goal_7 ?_
  refine lv_istore (lv' := [(4, .int ((p0_columns * x3) + x2)), (0, .ref q0), (1, .ref q2), (2, .int x2), (3, .int x3)]) hx hb dX3_goal_8 hl (by decide) rfl (fun ls hl => ?_)
  refine lv_aload_n hx hb dX3_goal_10 rfl (lv_at hl 1 rfl) ?_
  refine lv_aload_n hx hb dX3_goal_11 rfl (lv_at hl 2 rfl) ?_
  refine lv_iload hx hb dX3_goal_12 (lv_at hl 0 rfl) ?_
  obtain ⟨r_10, hq_11, hf⟩ := ob1_some hf
  refine vm_cNi (isC := [0, 1, 2]) (wc := (wd_X2_isStill Γ q0 q1 q2 d0 d1 p0_columns p0_rows p0_numbers p1_a)) (w1 := (wd_X2_isStill Γ q0 q1 q2 d0 d1 p0_columns p0_rows p0_numbers p1_a)) (As := [.ref q2, .int ((p0_columns * x3) + x2)]) (rest := []) ⟨hx, hb, hml, hown, hts⟩ hE hP hD hS hA rfl rfl rfl (c_X2_isStill l Γ _ q0 q1 q2 d0 d1 p0_columns p0_rows p0_numbers p1_a ((p0_columns * x3) + x2) r_10 hq_11) ⟨va_cnB 2 hts ggX3_goal_X2_isStill rfl rfl rfl (nmX3_44 hE.2.1) (hts (.initialized RX2) (List.mem_of_getElem? (i := 2) rfl)) (by decide +kernel) ⟨Nat.le_of_ble_eq_true rfl, Nat.le_of_ble_eq_true rfl⟩, (hts (.instanceMethod yX2_isStill) (List.mem_of_getElem? (i := 1) rfl)), (hts (.selects RX2 yX2_isStill yX2_isStill) (List.mem_of_getElem? (i := 3) rfl))⟩ (va_recv (ci := 2) (q0 := 0) hK hP rfl rfl) rfl hl.1 rfl (Nat.le_of_ble_eq_true rfl) dX3_goal_14 ⟨Nat.zero_le _, Nat.zero_le _⟩ (fun H locs hP hD hS => ?_)
  have hP : va_P Γ.1 vwCl (wd_X3_goal Γ q0 q1 q2 d0 d1 p0_columns p0_rows p0_numbers p1_a) H := hP
  have hD : va_D A (wd_X3_goal Γ q0 q1 q2 d0 d1 p0_columns p0_rows p0_numbers p1_a) := hD
  refine lv_if_eq (tgt := 23) hx hb dX3_goal_17 (by decide) (fun hc_12 => ?_) (fun hc_12 => ?_)
  · have hf := vm_pos hc_12 hf
    refine lv_iconst (v := 0) hx hb dX3_goal_23 (by decide) ?_
    refine lv_istore (lv' := [(5, .int 0), (4, .int ((p0_columns * x3) + x2)), (0, .ref q0), (1, .ref q2), (2, .int x2), (3, .int x3)]) hx hb dX3_goal_24 hl (by decide) rfl (fun ls hl => ?_)
    exact K_26 ((p0_columns * x3) + x2) 0 hP hD hS (lv_sub hl [2, 3, 4, 5, 1, 0] rfl) hf
  · have hf := vm_neg hc_12 hf
    refine lv_iload hx hb dX3_goal_20 (lv_at hl 0 rfl) ?_
    subst hout; obtain rfl := Option.some.inj hf
    subst hQQ
    exact W.iret hx hb hr (fun t ht hW => ⟨⟨_, (), rfl, rfl, by rw [ht]; exact hP, hD⟩, hS.F ht⟩) hS.2.2 dX3_goal_22
def wd_X3_shakeOnce (Γ : GE) (q0 q1 q2 q3 q4 q5 d0 d1 : Nat) (grains : Nat → Int32) (coming : Nat → Int32) (p1_columns : Int32) (p1_rows : Int32) (p1_numbers : Nat → Int32) (p2_a : Nat → Int32) : va_W := [(q0, .inr (3, [.ref q1, .ref q2])), (q1, .inl (Γ.2.1 0, 36, .inl grains)), (q2, .inl (Γ.2.1 0, 36, .inl coming)), (q3, .inr (2, [.int p1_columns, .int p1_rows, .ref q4, .ref d0, .ref d1])), (q4, .inl (Γ.2.1 0, 7, .inl p1_numbers)), (q5, .inl (Γ.2.1 0, 36, .inl p2_a))]
def f_X3_shakeOnce_107 (grains : Nat → Int32) (coming : Nat → Int32) (x3 : Int32) : Option (Int32 × (Nat → Int32) × (Nat → Int32)) := some (x3, (va_cpy coming grains 0 0 36), coming)
def f_X3_shakeOnce_101 (grains : Nat → Int32) (coming : Nat → Int32) (p1_columns : Int32) (p1_rows : Int32) (p1_numbers : Nat → Int32) (p2_a : Nat → Int32) (x3 : Int32) (x4 : Int32) (k : (((Nat → Int32) × Int32 × Int32) → Option ((Nat → Int32) × Int32))) : Option ((Nat → Int32) × Int32) := k (coming, x3, (x4 + 1))
def f_X3_shakeOnce_93 (grains : Nat → Int32) (coming : Nat → Int32) (p1_columns : Int32) (p1_rows : Int32) (p1_numbers : Nat → Int32) (p2_a : Nat → Int32) (x4 : Int32) (x5 : Int32) (s0 : Int32) (s1 : Int32) (k : (((Nat → Int32) × Int32 × Int32) → Option ((Nat → Int32) × Int32))) : Option ((Nat → Int32) × Int32) := k (coming, (s0 + s1), (x5 + 1))
def f_X3_shakeOnce_25b (grains : Nat → Int32) (p1_columns : Int32) (p1_rows : Int32) (p1_numbers : Nat → Int32) (p2_a : Nat → Int32) (x4 : Int32) (coming : Nat → Int32) (x3 : Int32) (x5 : Int32) (k : (((Nat → Int32) × Int32 × Int32) → Option ((Nat → Int32) × Int32))) : Option ((Nat → Int32) × Int32) := if p1_columns ≤ x5 then (some (coming, x3)) else (ob1 (f_X3_goal p1_columns p1_rows p1_numbers p2_a x5 x4) (fun r_2 => if inb r_2 36 = true then if inb ((p1_columns * x4) + x5) 36 = true then if inb r_2 36 = true then if r_2 = ((p1_columns * x4) + x5) then (f_X3_shakeOnce_93 grains (upd coming (r_2.toNatClampNeg) ((coming (r_2.toNatClampNeg)) + (grains (((p1_columns * x4) + x5).toNatClampNeg)))) p1_columns p1_rows p1_numbers p2_a x4 x5 x3 0 k) else (if inb ((p1_columns * x4) + x5) 36 = true then f_X3_shakeOnce_93 grains (upd coming (r_2.toNatClampNeg) ((coming (r_2.toNatClampNeg)) + (grains (((p1_columns * x4) + x5).toNatClampNeg)))) p1_columns p1_rows p1_numbers p2_a x4 x5 x3 (grains (((p1_columns * x4) + x5).toNatClampNeg)) k else none) else none else none else none))
def f_X3_shakeOnce_25s (grains : Nat → Int32) (p1_columns : Int32) (p1_rows : Int32) (p1_numbers : Nat → Int32) (p2_a : Nat → Int32) (x4 : Int32) : ((Nat → Int32) × Int32 × Int32) → (((Nat → Int32) × Int32 × Int32) → Option ((Nat → Int32) × Int32)) → Option ((Nat → Int32) × Int32) := fun t k => f_X3_shakeOnce_25b grains p1_columns p1_rows p1_numbers p2_a x4 t.1 t.2.1 t.2.2 k
def f_X3_shakeOnce_25 (grains : Nat → Int32) (coming : Nat → Int32) (p1_columns : Int32) (p1_rows : Int32) (p1_numbers : Nat → Int32) (p2_a : Nat → Int32) (x3 : Int32) (x4 : Int32) (x5 : Int32) (k : (((Nat → Int32) × Int32 × Int32) → Option ((Nat → Int32) × Int32))) : Option ((Nat → Int32) × Int32) := obx (vm_it (f_X3_shakeOnce_25s grains p1_columns p1_rows p1_numbers p2_a x4) FU (coming, x3, x5)) (un2 (fun coming x3 => f_X3_shakeOnce_101 grains coming p1_columns p1_rows p1_numbers p2_a x3 x4 k))
def f_X3_shakeOnce_13b (grains : Nat → Int32) (p1_columns : Int32) (p1_rows : Int32) (p1_numbers : Nat → Int32) (p2_a : Nat → Int32) (coming : Nat → Int32) (x3 : Int32) (x4 : Int32) (k : (((Nat → Int32) × Int32 × Int32) → Option ((Nat → Int32) × Int32))) : Option ((Nat → Int32) × Int32) := if p1_rows ≤ x4 then (some (coming, x3)) else (f_X3_shakeOnce_25 grains coming p1_columns p1_rows p1_numbers p2_a x3 x4 0 k)
def f_X3_shakeOnce_13s (grains : Nat → Int32) (p1_columns : Int32) (p1_rows : Int32) (p1_numbers : Nat → Int32) (p2_a : Nat → Int32) : ((Nat → Int32) × Int32 × Int32) → (((Nat → Int32) × Int32 × Int32) → Option ((Nat → Int32) × Int32)) → Option ((Nat → Int32) × Int32) := fun t k => f_X3_shakeOnce_13b grains p1_columns p1_rows p1_numbers p2_a t.1 t.2.1 t.2.2 k
def f_X3_shakeOnce_13 (grains : Nat → Int32) (coming : Nat → Int32) (p1_columns : Int32) (p1_rows : Int32) (p1_numbers : Nat → Int32) (p2_a : Nat → Int32) (x3 : Int32) (x4 : Int32) : Option (Int32 × (Nat → Int32) × (Nat → Int32)) := obx (vm_it (f_X3_shakeOnce_13s grains p1_columns p1_rows p1_numbers p2_a) FU (coming, x3, x4)) (un2 (fun coming x3 => f_X3_shakeOnce_107 grains coming x3))
def f_X3_shakeOnce (grains : Nat → Int32) (coming : Nat → Int32) (p1_columns : Int32) (p1_rows : Int32) (p1_numbers : Nat → Int32) (p2_a : Nat → Int32) : Option (Int32 × (Nat → Int32) × (Nat → Int32)) := ob1 (f_J7_fill_53178 36 coming 0) (fun coming_10 => f_X3_shakeOnce_13 grains coming_10 p1_columns p1_rows p1_numbers p2_a 0 0)
set_option maxHeartbeats 4000000 in
set_option maxRecDepth 100000 in
theorem c_X3_shakeOnce (l : Launch) (Γ : GE) (sz : Nat) (q0 q1 q2 q3 q4 q5 d0 d1 : Nat) (grains : Nat → Int32) (coming : Nat → Int32) (p1_columns : Int32) (p1_rows : Int32) (p1_numbers : Nat → Int32) (p2_a : Nat → Int32) (ro : Int32) (o_grains : Nat → Int32) (o_coming : Nat → Int32) (hf : f_X3_shakeOnce grains coming p1_columns p1_rows p1_numbers p2_a = some (ro, o_grains, o_coming)) : MetI l yX3_shakeOnce wsX3_shakeOnce ({ frames := 2, cells := 0, slots := 0, locals := 48 } : Room) Γ [.ref q0, .ref q3, .ref q5] (wd_X3_shakeOnce Γ q0 q1 q2 q3 q4 q5 d0 d1 grains coming p1_columns p1_rows p1_numbers p2_a) (wd_X3_shakeOnce Γ q0 q1 q2 q3 q4 q5 d0 d1 o_grains o_coming p1_columns p1_rows p1_numbers p2_a) sz ro := by
  refine Met.ofW (cc := cX3_shakeOnce) (maxL := 8) (ret := (some .int)) (by decide) rfl ?_
  intro p e s m args below meth c s₁ B hml hv
  obtain ⟨rfl, hsz, hE, hP, hD⟩ := hv
  have hx := B.exec
  have hb := B.bytes
  have hr := B.returns
  have hts := atoms_spec (ws := wsX3_shakeOnce) B.pre
  have hown : s.vm.findClass RX3 = some m.cls := findClass_of_methodNamed B.named
  have hlocks := B.notSynchronized
  subst hsz
  generalize hAe : va_A (wd_X3_shakeOnce Γ q0 q1 q2 q3 q4 q5 d0 d1 grains coming p1_columns p1_rows p1_numbers p2_a) s.heap.size = A at hE hD ⊢
  have hA : ∀ q : Nat, s.heap.size ≤ q → A q := fun q h => by rw [← hAe]; exact Or.inr h
  clear hAe
  have hS : va_S A s.heap s.heap [] := va_S.rf
  have hK := hE.1
  have hl := lv_entry ([.ref q0, .ref q3, .ref q5]) (n := 8) (Nat.le_of_ble_eq_true rfl)
  rw [lg_entry_eq]
  generalize (lg_sl ([.ref q0, .ref q3, .ref q5]) ++ List.replicate (8 - (lg_sl ([.ref q0, .ref q3, .ref q5])).length) Slot.unset).toArray = ls at hl ⊢
  have hl : lv_has ls 8 [(0, .ref q0), (1, .ref q3), (2, .ref q5)] := hl
  have hi2 : ∀ w ∈ u_ws RX2 TX2 5, w ∈ wsX3_shakeOnce := fun w h => (List.mem_cons_of_mem _ (List.mem_append_right _ h))
  have hi3 : ∀ w ∈ u_ws RX3 TX3 2, w ∈ wsX3_shakeOnce := fun w h => (List.mem_cons_of_mem _ (List.mem_append_left _ (List.mem_append_right _ h)))
  obtain ⟨out, hout⟩ : ∃ o, o = (ro, o_grains, o_coming) := ⟨_, rfl⟩
  rw [← hout] at hf
  obtain ⟨QQ, hQQ⟩ : ∃ Q, Q = MQ below (va_Qi (fun (r' : Int32) (_ : Unit) => r' = ro) (CQ Γ (wd_X3_shakeOnce Γ q0 q1 q2 q3 q4 q5 d0 d1 o_grains o_coming p1_columns p1_rows p1_numbers p2_a) A) A) (([.ref q0, .ref q3, .ref q5] : List Value).toArray) s 0 0 A := ⟨_, rfl⟩
  show W p l e ({ frames := 2, cells := 0, slots := 0, locals := 48 } : Room) s m (([.ref q0, .ref q3, .ref q5] : List Value).toArray) below meth c s.heap [] 0 0 (MQ below _ (([.ref q0, .ref q3, .ref q5] : List Value).toArray) s 0 0 A) (F0 m 0 ls [])
  rw [← hQQ]
  have K_107 : ∀ (grains : Nat → Int32) (coming : Nat → Int32) (x3 : Int32) {H : Heap} {locs : List Loc} {ls : Array Slot}, va_P Γ.1 vwCl (wd_X3_shakeOnce Γ q0 q1 q2 q3 q4 q5 d0 d1 grains coming p1_columns p1_rows p1_numbers p2_a) H → va_D A (wd_X3_shakeOnce Γ q0 q1 q2 q3 q4 q5 d0 d1 grains coming p1_columns p1_rows p1_numbers p2_a) → va_S A s.heap H locs → lv_has ls 8 [(0, .ref q0), (3, .int x3)] → f_X3_shakeOnce_107 grains coming x3 = some out → W p l e ({ frames := 2, cells := 0, slots := 0, locals := 48 } : Room) s m ([.ref q0, .ref q3, .ref q5] : List Value).toArray below meth c H locs 0 0 QQ (F0 m 107 ls []) := by
    intro grains coming x3 H locs ls hP hD hS hl hf
    unfold f_X3_shakeOnce_107 at hf
    refine lv_aload_n hx hb dX3_shakeOnce_107 rfl (lv_at hl 0 rfl) ?_
    refine va_get (D := Γ.1) (ci := 3) (v := .ref q2) (C := RX3) (T := TX3) (N := 2) hx hb hts hi3 hown hK hP 0 rfl rfl 1 (by decide) (hts (.fieldLink RX3 15 "SandPlates$Sand" "coming" "[I") (List.mem_of_getElem? (i := 1) rfl)) (fun _ h9 => h9) rfl dX3_shakeOnce_108 ?_
    refine lv_iconst (v := 0) hx hb dX3_shakeOnce_111 (by decide) ?_
    refine lv_aload_n hx hb dX3_shakeOnce_112 rfl (lv_at hl 0 rfl) ?_
    refine va_get (D := Γ.1) (ci := 3) (v := .ref q1) (C := RX3) (T := TX3) (N := 2) hx hb hts hi3 hown hK hP 0 rfl rfl 0 (by decide) (hts (.fieldLink RX3 9 "SandPlates$Sand" "grains" "[I") (List.mem_of_getElem? (i := 2) rfl)) (fun _ h9 => h9) rfl dX3_shakeOnce_113 ?_
    refine lv_iconst (v := 0) hx hb dX3_shakeOnce_116 (by decide) ?_
    refine lv_bipush (v := 36) hx hb dX3_shakeOnce_117 (by decide) ?_
    refine vm_copyi hx hb (hml.trans hl.1.symm) hown (hts (.methodLink RX3 21 arraycopyName) (List.mem_of_getElem? (i := 3) rfl)) (hts (.native arraycopyName) (List.mem_of_getElem? (i := 4) rfl)) (hts (.static arraycopyName) (List.mem_of_getElem? (i := 5) rfl)) (hts (.initialized "java/lang/System") (List.mem_of_getElem? (i := 6) rfl)) hK hP hD hS 2 1 0 0 rfl rfl rfl rfl rfl (sp := 0) (dp := 0) (n := 36) (sn := 0) (dn := 0) (nn := 36) rfl rfl rfl (by decide) (by decide) (by decide) (Nat.le_of_ble_eq_true rfl) (Nat.le_of_ble_eq_true rfl) (Nat.le_of_ble_eq_true rfl) (Nat.le_of_ble_eq_true rfl) dX3_shakeOnce_119 (fun H locs hP hD hS => ?_)
    have hP : va_P Γ.1 vwCl (wd_X3_shakeOnce Γ q0 q1 q2 q3 q4 q5 d0 d1 (va_cpy coming grains 0 0 36) coming p1_columns p1_rows p1_numbers p2_a) H := hP
    have hD : va_D A (wd_X3_shakeOnce Γ q0 q1 q2 q3 q4 q5 d0 d1 (va_cpy coming grains 0 0 36) coming p1_columns p1_rows p1_numbers p2_a) := hD
    refine lv_iload_n hx hb dX3_shakeOnce_122 rfl (lv_at hl 1 rfl) ?_
    subst hout; obtain ⟨rfl, rfl, rfl⟩ := rt3 hf
    subst hQQ
    exact W.iret hx hb hr (fun t ht hW => ⟨⟨_, (), rfl, rfl, by rw [ht]; exact hP, hD⟩, hS.F ht⟩) hS.2.2 dX3_shakeOnce_123
  have K_13 : ∀ (grains : Nat → Int32) (coming : Nat → Int32) (x3 : Int32) (x4 : Int32) {H : Heap} {locs : List Loc} {ls : Array Slot}, va_P Γ.1 vwCl (wd_X3_shakeOnce Γ q0 q1 q2 q3 q4 q5 d0 d1 grains coming p1_columns p1_rows p1_numbers p2_a) H → va_D A (wd_X3_shakeOnce Γ q0 q1 q2 q3 q4 q5 d0 d1 grains coming p1_columns p1_rows p1_numbers p2_a) → va_S A s.heap H locs → lv_has ls 8 [(0, .ref q0), (1, .ref q3), (2, .ref q5), (3, .int x3), (4, .int x4)] → f_X3_shakeOnce_13 grains coming p1_columns p1_rows p1_numbers p2_a x3 x4 = some out → W p l e ({ frames := 2, cells := 0, slots := 0, locals := 48 } : Room) s m ([.ref q0, .ref q3, .ref q5] : List Value).toArray below meth c H locs 0 0 QQ (F0 m 13 ls []) := by
    intro grains coming x3 x4 H locs ls hP hD hS hl hf
    unfold f_X3_shakeOnce_13 at hf
    obtain ⟨ex13, h1, hX13⟩ := obx_some hf
    have LP : ∀ (n : Nat) (coming : Nat → Int32) (x3 : Int32) (x4 : Int32)  {H : Heap} {locs : List Loc} {ls : Array Slot}, va_P Γ.1 vwCl (wd_X3_shakeOnce Γ q0 q1 q2 q3 q4 q5 d0 d1 grains coming p1_columns p1_rows p1_numbers p2_a) H → va_D A (wd_X3_shakeOnce Γ q0 q1 q2 q3 q4 q5 d0 d1 grains coming p1_columns p1_rows p1_numbers p2_a) → va_S A s.heap H locs → lv_has ls 8 [(0, .ref q0), (1, .ref q3), (2, .ref q5), (3, .int x3), (4, .int x4)] → vm_it (f_X3_shakeOnce_13s grains p1_columns p1_rows p1_numbers p2_a) n (coming, x3, x4) = some ex13 → W p l e ({ frames := 2, cells := 0, slots := 0, locals := 48 } : Room) s m ([.ref q0, .ref q3, .ref q5] : List Value).toArray below meth c H locs 0 0 QQ (F0 m 13 ls []) := by
      clear hP hD hS hl hf h1
      intro n
      induction n with
      | zero => intro coming x3 x4 H locs ls hP hD hS hl hf; exact (vm_it_0 hf).elim
      | succ n ih =>
        intro coming x3 x4 H locs ls hP hD hS hl hf
        have hf : f_X3_shakeOnce_13b grains p1_columns p1_rows p1_numbers p2_a coming x3 x4 (vm_it (f_X3_shakeOnce_13s grains p1_columns p1_rows p1_numbers p2_a) n) = some ex13 := hf
        have K_101 : ∀ (coming : Nat → Int32) (x3 : Int32) (x4 : Int32) {H : Heap} {locs : List Loc} {ls : Array Slot}, va_P Γ.1 vwCl (wd_X3_shakeOnce Γ q0 q1 q2 q3 q4 q5 d0 d1 grains coming p1_columns p1_rows p1_numbers p2_a) H → va_D A (wd_X3_shakeOnce Γ q0 q1 q2 q3 q4 q5 d0 d1 grains coming p1_columns p1_rows p1_numbers p2_a) → va_S A s.heap H locs → lv_has ls 8 [(0, .ref q0), (1, .ref q3), (2, .ref q5), (3, .int x3), (4, .int x4)] → f_X3_shakeOnce_101 grains coming p1_columns p1_rows p1_numbers p2_a x3 x4 (vm_it (f_X3_shakeOnce_13s grains p1_columns p1_rows p1_numbers p2_a) n) = some ex13 → W p l e ({ frames := 2, cells := 0, slots := 0, locals := 48 } : Room) s m ([.ref q0, .ref q3, .ref q5] : List Value).toArray below meth c H locs 0 0 QQ (F0 m 101 ls []) := by
          intro coming x3 x4 H locs ls hP hD hS hl hf
          unfold f_X3_shakeOnce_101 at hf
          refine lv_iinc (v := (x4 + 1)) (lv' := [(4, .int (x4 + 1)), (0, .ref q0), (1, .ref q3), (2, .ref q5), (3, .int x3)]) hx hb dX3_shakeOnce_101 hl (k := 4) rfl rfl (by decide) rfl (fun ls hl => ?_)
          refine lv_goto (tgt := 13) hx hb dX3_shakeOnce_104 (by decide) ?_
          exact ih coming x3 (x4 + 1) hP hD hS (lv_sub hl [1, 2, 3, 4, 0] rfl) hf
        have K_25 : ∀ (coming : Nat → Int32) (x3 : Int32) (x4 : Int32) (x5 : Int32) {H : Heap} {locs : List Loc} {ls : Array Slot}, va_P Γ.1 vwCl (wd_X3_shakeOnce Γ q0 q1 q2 q3 q4 q5 d0 d1 grains coming p1_columns p1_rows p1_numbers p2_a) H → va_D A (wd_X3_shakeOnce Γ q0 q1 q2 q3 q4 q5 d0 d1 grains coming p1_columns p1_rows p1_numbers p2_a) → va_S A s.heap H locs → lv_has ls 8 [(0, .ref q0), (1, .ref q3), (2, .ref q5), (3, .int x3), (4, .int x4), (5, .int x5)] → f_X3_shakeOnce_25 grains coming p1_columns p1_rows p1_numbers p2_a x3 x4 x5 (vm_it (f_X3_shakeOnce_13s grains p1_columns p1_rows p1_numbers p2_a) n) = some ex13 → W p l e ({ frames := 2, cells := 0, slots := 0, locals := 48 } : Room) s m ([.ref q0, .ref q3, .ref q5] : List Value).toArray below meth c H locs 0 0 QQ (F0 m 25 ls []) := by
          intro coming x3 x4 x5 H locs ls hP hD hS hl hf
          unfold f_X3_shakeOnce_25 at hf
          obtain ⟨ex25, h1, hX25⟩ := obx_some hf
          have LP : ∀ (n : Nat) (coming : Nat → Int32) (x3 : Int32) (x5 : Int32)  {H : Heap} {locs : List Loc} {ls : Array Slot}, va_P Γ.1 vwCl (wd_X3_shakeOnce Γ q0 q1 q2 q3 q4 q5 d0 d1 grains coming p1_columns p1_rows p1_numbers p2_a) H → va_D A (wd_X3_shakeOnce Γ q0 q1 q2 q3 q4 q5 d0 d1 grains coming p1_columns p1_rows p1_numbers p2_a) → va_S A s.heap H locs → lv_has ls 8 [(0, .ref q0), (1, .ref q3), (2, .ref q5), (3, .int x3), (4, .int x4), (5, .int x5)] → vm_it (f_X3_shakeOnce_25s grains p1_columns p1_rows p1_numbers p2_a x4) n (coming, x3, x5) = some ex25 → W p l e ({ frames := 2, cells := 0, slots := 0, locals := 48 } : Room) s m ([.ref q0, .ref q3, .ref q5] : List Value).toArray below meth c H locs 0 0 QQ (F0 m 25 ls []) := by
            clear hP hD hS hl hf h1
            intro n
            induction n with
            | zero => intro coming x3 x5 H locs ls hP hD hS hl hf; exact (vm_it_0 hf).elim
            | succ n ih =>
              intro coming x3 x5 H locs ls hP hD hS hl hf
              have hf : f_X3_shakeOnce_25b grains p1_columns p1_rows p1_numbers p2_a x4 coming x3 x5 (vm_it (f_X3_shakeOnce_25s grains p1_columns p1_rows p1_numbers p2_a x4) n) = some ex25 := hf
              have K_93 : ∀ (coming : Nat → Int32) (x5 : Int32) (s0 : Int32) (s1 : Int32) {H : Heap} {locs : List Loc} {ls : Array Slot}, va_P Γ.1 vwCl (wd_X3_shakeOnce Γ q0 q1 q2 q3 q4 q5 d0 d1 grains coming p1_columns p1_rows p1_numbers p2_a) H → va_D A (wd_X3_shakeOnce Γ q0 q1 q2 q3 q4 q5 d0 d1 grains coming p1_columns p1_rows p1_numbers p2_a) → va_S A s.heap H locs → lv_has ls 8 [(0, .ref q0), (1, .ref q3), (2, .ref q5), (4, .int x4), (5, .int x5)] → f_X3_shakeOnce_93 grains coming p1_columns p1_rows p1_numbers p2_a x4 x5 s0 s1 (vm_it (f_X3_shakeOnce_25s grains p1_columns p1_rows p1_numbers p2_a x4) n) = some ex25 → W p l e ({ frames := 2, cells := 0, slots := 0, locals := 48 } : Room) s m ([.ref q0, .ref q3, .ref q5] : List Value).toArray below meth c H locs 0 0 QQ (F0 m 93 ls [.int s1, .int s0]) := by
                intro coming x5 s0 s1 H locs ls hP hD hS hl hf
                unfold f_X3_shakeOnce_93 at hf
                refine lv_iadd hx hb dX3_shakeOnce_93 ?_
                refine lv_istore_n (lv' := [(3, .int (s0 + s1)), (0, .ref q0), (1, .ref q3), (2, .ref q5), (4, .int x4), (5, .int x5)]) hx hb dX3_shakeOnce_94 rfl hl (by decide) rfl (fun ls hl => ?_)
                refine lv_iinc (v := (x5 + 1)) (lv' := [(5, .int (x5 + 1)), (3, .int (s0 + s1)), (0, .ref q0), (1, .ref q3), (2, .ref q5), (4, .int x4)]) hx hb dX3_shakeOnce_95 hl (k := 5) rfl rfl (by decide) rfl (fun ls hl => ?_)
                refine lv_goto (tgt := 25) hx hb dX3_shakeOnce_98 (by decide) ?_
                exact ih coming (s0 + s1) (x5 + 1) hP hD hS (lv_sub hl [2, 3, 4, 1, 5, 0] rfl) hf
              unfold f_X3_shakeOnce_25b at hf
              refine lv_iload hx hb dX3_shakeOnce_25 (lv_at hl 5 rfl) ?_
              refine lv_aload_n hx hb dX3_shakeOnce_27 rfl (lv_at hl 1 rfl) ?_
              refine va_getN (D := Γ.1) (ci := 2) (v := .int p1_columns) (C := RX2) (T := TX2) (N := 5) hx hb hts hi2 hown hK hP 3 rfl rfl 0 (by decide) (va_Nw.use rfl (nfX3_37 hE.2.1)) (fun _ h9 => h9) rfl dX3_shakeOnce_28 ?_
              refine lv_icmp_ge (tgt := 101) hx hb dX3_shakeOnce_31 (by decide) (fun hc_1 => ?_) (fun hc_1 => ?_)
              · have hf := vm_pos hc_1 hf
                have hX := hX25
                rw [← Option.some.inj hf] at hX
                exact K_101 coming x3 x4 hP hD hS (lv_sub hl [0, 1, 2, 3, 4] rfl) hX
              · have hf := vm_neg hc_1 hf
                refine lv_aload_n hx hb dX3_shakeOnce_34 rfl (lv_at hl 1 rfl) ?_
                refine va_getN (D := Γ.1) (ci := 2) (v := .int p1_columns) (C := RX2) (T := TX2) (N := 5) hx hb hts hi2 hown hK hP 3 rfl rfl 0 (by decide) (va_Nw.use rfl (nfX3_37 hE.2.1)) (fun _ h9 => h9) rfl dX3_shakeOnce_35 ?_
                refine lv_iload hx hb dX3_shakeOnce_38 (lv_at hl 4 rfl) ?_
                refine lv_imul hx hb dX3_shakeOnce_40 ?_
                refine lv_iload hx hb dX3_shakeOnce_41 (lv_at hl 5 rfl) ?_
                refine lv_iadd hx hb dX3_shakeOnce_43 ?_
                refine lv_istore (lv' := [(6, .int ((p1_columns * x4) + x5)), (0, .ref q0), (1, .ref q3), (2, .ref q5), (3, .int x3), (4, .int x4), (5, .int x5)]) hx hb dX3_shakeOnce_44 hl (by decide) rfl (fun ls hl => ?_)
                refine lv_aload_n hx hb dX3_shakeOnce_46 rfl (lv_at hl 2 rfl) ?_
                refine lv_aload_n hx hb dX3_shakeOnce_47 rfl (lv_at hl 3 rfl) ?_
                refine lv_iload hx hb dX3_shakeOnce_48 (lv_at hl 6 rfl) ?_
                refine lv_iload hx hb dX3_shakeOnce_50 (lv_at hl 5 rfl) ?_
                obtain ⟨r_2, hq_3, hf⟩ := ob1_some hf
                refine vm_cSi (isC := [3, 4, 5]) (wc := (wd_X3_goal Γ q3 q4 q5 d0 d1 p1_columns p1_rows p1_numbers p2_a)) (w1 := (wd_X3_goal Γ q3 q4 q5 d0 d1 p1_columns p1_rows p1_numbers p2_a)) (As := [.ref q3, .ref q5, .int x5, .int x4]) (rest := []) ⟨hx, hb, hml, hown, hts⟩ hE hP hD hS hA rfl rfl rfl (c_X3_goal l Γ _ q3 q4 q5 d0 d1 p1_columns p1_rows p1_numbers p2_a x5 x4 r_2 hq_3) (va_cwS 4 hts gX3_shakeOnce_X3_goal rfl rfl rfl (by decide +kernel) ⟨Nat.le_of_ble_eq_true rfl, Nat.le_of_ble_eq_true rfl⟩) rfl hl.1 rfl (Nat.le_of_ble_eq_true rfl) dX3_shakeOnce_52 ⟨Nat.zero_le _, Nat.zero_le _⟩ (fun H locs hP hD hS => ?_)
                have hP : va_P Γ.1 vwCl (wd_X3_shakeOnce Γ q0 q1 q2 q3 q4 q5 d0 d1 grains coming p1_columns p1_rows p1_numbers p2_a) H := hP
                have hD : va_D A (wd_X3_shakeOnce Γ q0 q1 q2 q3 q4 q5 d0 d1 grains coming p1_columns p1_rows p1_numbers p2_a) := hD
                refine lv_istore (lv' := [(7, .int r_2), (6, .int ((p1_columns * x4) + x5)), (0, .ref q0), (1, .ref q3), (2, .ref q5), (3, .int x3), (4, .int x4), (5, .int x5)]) hx hb dX3_shakeOnce_55 hl (by decide) rfl (fun ls hl => ?_)
                refine lv_aload_n hx hb dX3_shakeOnce_57 rfl (lv_at hl 2 rfl) ?_
                refine va_get (D := Γ.1) (ci := 3) (v := .ref q2) (C := RX3) (T := TX3) (N := 2) hx hb hts hi3 hown hK hP 0 rfl rfl 1 (by decide) (hts (.fieldLink RX3 15 "SandPlates$Sand" "coming" "[I") (List.mem_of_getElem? (i := 1) rfl)) (fun _ h9 => h9) rfl dX3_shakeOnce_58 ?_
                refine lv_iload hx hb dX3_shakeOnce_61 (lv_at hl 0 rfl) ?_
                refine lv_dup2_11 hx hb dX3_shakeOnce_63 rfl rfl ?_
                obtain ⟨hc_4, hf⟩ := vm_ck hf
                refine vm_iald hx hb hK hP 2 0 rfl rfl hc_4 (j := r_2.toNatClampNeg) rfl dX3_shakeOnce_64 ?_
                refine lv_aload_n hx hb dX3_shakeOnce_65 rfl (lv_at hl 2 rfl) ?_
                refine va_get (D := Γ.1) (ci := 3) (v := .ref q1) (C := RX3) (T := TX3) (N := 2) hx hb hts hi3 hown hK hP 0 rfl rfl 0 (by decide) (hts (.fieldLink RX3 9 "SandPlates$Sand" "grains" "[I") (List.mem_of_getElem? (i := 2) rfl)) (fun _ h9 => h9) rfl dX3_shakeOnce_66 ?_
                refine lv_iload hx hb dX3_shakeOnce_69 (lv_at hl 1 rfl) ?_
                obtain ⟨hc_5, hf⟩ := vm_ck hf
                refine vm_iald hx hb hK hP 1 0 rfl rfl hc_5 (j := ((p1_columns * x4) + x5).toNatClampNeg) rfl dX3_shakeOnce_71 ?_
                refine lv_iadd hx hb dX3_shakeOnce_72 ?_
                obtain ⟨hc_6, hf⟩ := vm_ck hf
                refine vm_iast hx hb hK hP hD hS 2 0 rfl rfl hc_6 (j := (r_2.toNatClampNeg)) rfl dX3_shakeOnce_73 (fun H locs hP hD hS => ?_)
                have hP : va_P Γ.1 vwCl (wd_X3_shakeOnce Γ q0 q1 q2 q3 q4 q5 d0 d1 grains (upd coming (r_2.toNatClampNeg) ((coming (r_2.toNatClampNeg)) + (grains (((p1_columns * x4) + x5).toNatClampNeg)))) p1_columns p1_rows p1_numbers p2_a) H := hP
                have hD : va_D A (wd_X3_shakeOnce Γ q0 q1 q2 q3 q4 q5 d0 d1 grains (upd coming (r_2.toNatClampNeg) ((coming (r_2.toNatClampNeg)) + (grains (((p1_columns * x4) + x5).toNatClampNeg)))) p1_columns p1_rows p1_numbers p2_a) := hD
                refine lv_iload_n hx hb dX3_shakeOnce_74 rfl (lv_at hl 5 rfl) ?_
                refine lv_iload hx hb dX3_shakeOnce_75 (lv_at hl 0 rfl) ?_
                refine lv_iload hx hb dX3_shakeOnce_77 (lv_at hl 1 rfl) ?_
                refine lv_icmp_ne (tgt := 86) hx hb dX3_shakeOnce_79 (by decide) (fun hc_7 => ?_) (fun hc_7 => ?_)
                · have hf := vm_neg hc_7 hf
                  refine lv_aload_n hx hb dX3_shakeOnce_86 rfl (lv_at hl 2 rfl) ?_
                  refine va_get (D := Γ.1) (ci := 3) (v := .ref q1) (C := RX3) (T := TX3) (N := 2) hx hb hts hi3 hown hK hP 0 rfl rfl 0 (by decide) (hts (.fieldLink RX3 9 "SandPlates$Sand" "grains" "[I") (List.mem_of_getElem? (i := 2) rfl)) (fun _ h9 => h9) rfl dX3_shakeOnce_87 ?_
                  refine lv_iload hx hb dX3_shakeOnce_90 (lv_at hl 1 rfl) ?_
                  obtain ⟨hc_8, hf⟩ := vm_ck hf
                  refine vm_iald hx hb hK hP 1 0 rfl rfl hc_8 (j := ((p1_columns * x4) + x5).toNatClampNeg) rfl dX3_shakeOnce_92 ?_
                  exact K_93 (upd coming (r_2.toNatClampNeg) ((coming (r_2.toNatClampNeg)) + (grains (((p1_columns * x4) + x5).toNatClampNeg)))) x5 x3 (grains (((p1_columns * x4) + x5).toNatClampNeg)) hP hD hS (lv_sub hl [2, 3, 4, 6, 7] rfl) hf
                · have hf := vm_pos hc_7 hf
                  refine lv_iconst (v := 0) hx hb dX3_shakeOnce_82 (by decide) ?_
                  refine lv_goto (tgt := 93) hx hb dX3_shakeOnce_83 (by decide) ?_
                  exact K_93 (upd coming (r_2.toNatClampNeg) ((coming (r_2.toNatClampNeg)) + (grains (((p1_columns * x4) + x5).toNatClampNeg)))) x5 x3 0 hP hD hS (lv_sub hl [2, 3, 4, 6, 7] rfl) hf
          exact LP FU coming x3 x5 hP hD hS hl h1
        unfold f_X3_shakeOnce_13b at hf
        refine lv_iload hx hb dX3_shakeOnce_13 (lv_at hl 4 rfl) ?_
        refine lv_aload_n hx hb dX3_shakeOnce_15 rfl (lv_at hl 1 rfl) ?_
        refine va_getN (D := Γ.1) (ci := 2) (v := .int p1_rows) (C := RX2) (T := TX2) (N := 5) hx hb hts hi2 hown hK hP 3 rfl rfl 1 (by decide) (va_Nw.use rfl (nfX3_33 hE.2.1)) (fun _ h9 => h9) rfl dX3_shakeOnce_16 ?_
        refine lv_icmp_ge (tgt := 107) hx hb dX3_shakeOnce_19 (by decide) (fun hc_9 => ?_) (fun hc_9 => ?_)
        · have hf := vm_pos hc_9 hf
          have hX := hX13
          rw [← Option.some.inj hf] at hX
          exact K_107 grains coming x3 hP hD hS (lv_sub hl [0, 3] rfl) hX
        · have hf := vm_neg hc_9 hf
          refine lv_iconst (v := 0) hx hb dX3_shakeOnce_22 (by decide) ?_
          refine lv_istore (lv' := [(5, .int 0), (0, .ref q0), (1, .ref q3), (2, .ref q5), (3, .int x3), (4, .int x4)]) hx hb dX3_shakeOnce_23 hl (by decide) rfl (fun ls hl => ?_)
          exact K_25 coming x3 x4 0 hP hD hS (lv_sub hl [1, 2, 3, 4, 5, 0] rfl) hf
    exact LP FU coming x3 x4 hP hD hS hl h1
  unfold f_X3_shakeOnce at hf
  refine lv_aload_n hx hb dX3_shakeOnce_0 rfl (lv_at hl 0 rfl) ?_
  refine va_get (D := Γ.1) (ci := 3) (v := .ref q2) (C := RX3) (T := TX3) (N := 2) hx hb hts hi3 hown hK hP 0 rfl rfl 1 (by decide) (hts (.fieldLink RX3 15 "SandPlates$Sand" "coming" "[I") (List.mem_of_getElem? (i := 1) rfl)) (fun _ h9 => h9) rfl dX3_shakeOnce_1 ?_
  refine lv_iconst (v := 0) hx hb dX3_shakeOnce_4 (by decide) ?_
  obtain ⟨coming_10, hq_11, hf⟩ := ob1_some hf
  refine vm_cSv (isC := [2]) (wc := (wd_J7_fill_53178 Γ q2 36 coming)) (w1 := (wd_J7_fill_53178 Γ q2 36 coming_10)) (As := [.ref q2, .int 0]) (rest := []) ⟨hx, hb, hml, hown, hts⟩ hE hP hD hS hA rfl rfl rfl (c_J7_fill_53178 l Γ _ q2 36 coming 0 coming_10 hq_11) (va_cwS 2 hts gX3_shakeOnce_J7_fill_53178 rfl rfl rfl (by decide +kernel) ⟨Nat.le_of_ble_eq_true rfl, Nat.le_of_ble_eq_true rfl⟩) rfl hl.1 rfl (Nat.le_of_ble_eq_true rfl) dX3_shakeOnce_5 ⟨Nat.zero_le _, Nat.zero_le _⟩ (fun H locs hP hD hS => ?_)
  have hP : va_P Γ.1 vwCl (wd_X3_shakeOnce Γ q0 q1 q2 q3 q4 q5 d0 d1 grains coming_10 p1_columns p1_rows p1_numbers p2_a) H := hP
  have hD : va_D A (wd_X3_shakeOnce Γ q0 q1 q2 q3 q4 q5 d0 d1 grains coming_10 p1_columns p1_rows p1_numbers p2_a) := hD
  refine lv_iconst (v := 0) hx hb dX3_shakeOnce_8 (by decide) ?_
  refine lv_istore_n (lv' := [(3, .int 0), (0, .ref q0), (1, .ref q3), (2, .ref q5)]) hx hb dX3_shakeOnce_9 rfl hl (by decide) rfl (fun ls hl => ?_)
  refine lv_iconst (v := 0) hx hb dX3_shakeOnce_10 (by decide) ?_
  refine lv_istore (lv' := [(4, .int 0), (3, .int 0), (0, .ref q0), (1, .ref q3), (2, .ref q5)]) hx hb dX3_shakeOnce_11 hl (by decide) rfl (fun ls hl => ?_)
  exact K_13 grains coming_10 0 0 hP hD hS (lv_sub hl [2, 3, 4, 1, 0] rfl) hf
def wd_X4_add (Γ : GE) (q0 q1 q2 : Nat) (many : Int32) (cells : Nat → Int32) (wereStill : Nat → Int32) : va_W := [(q0, .inr (4, [.ref q1, .ref q2, .int many])), (q1, .inl (Γ.2.1 0, 6, .inl cells)), (q2, .inl (Γ.2.1 0, 6, .inl wereStill))]
def f_X4_add (many : Int32) (cells : Nat → Int32) (wereStill : Nat → Int32) (x1 : Int32) (x2 : Int32) : Option (Int32 × Int32 × (Nat → Int32) × (Nat → Int32)) := if many < 6 then (if inb many 6 = true then if inb many 6 = true then some (1, (many + 1), (upd cells (many.toNatClampNeg) x1), (upd wereStill (many.toNatClampNeg) x2)) else none else none) else (some (0, many, cells, wereStill))
set_option maxHeartbeats 4000000 in
set_option maxRecDepth 100000 in
theorem c_X4_add (l : Launch) (Γ : GE) (sz : Nat) (q0 q1 q2 : Nat) (many : Int32) (cells : Nat → Int32) (wereStill : Nat → Int32) (x1 : Int32) (x2 : Int32) (ro : Int32) (o_many : Int32) (o_cells : Nat → Int32) (o_wereStill : Nat → Int32) (hf : f_X4_add many cells wereStill x1 x2 = some (ro, o_many, o_cells, o_wereStill)) : MetI l yX4_add wsX4_add ({ frames := 0, cells := 0, slots := 0, locals := 0 } : Room) Γ [.ref q0, .int x1, .int x2] (wd_X4_add Γ q0 q1 q2 many cells wereStill) (wd_X4_add Γ q0 q1 q2 o_many o_cells o_wereStill) sz ro := by
  refine Met.ofW (cc := cX4_add) (maxL := 3) (ret := (some .boolean)) (by decide) rfl ?_
  intro p e s m args below meth c s₁ B hml hv
  obtain ⟨rfl, hsz, hE, hP, hD⟩ := hv
  have hx := B.exec
  have hb := B.bytes
  have hr := B.returns
  have hts := atoms_spec (ws := wsX4_add) B.pre
  have hown : s.vm.findClass RX4 = some m.cls := findClass_of_methodNamed B.named
  have hlocks := B.notSynchronized
  subst hsz
  generalize hAe : va_A (wd_X4_add Γ q0 q1 q2 many cells wereStill) s.heap.size = A at hE hD ⊢
  have hA : ∀ q : Nat, s.heap.size ≤ q → A q := fun q h => by rw [← hAe]; exact Or.inr h
  clear hAe
  have hS : va_S A s.heap s.heap [] := va_S.rf
  have hK := hE.1
  have hl := lv_entry ([.ref q0, .int x1, .int x2]) (n := 3) (Nat.le_of_ble_eq_true rfl)
  rw [lg_entry_eq]
  generalize (lg_sl ([.ref q0, .int x1, .int x2]) ++ List.replicate (3 - (lg_sl ([.ref q0, .int x1, .int x2])).length) Slot.unset).toArray = ls at hl ⊢
  have hl : lv_has ls 3 [(0, .ref q0), (1, .int x1), (2, .int x2)] := hl
  have hi4 : ∀ w ∈ u_ws RX4 TX4 3, w ∈ wsX4_add := fun w h => (List.mem_cons_of_mem _ (List.mem_append_right _ h))
  obtain ⟨out, hout⟩ : ∃ o, o = (ro, o_many, o_cells, o_wereStill) := ⟨_, rfl⟩
  rw [← hout] at hf
  obtain ⟨QQ, hQQ⟩ : ∃ Q, Q = MQ below (va_Qi (fun (r' : Int32) (_ : Unit) => r' = ro) (CQ Γ (wd_X4_add Γ q0 q1 q2 o_many o_cells o_wereStill) A) A) (([.ref q0, .int x1, .int x2] : List Value).toArray) s 0 0 A := ⟨_, rfl⟩
  show W p l e ({ frames := 0, cells := 0, slots := 0, locals := 0 } : Room) s m (([.ref q0, .int x1, .int x2] : List Value).toArray) below meth c s.heap [] 0 0 (MQ below _ (([.ref q0, .int x1, .int x2] : List Value).toArray) s 0 0 A) (F0 m 0 ls [])
  rw [← hQQ]
  unfold f_X4_add at hf
  refine lv_aload_n hx hb dX4_add_0 rfl (lv_at hl 0 rfl) ?_
  refine va_get (D := Γ.1) (ci := 4) (v := .int many) (C := RX4) (T := TX4) (N := 3) hx hb hts hi4 hown hK hP 0 rfl rfl 2 (by decide) (hts (.fieldLink RX4 18 "SandPlates$Seen" "many" "I") (List.mem_of_getElem? (i := 1) rfl)) (fun _ h9 => h9) rfl dX4_add_1 ?_
  refine lv_bipush (v := 6) hx hb dX4_add_4 (by decide) ?_
  refine lv_icmp_lt (tgt := 11) hx hb dX4_add_6 (by decide) (fun hc_1 => ?_) (fun hc_1 => ?_)
  · have hf := vm_pos hc_1 hf
    refine lv_aload_n hx hb dX4_add_11 rfl (lv_at hl 0 rfl) ?_
    refine va_get (D := Γ.1) (ci := 4) (v := .ref q1) (C := RX4) (T := TX4) (N := 3) hx hb hts hi4 hown hK hP 0 rfl rfl 0 (by decide) (hts (.fieldLink RX4 9 "SandPlates$Seen" "cells" "[I") (List.mem_of_getElem? (i := 2) rfl)) (fun _ h9 => h9) rfl dX4_add_12 ?_
    refine lv_aload_n hx hb dX4_add_15 rfl (lv_at hl 0 rfl) ?_
    refine va_get (D := Γ.1) (ci := 4) (v := .int many) (C := RX4) (T := TX4) (N := 3) hx hb hts hi4 hown hK hP 0 rfl rfl 2 (by decide) (hts (.fieldLink RX4 18 "SandPlates$Seen" "many" "I") (List.mem_of_getElem? (i := 1) rfl)) (fun _ h9 => h9) rfl dX4_add_16 ?_
    refine lv_iload_n hx hb dX4_add_19 rfl (lv_at hl 1 rfl) ?_
    obtain ⟨hc_2, hf⟩ := vm_ck hf
    refine vm_iast hx hb hK hP hD hS 1 0 rfl rfl hc_2 (j := (many.toNatClampNeg)) rfl dX4_add_20 (fun H locs hP hD hS => ?_)
    have hP : va_P Γ.1 vwCl (wd_X4_add Γ q0 q1 q2 many (upd cells (many.toNatClampNeg) x1) wereStill) H := hP
    have hD : va_D A (wd_X4_add Γ q0 q1 q2 many (upd cells (many.toNatClampNeg) x1) wereStill) := hD
    refine lv_aload_n hx hb dX4_add_21 rfl (lv_at hl 0 rfl) ?_
    refine va_get (D := Γ.1) (ci := 4) (v := .ref q2) (C := RX4) (T := TX4) (N := 3) hx hb hts hi4 hown hK hP 0 rfl rfl 1 (by decide) (hts (.fieldLink RX4 15 "SandPlates$Seen" "wereStill" "[I") (List.mem_of_getElem? (i := 3) rfl)) (fun _ h9 => h9) rfl dX4_add_22 ?_
    refine lv_aload_n hx hb dX4_add_25 rfl (lv_at hl 0 rfl) ?_
    refine va_get (D := Γ.1) (ci := 4) (v := .int many) (C := RX4) (T := TX4) (N := 3) hx hb hts hi4 hown hK hP 0 rfl rfl 2 (by decide) (hts (.fieldLink RX4 18 "SandPlates$Seen" "many" "I") (List.mem_of_getElem? (i := 1) rfl)) (fun _ h9 => h9) rfl dX4_add_26 ?_
    refine lv_iload_n hx hb dX4_add_29 rfl (lv_at hl 2 rfl) ?_
    obtain ⟨hc_3, hf⟩ := vm_ck hf
    refine vm_iast hx hb hK hP hD hS 2 0 rfl rfl hc_3 (j := (many.toNatClampNeg)) rfl dX4_add_30 (fun H locs hP hD hS => ?_)
    have hP : va_P Γ.1 vwCl (wd_X4_add Γ q0 q1 q2 many (upd cells (many.toNatClampNeg) x1) (upd wereStill (many.toNatClampNeg) x2)) H := hP
    have hD : va_D A (wd_X4_add Γ q0 q1 q2 many (upd cells (many.toNatClampNeg) x1) (upd wereStill (many.toNatClampNeg) x2)) := hD
    refine lv_aload_n hx hb dX4_add_31 rfl (lv_at hl 0 rfl) ?_
    refine lv_dup hx hb dX4_add_32 rfl ?_
    refine va_get (D := Γ.1) (ci := 4) (v := .int many) (C := RX4) (T := TX4) (N := 3) hx hb hts hi4 hown hK hP 0 rfl rfl 2 (by decide) (hts (.fieldLink RX4 18 "SandPlates$Seen" "many" "I") (List.mem_of_getElem? (i := 1) rfl)) (fun _ h9 => h9) rfl dX4_add_33 ?_
    refine lv_iconst (v := 1) hx hb dX4_add_36 (by decide) ?_
    refine lv_iadd hx hb dX4_add_37 ?_
    refine va_put (D := Γ.1) (ci := 4) (v := .int (many + 1)) (ty := .int) (C := RX4) (T := TX4) (N := 3) hx hb hts hi4 tyX4 tyX4_ok nmX4 hown hK hP hD hS 0 rfl rfl 2 (by decide) (hts (.fieldLink RX4 18 "SandPlates$Seen" "many" "I") (List.mem_of_getElem? (i := 1) rfl)) (fun _ h9 => h9) rfl (by decide +kernel) rfl rfl (Nat.le_of_ble_eq_true rfl) dX4_add_38 (fun H locs hP hD hS => ?_)
    have hP : va_P Γ.1 vwCl (wd_X4_add Γ q0 q1 q2 (many + 1) (upd cells (many.toNatClampNeg) x1) (upd wereStill (many.toNatClampNeg) x2)) H := hP
    have hD : va_D A (wd_X4_add Γ q0 q1 q2 (many + 1) (upd cells (many.toNatClampNeg) x1) (upd wereStill (many.toNatClampNeg) x2)) := hD
    refine lv_iconst (v := 1) hx hb dX4_add_41 (by decide) ?_
    subst hout; obtain ⟨rfl, rfl, rfl, rfl⟩ := rt4 hf
    subst hQQ
    exact W.zret hx hb hr rfl (fun t ht hW => ⟨⟨_, (), rfl, rfl, by rw [ht]; exact hP, hD⟩, hS.F ht⟩) hS.2.2 dX4_add_42
  · have hf := vm_neg hc_1 hf
    refine lv_iconst (v := 0) hx hb dX4_add_9 (by decide) ?_
    subst hout; obtain ⟨rfl, rfl, rfl, rfl⟩ := rt4 hf
    subst hQQ
    exact W.zret hx hb hr rfl (fun t ht hW => ⟨⟨_, (), rfl, rfl, by rw [ht]; exact hP, hD⟩, hS.F ht⟩) hS.2.2 dX4_add_10
def wd_X4_fits (Γ : GE) (q0 q1 q2 q3 q4 q5 d0 d1 : Nat) (many : Int32) (cells : Nat → Int32) (wereStill : Nat → Int32) (p1_columns : Int32) (p1_rows : Int32) (p1_numbers : Nat → Int32) (p2_a : Nat → Int32) : va_W := [(q0, .inr (4, [.ref q1, .ref q2, .int many])), (q1, .inl (Γ.2.1 0, 6, .inl cells)), (q2, .inl (Γ.2.1 0, 6, .inl wereStill)), (q3, .inr (2, [.int p1_columns, .int p1_rows, .ref q4, .ref d0, .ref d1])), (q4, .inl (Γ.2.1 0, 7, .inl p1_numbers)), (q5, .inl (Γ.2.1 0, 36, .inl p2_a))]
def f_X4_fits_60  : Option Int32 := some 1
def f_X4_fits_52  : Option Int32 := some 0
def f_X4_fits_49 (many : Int32) (cells : Nat → Int32) (wereStill : Nat → Int32) (p1_columns : Int32) (p1_rows : Int32) (p1_numbers : Nat → Int32) (p2_a : Nat → Int32) (x3 : Int32) (s0 : Int32) (s1 : Int32) (k : (Int32 → Option (Unit ⊕ Unit))) : Option (Unit ⊕ Unit) := if s0 = s1 then (k (x3 + 1)) else (some (Sum.inr ()))
def f_X4_fits_2b (many : Int32) (cells : Nat → Int32) (wereStill : Nat → Int32) (p1_columns : Int32) (p1_rows : Int32) (p1_numbers : Nat → Int32) (p2_a : Nat → Int32) (x3 : Int32) (k : (Int32 → Option (Unit ⊕ Unit))) : Option (Unit ⊕ Unit) := if many ≤ x3 then (some (Sum.inl ())) else (if inb x3 6 = true then ob1 (f_X2_cells p1_columns p1_rows) (fun r_4 => if r_4 ≤ (cells (x3.toNatClampNeg)) then (some (Sum.inr ())) else (if inb x3 6 = true then ob1 (f_X2_isStill p1_numbers p2_a (cells (x3.toNatClampNeg))) (fun r_8 => if inb x3 6 = true then if (wereStill (x3.toNatClampNeg)) = 1 then (f_X4_fits_49 many cells wereStill p1_columns p1_rows p1_numbers p2_a x3 r_8 1 k) else (f_X4_fits_49 many cells wereStill p1_columns p1_rows p1_numbers p2_a x3 r_8 0 k) else none) else none)) else none)
def f_X4_fits_2s (many : Int32) (cells : Nat → Int32) (wereStill : Nat → Int32) (p1_columns : Int32) (p1_rows : Int32) (p1_numbers : Nat → Int32) (p2_a : Nat → Int32) : Int32 → (Int32 → Option (Unit ⊕ Unit)) → Option (Unit ⊕ Unit) := fun t k => f_X4_fits_2b many cells wereStill p1_columns p1_rows p1_numbers p2_a t k
def f_X4_fits_2 (many : Int32) (cells : Nat → Int32) (wereStill : Nat → Int32) (p1_columns : Int32) (p1_rows : Int32) (p1_numbers : Nat → Int32) (p2_a : Nat → Int32) (x3 : Int32) : Option Int32 := obx (vm_it (f_X4_fits_2s many cells wereStill p1_columns p1_rows p1_numbers p2_a) FU x3) (Sum.elim (un0 (f_X4_fits_60)) (un0 (f_X4_fits_52)))
def f_X4_fits (many : Int32) (cells : Nat → Int32) (wereStill : Nat → Int32) (p1_columns : Int32) (p1_rows : Int32) (p1_numbers : Nat → Int32) (p2_a : Nat → Int32) : Option Int32 := f_X4_fits_2 many cells wereStill p1_columns p1_rows p1_numbers p2_a 0
set_option maxHeartbeats 4000000 in
set_option maxRecDepth 100000 in
theorem c_X4_fits (l : Launch) (Γ : GE) (sz : Nat) (q0 q1 q2 q3 q4 q5 d0 d1 : Nat) (many : Int32) (cells : Nat → Int32) (wereStill : Nat → Int32) (p1_columns : Int32) (p1_rows : Int32) (p1_numbers : Nat → Int32) (p2_a : Nat → Int32) (ro : Int32) (hf : f_X4_fits many cells wereStill p1_columns p1_rows p1_numbers p2_a = some ro) : MetI l yX4_fits wsX4_fits ({ frames := 1, cells := 0, slots := 0, locals := 22 } : Room) Γ [.ref q0, .ref q3, .ref q5] (wd_X4_fits Γ q0 q1 q2 q3 q4 q5 d0 d1 many cells wereStill p1_columns p1_rows p1_numbers p2_a) (wd_X4_fits Γ q0 q1 q2 q3 q4 q5 d0 d1 many cells wereStill p1_columns p1_rows p1_numbers p2_a) sz ro := by
  refine Met.ofW (cc := cX4_fits) (maxL := 4) (ret := (some .boolean)) (by decide) rfl ?_
  intro p e s m args below meth c s₁ B hml hv
  obtain ⟨rfl, hsz, hE, hP, hD⟩ := hv
  have hx := B.exec
  have hb := B.bytes
  have hr := B.returns
  have hts := atoms_spec (ws := wsX4_fits) B.pre
  have hown : s.vm.findClass RX4 = some m.cls := findClass_of_methodNamed B.named
  have hlocks := B.notSynchronized
  subst hsz
  generalize hAe : va_A (wd_X4_fits Γ q0 q1 q2 q3 q4 q5 d0 d1 many cells wereStill p1_columns p1_rows p1_numbers p2_a) s.heap.size = A at hE hD ⊢
  have hA : ∀ q : Nat, s.heap.size ≤ q → A q := fun q h => by rw [← hAe]; exact Or.inr h
  clear hAe
  have hS : va_S A s.heap s.heap [] := va_S.rf
  have hK := hE.1
  have hl := lv_entry ([.ref q0, .ref q3, .ref q5]) (n := 4) (Nat.le_of_ble_eq_true rfl)
  rw [lg_entry_eq]
  generalize (lg_sl ([.ref q0, .ref q3, .ref q5]) ++ List.replicate (4 - (lg_sl ([.ref q0, .ref q3, .ref q5])).length) Slot.unset).toArray = ls at hl ⊢
  have hl : lv_has ls 4 [(0, .ref q0), (1, .ref q3), (2, .ref q5)] := hl
  have hi2 : ∀ w ∈ u_ws RX2 TX2 5, w ∈ wsX4_fits := fun w h => (List.mem_cons_of_mem _ (List.mem_append_right _ h))
  have hi4 : ∀ w ∈ u_ws RX4 TX4 3, w ∈ wsX4_fits := fun w h => (List.mem_cons_of_mem _ (List.mem_append_left _ (List.mem_append_right _ h)))
  obtain ⟨out, hout⟩ : ∃ o, o = ro := ⟨_, rfl⟩
  rw [← hout] at hf
  obtain ⟨QQ, hQQ⟩ : ∃ Q, Q = MQ below (va_Qi (fun (r' : Int32) (_ : Unit) => r' = ro) (CQ Γ (wd_X4_fits Γ q0 q1 q2 q3 q4 q5 d0 d1 many cells wereStill p1_columns p1_rows p1_numbers p2_a) A) A) (([.ref q0, .ref q3, .ref q5] : List Value).toArray) s 0 0 A := ⟨_, rfl⟩
  show W p l e ({ frames := 1, cells := 0, slots := 0, locals := 22 } : Room) s m (([.ref q0, .ref q3, .ref q5] : List Value).toArray) below meth c s.heap [] 0 0 (MQ below _ (([.ref q0, .ref q3, .ref q5] : List Value).toArray) s 0 0 A) (F0 m 0 ls [])
  rw [← hQQ]
  have K_60 : ∀ {H : Heap} {locs : List Loc} {ls : Array Slot}, va_P Γ.1 vwCl (wd_X4_fits Γ q0 q1 q2 q3 q4 q5 d0 d1 many cells wereStill p1_columns p1_rows p1_numbers p2_a) H → va_D A (wd_X4_fits Γ q0 q1 q2 q3 q4 q5 d0 d1 many cells wereStill p1_columns p1_rows p1_numbers p2_a) → va_S A s.heap H locs → lv_has ls 4 [] → f_X4_fits_60 = some out → W p l e ({ frames := 1, cells := 0, slots := 0, locals := 22 } : Room) s m ([.ref q0, .ref q3, .ref q5] : List Value).toArray below meth c H locs 0 0 QQ (F0 m 60 ls []) := by
    intro H locs ls hP hD hS hl hf
    unfold f_X4_fits_60 at hf
    refine lv_iconst (v := 1) hx hb dX4_fits_60 (by decide) ?_
    subst hout; obtain rfl := Option.some.inj hf
    subst hQQ
    exact W.zret hx hb hr rfl (fun t ht hW => ⟨⟨_, (), rfl, rfl, by rw [ht]; exact hP, hD⟩, hS.F ht⟩) hS.2.2 dX4_fits_61
  have K_52 : ∀ {H : Heap} {locs : List Loc} {ls : Array Slot}, va_P Γ.1 vwCl (wd_X4_fits Γ q0 q1 q2 q3 q4 q5 d0 d1 many cells wereStill p1_columns p1_rows p1_numbers p2_a) H → va_D A (wd_X4_fits Γ q0 q1 q2 q3 q4 q5 d0 d1 many cells wereStill p1_columns p1_rows p1_numbers p2_a) → va_S A s.heap H locs → lv_has ls 4 [] → f_X4_fits_52 = some out → W p l e ({ frames := 1, cells := 0, slots := 0, locals := 22 } : Room) s m ([.ref q0, .ref q3, .ref q5] : List Value).toArray below meth c H locs 0 0 QQ (F0 m 52 ls []) := by
    intro H locs ls hP hD hS hl hf
    unfold f_X4_fits_52 at hf
    refine lv_iconst (v := 0) hx hb dX4_fits_52 (by decide) ?_
    subst hout; obtain rfl := Option.some.inj hf
    subst hQQ
    exact W.zret hx hb hr rfl (fun t ht hW => ⟨⟨_, (), rfl, rfl, by rw [ht]; exact hP, hD⟩, hS.F ht⟩) hS.2.2 dX4_fits_53
  have K_2 : ∀ (x3 : Int32) {H : Heap} {locs : List Loc} {ls : Array Slot}, va_P Γ.1 vwCl (wd_X4_fits Γ q0 q1 q2 q3 q4 q5 d0 d1 many cells wereStill p1_columns p1_rows p1_numbers p2_a) H → va_D A (wd_X4_fits Γ q0 q1 q2 q3 q4 q5 d0 d1 many cells wereStill p1_columns p1_rows p1_numbers p2_a) → va_S A s.heap H locs → lv_has ls 4 [(0, .ref q0), (1, .ref q3), (2, .ref q5), (3, .int x3)] → f_X4_fits_2 many cells wereStill p1_columns p1_rows p1_numbers p2_a x3 = some out → W p l e ({ frames := 1, cells := 0, slots := 0, locals := 22 } : Room) s m ([.ref q0, .ref q3, .ref q5] : List Value).toArray below meth c H locs 0 0 QQ (F0 m 2 ls []) := by
    intro x3 H locs ls hP hD hS hl hf
    unfold f_X4_fits_2 at hf
    obtain ⟨ex2, h1, hX2⟩ := obx_some hf
    have LP : ∀ (n : Nat) (x3 : Int32)  {H : Heap} {locs : List Loc} {ls : Array Slot}, va_P Γ.1 vwCl (wd_X4_fits Γ q0 q1 q2 q3 q4 q5 d0 d1 many cells wereStill p1_columns p1_rows p1_numbers p2_a) H → va_D A (wd_X4_fits Γ q0 q1 q2 q3 q4 q5 d0 d1 many cells wereStill p1_columns p1_rows p1_numbers p2_a) → va_S A s.heap H locs → lv_has ls 4 [(0, .ref q0), (1, .ref q3), (2, .ref q5), (3, .int x3)] → vm_it (f_X4_fits_2s many cells wereStill p1_columns p1_rows p1_numbers p2_a) n x3 = some ex2 → W p l e ({ frames := 1, cells := 0, slots := 0, locals := 22 } : Room) s m ([.ref q0, .ref q3, .ref q5] : List Value).toArray below meth c H locs 0 0 QQ (F0 m 2 ls []) := by
      clear hP hD hS hl hf h1
      intro n
      induction n with
      | zero => intro x3 H locs ls hP hD hS hl hf; exact (vm_it_0 hf).elim
      | succ n ih =>
        intro x3 H locs ls hP hD hS hl hf
        have hf : f_X4_fits_2b many cells wereStill p1_columns p1_rows p1_numbers p2_a x3 (vm_it (f_X4_fits_2s many cells wereStill p1_columns p1_rows p1_numbers p2_a) n) = some ex2 := hf
        have K_49 : ∀ (x3 : Int32) (s0 : Int32) (s1 : Int32) {H : Heap} {locs : List Loc} {ls : Array Slot}, va_P Γ.1 vwCl (wd_X4_fits Γ q0 q1 q2 q3 q4 q5 d0 d1 many cells wereStill p1_columns p1_rows p1_numbers p2_a) H → va_D A (wd_X4_fits Γ q0 q1 q2 q3 q4 q5 d0 d1 many cells wereStill p1_columns p1_rows p1_numbers p2_a) → va_S A s.heap H locs → lv_has ls 4 [(0, .ref q0), (1, .ref q3), (2, .ref q5), (3, .int x3)] → f_X4_fits_49 many cells wereStill p1_columns p1_rows p1_numbers p2_a x3 s0 s1 (vm_it (f_X4_fits_2s many cells wereStill p1_columns p1_rows p1_numbers p2_a) n) = some ex2 → W p l e ({ frames := 1, cells := 0, slots := 0, locals := 22 } : Room) s m ([.ref q0, .ref q3, .ref q5] : List Value).toArray below meth c H locs 0 0 QQ (F0 m 49 ls [.int s1, .int s0]) := by
          intro x3 s0 s1 H locs ls hP hD hS hl hf
          unfold f_X4_fits_49 at hf
          refine lv_icmp_eq (tgt := 54) hx hb dX4_fits_49 (by decide) (fun hc_1 => ?_) (fun hc_1 => ?_)
          · have hf := vm_pos hc_1 hf
            refine lv_iinc (v := (x3 + 1)) (lv' := [(3, .int (x3 + 1)), (0, .ref q0), (1, .ref q3), (2, .ref q5)]) hx hb dX4_fits_54 hl (k := 3) rfl rfl (by decide) rfl (fun ls hl => ?_)
            refine lv_goto (tgt := 2) hx hb dX4_fits_57 (by decide) ?_
            exact ih (x3 + 1) hP hD hS (lv_sub hl [1, 2, 3, 0] rfl) hf
          · have hf := vm_neg hc_1 hf
            have hX := hX2
            rw [← Option.some.inj hf] at hX
            exact K_52  hP hD hS (lv_sub hl [] rfl) hX
        unfold f_X4_fits_2b at hf
        refine lv_iload_n hx hb dX4_fits_2 rfl (lv_at hl 3 rfl) ?_
        refine lv_aload_n hx hb dX4_fits_3 rfl (lv_at hl 0 rfl) ?_
        refine va_get (D := Γ.1) (ci := 4) (v := .int many) (C := RX4) (T := TX4) (N := 3) hx hb hts hi4 hown hK hP 0 rfl rfl 2 (by decide) (hts (.fieldLink RX4 18 "SandPlates$Seen" "many" "I") (List.mem_of_getElem? (i := 1) rfl)) (fun _ h9 => h9) rfl dX4_fits_4 ?_
        refine lv_icmp_ge (tgt := 60) hx hb dX4_fits_7 (by decide) (fun hc_2 => ?_) (fun hc_2 => ?_)
        · have hf := vm_pos hc_2 hf
          have hX := hX2
          rw [← Option.some.inj hf] at hX
          exact K_60  hP hD hS (lv_sub hl [] rfl) hX
        · have hf := vm_neg hc_2 hf
          refine lv_aload_n hx hb dX4_fits_10 rfl (lv_at hl 0 rfl) ?_
          refine va_get (D := Γ.1) (ci := 4) (v := .ref q1) (C := RX4) (T := TX4) (N := 3) hx hb hts hi4 hown hK hP 0 rfl rfl 0 (by decide) (hts (.fieldLink RX4 9 "SandPlates$Seen" "cells" "[I") (List.mem_of_getElem? (i := 2) rfl)) (fun _ h9 => h9) rfl dX4_fits_11 ?_
          refine lv_iload_n hx hb dX4_fits_14 rfl (lv_at hl 3 rfl) ?_
          obtain ⟨hc_3, hf⟩ := vm_ck hf
          refine vm_iald hx hb hK hP 1 0 rfl rfl hc_3 (j := x3.toNatClampNeg) rfl dX4_fits_15 ?_
          refine lv_aload_n hx hb dX4_fits_16 rfl (lv_at hl 1 rfl) ?_
          obtain ⟨r_4, hq_5, hf⟩ := ob1_some hf
          refine vm_cNi (isC := [3]) (wc := (wd_X2_cells Γ q3 q4 d0 d1 p1_columns p1_rows)) (w1 := (wd_X2_cells Γ q3 q4 d0 d1 p1_columns p1_rows)) (As := []) (rest := [.int (cells (x3.toNatClampNeg))]) ⟨hx, hb, hml, hown, hts⟩ hE hP hD hS hA rfl rfl rfl (c_X2_cells l Γ _ q3 q4 d0 d1 p1_columns p1_rows r_4 hq_5) ⟨va_cnB 0 hts ggX4_fits_X2_cells rfl rfl rfl (nmX4_22 hE.2.1) (hts (.initialized RX2) (List.mem_of_getElem? (i := 5) rfl)) (by decide +kernel) ⟨Nat.le_of_ble_eq_true rfl, Nat.le_of_ble_eq_true rfl⟩, (hts (.instanceMethod yX2_cells) (List.mem_of_getElem? (i := 4) rfl)), (hts (.selects RX2 yX2_cells yX2_cells) (List.mem_of_getElem? (i := 6) rfl))⟩ (va_recv (ci := 2) (q0 := 3) hK hP rfl rfl) rfl hl.1 rfl (Nat.le_of_ble_eq_true rfl) dX4_fits_17 ⟨Nat.zero_le _, Nat.zero_le _⟩ (fun H locs hP hD hS => ?_)
          have hP : va_P Γ.1 vwCl (wd_X4_fits Γ q0 q1 q2 q3 q4 q5 d0 d1 many cells wereStill p1_columns p1_rows p1_numbers p2_a) H := hP
          have hD : va_D A (wd_X4_fits Γ q0 q1 q2 q3 q4 q5 d0 d1 many cells wereStill p1_columns p1_rows p1_numbers p2_a) := hD
          refine lv_icmp_ge (tgt := 52) hx hb dX4_fits_20 (by decide) (fun hc_6 => ?_) (fun hc_6 => ?_)
          · have hf := vm_pos hc_6 hf
            have hX := hX2
            rw [← Option.some.inj hf] at hX
            exact K_52  hP hD hS (lv_sub hl [] rfl) hX
          · have hf := vm_neg hc_6 hf
            refine lv_aload_n hx hb dX4_fits_23 rfl (lv_at hl 1 rfl) ?_
            refine lv_aload_n hx hb dX4_fits_24 rfl (lv_at hl 2 rfl) ?_
            refine lv_aload_n hx hb dX4_fits_25 rfl (lv_at hl 0 rfl) ?_
            refine va_get (D := Γ.1) (ci := 4) (v := .ref q1) (C := RX4) (T := TX4) (N := 3) hx hb hts hi4 hown hK hP 0 rfl rfl 0 (by decide) (hts (.fieldLink RX4 9 "SandPlates$Seen" "cells" "[I") (List.mem_of_getElem? (i := 2) rfl)) (fun _ h9 => h9) rfl dX4_fits_26 ?_
            refine lv_iload_n hx hb dX4_fits_29 rfl (lv_at hl 3 rfl) ?_
            obtain ⟨hc_7, hf⟩ := vm_ck hf
            refine vm_iald hx hb hK hP 1 0 rfl rfl hc_7 (j := x3.toNatClampNeg) rfl dX4_fits_30 ?_
            obtain ⟨r_8, hq_9, hf⟩ := ob1_some hf
            refine vm_cNi (isC := [3, 4, 5]) (wc := (wd_X2_isStill Γ q3 q4 q5 d0 d1 p1_columns p1_rows p1_numbers p2_a)) (w1 := (wd_X2_isStill Γ q3 q4 q5 d0 d1 p1_columns p1_rows p1_numbers p2_a)) (As := [.ref q5, .int (cells (x3.toNatClampNeg))]) (rest := []) ⟨hx, hb, hml, hown, hts⟩ hE hP hD hS hA rfl rfl rfl (c_X2_isStill l Γ _ q3 q4 q5 d0 d1 p1_columns p1_rows p1_numbers p2_a (cells (x3.toNatClampNeg)) r_8 hq_9) ⟨va_cnB 2 hts ggX4_fits_X2_isStill rfl rfl rfl (nmX4_27 hE.2.1) (hts (.initialized RX2) (List.mem_of_getElem? (i := 5) rfl)) (by decide +kernel) ⟨Nat.le_of_ble_eq_true rfl, Nat.le_of_ble_eq_true rfl⟩, (hts (.instanceMethod yX2_isStill) (List.mem_of_getElem? (i := 10) rfl)), (hts (.selects RX2 yX2_isStill yX2_isStill) (List.mem_of_getElem? (i := 11) rfl))⟩ (va_recv (ci := 2) (q0 := 3) hK hP rfl rfl) rfl hl.1 rfl (Nat.le_of_ble_eq_true rfl) dX4_fits_31 ⟨Nat.zero_le _, Nat.zero_le _⟩ (fun H locs hP hD hS => ?_)
            have hP : va_P Γ.1 vwCl (wd_X4_fits Γ q0 q1 q2 q3 q4 q5 d0 d1 many cells wereStill p1_columns p1_rows p1_numbers p2_a) H := hP
            have hD : va_D A (wd_X4_fits Γ q0 q1 q2 q3 q4 q5 d0 d1 many cells wereStill p1_columns p1_rows p1_numbers p2_a) := hD
            refine lv_aload_n hx hb dX4_fits_34 rfl (lv_at hl 0 rfl) ?_
            refine va_get (D := Γ.1) (ci := 4) (v := .ref q2) (C := RX4) (T := TX4) (N := 3) hx hb hts hi4 hown hK hP 0 rfl rfl 1 (by decide) (hts (.fieldLink RX4 15 "SandPlates$Seen" "wereStill" "[I") (List.mem_of_getElem? (i := 3) rfl)) (fun _ h9 => h9) rfl dX4_fits_35 ?_
            refine lv_iload_n hx hb dX4_fits_38 rfl (lv_at hl 3 rfl) ?_
            obtain ⟨hc_10, hf⟩ := vm_ck hf
            refine vm_iald hx hb hK hP 2 0 rfl rfl hc_10 (j := x3.toNatClampNeg) rfl dX4_fits_39 ?_
            refine lv_iconst (v := 1) hx hb dX4_fits_40 (by decide) ?_
            refine lv_icmp_ne (tgt := 48) hx hb dX4_fits_41 (by decide) (fun hc_11 => ?_) (fun hc_11 => ?_)
            · have hf := vm_neg hc_11 hf
              refine lv_iconst (v := 0) hx hb dX4_fits_48 (by decide) ?_
              exact K_49 x3 r_8 0 hP hD hS (lv_sub hl [0, 1, 2, 3] rfl) hf
            · have hf := vm_pos hc_11 hf
              refine lv_iconst (v := 1) hx hb dX4_fits_44 (by decide) ?_
              refine lv_goto (tgt := 49) hx hb dX4_fits_45 (by decide) ?_
              exact K_49 x3 r_8 1 hP hD hS (lv_sub hl [0, 1, 2, 3] rfl) hf
    exact LP FU x3 hP hD hS hl h1
  unfold f_X4_fits at hf
  refine lv_iconst (v := 0) hx hb dX4_fits_0 (by decide) ?_
  refine lv_istore_n (lv' := [(3, .int 0), (0, .ref q0), (1, .ref q3), (2, .ref q5)]) hx hb dX4_fits_1 rfl hl (by decide) rfl (fun ls hl => ?_)
  exact K_2 0 hP hD hS (lv_sub hl [1, 2, 3, 0] rfl) hf
