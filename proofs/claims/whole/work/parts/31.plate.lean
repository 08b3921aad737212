def wd_X2_cells (Γ : GE) (q0 d0 d1 d2 : Nat) (columns : Int32) (rows : Int32) : va_W := [(q0, .inr (2, [.int columns, .int rows, .ref d0, .ref d1, .ref d2]))]
def f_X2_cells (columns : Int32) (rows : Int32) : Option Int32 := some (columns * rows)
set_option maxHeartbeats 4000000 in
set_option maxRecDepth 100000 in
theorem c_X2_cells (l : Launch) (Γ : GE) (sz : Nat) (q0 d0 d1 d2 : Nat) (columns : Int32) (rows : Int32) (ro : Int32) (hf : f_X2_cells columns rows = some ro) : MetI l yX2_cells wsX2_cells ({ frames := 0, cells := 0, slots := 0, locals := 0 } : Room) Γ [.ref q0] (wd_X2_cells Γ q0 d0 d1 d2 columns rows) (wd_X2_cells Γ q0 d0 d1 d2 columns rows) sz ro := by
  refine Met.ofW (cc := cX2_cells) (maxL := 1) (ret := (some .int)) (by decide) rfl ?_
  intro p e s m args below meth c s₁ B hml hv
  obtain ⟨rfl, hsz, hE, hP, hD⟩ := hv
  have hx := B.exec
  have hb := B.bytes
  have hr := B.returns
  have hts := atoms_spec (ws := wsX2_cells) B.pre
  have hown : s.vm.findClass RX2 = some m.cls := findClass_of_methodNamed B.named
  have hlocks := B.notSynchronized
  subst hsz
  generalize hAe : va_A (wd_X2_cells Γ q0 d0 d1 d2 columns rows) s.heap.size = A at hE hD ⊢
  have hA : ∀ q : Nat, s.heap.size ≤ q → A q := fun q h => by rw [← hAe]; exact Or.inr h
  clear hAe
  have hS : va_S A s.heap s.heap [] := va_S.rf
  have hK := hE.1
  have hl := lv_entry ([.ref q0]) (n := 1) (Nat.le_of_ble_eq_true rfl)
  rw [lg_entry_eq]
  generalize (lg_sl ([.ref q0]) ++ List.replicate (1 - (lg_sl ([.ref q0])).length) Slot.unset).toArray = ls at hl ⊢
  have hl : lv_has ls 1 [(0, .ref q0)] := hl
  have hi2 : ∀ w ∈ u_ws RX2 TX2 5, w ∈ wsX2_cells := fun w h => (List.mem_cons_of_mem _ (List.mem_append_right _ h))
  obtain ⟨out, hout⟩ : ∃ o, o = ro := ⟨_, rfl⟩
  rw [← hout] at hf
  obtain ⟨QQ, hQQ⟩ : ∃ Q, Q = MQ below (va_Qi (fun (r' : Int32) (_ : Unit) => r' = ro) (CQ Γ (wd_X2_cells Γ q0 d0 d1 d2 columns rows) A) A) (([.ref q0] : List Value).toArray) s 0 0 A := ⟨_, rfl⟩
  show W p l e ({ frames := 0, cells := 0, slots := 0, locals := 0 } : Room) s m (([.ref q0] : List Value).toArray) below meth c s.heap [] 0 0 (MQ below _ (([.ref q0] : List Value).toArray) s 0 0 A) (F0 m 0 ls [])
  rw [← hQQ]
  unfold f_X2_cells at hf
  refine lv_aload_n hx hb dX2_cells_0 rfl (lv_at hl 0 rfl) ?_
  refine va_get (D := Γ.1) (ci := 2) (v := .int columns) (C := RX2) (T := TX2) (N := 5) hx hb hts hi2 hown hK hP 0 rfl rfl 0 (by decide) (hts (.fieldLink RX2 24 "SandPlates$Plate" "columns" "I") (List.mem_of_getElem? (i := 1) rfl)) (fun _ h9 => h9) rfl dX2_cells_1 ?_
  refine lv_aload_n hx hb dX2_cells_4 rfl (lv_at hl 0 rfl) ?_
  refine va_get (D := Γ.1) (ci := 2) (v := .int rows) (C := RX2) (T := TX2) (N := 5) hx hb hts hi2 hown hK hP 0 rfl rfl 1 (by decide) (hts (.fieldLink RX2 28 "SandPlates$Plate" "rows" "I") (List.mem_of_getElem? (i := 2) rfl)) (fun _ h9 => h9) rfl dX2_cells_5 ?_
  refine lv_imul hx hb dX2_cells_8 ?_
  subst hout; obtain rfl := Option.some.inj hf
  subst hQQ
  exact W.iret hx hb hr (fun t ht hW => ⟨⟨_, (), rfl, rfl, by rw [ht]; exact hP, hD⟩, hS.F ht⟩) hS.2.2 dX2_cells_9
def wd_X2_isStill (Γ : GE) (q0 q1 q2 d0 d1 : Nat) (columns : Int32) (rows : Int32) (numbers : Nat → Int32) (p1_a : Nat → Int32) : va_W := [(q0, .inr (2, [.int columns, .int rows, .ref q1, .ref d0, .ref d1])), (q1, .inl (Γ.2.1 0, 7, .inl numbers)), (q2, .inl (Γ.2.1 0, 36, .inl p1_a))]
def f_X2_isStill_17 (s0 : Int32) : Option Int32 := if s0 = 0 ∨ s0 = 1 then some s0 else none
def f_X2_isStill (numbers : Nat → Int32) (p1_a : Nat → Int32) (x2 : Int32) : Option Int32 := if inb x2 36 = true then if (numbers 5) < (p1_a (x2.toNatClampNeg)) then (f_X2_isStill_17 0) else (f_X2_isStill_17 1) else none
set_option maxHeartbeats 4000000 in
set_option maxRecDepth 100000 in
theorem c_X2_isStill (l : Launch) (Γ : GE) (sz : Nat) (q0 q1 q2 d0 d1 : Nat) (columns : Int32) (rows : Int32) (numbers : Nat → Int32) (p1_a : Nat → Int32) (x2 : Int32) (ro : Int32) (hf : f_X2_isStill numbers p1_a x2 = some ro) : MetI l yX2_isStill wsX2_isStill ({ frames := 0, cells := 0, slots := 0, locals := 0 } : Room) Γ [.ref q0, .ref q2, .int x2] (wd_X2_isStill Γ q0 q1 q2 d0 d1 columns rows numbers p1_a) (wd_X2_isStill Γ q0 q1 q2 d0 d1 columns rows numbers p1_a) sz ro := by
  refine Met.ofW (cc := cX2_isStill) (maxL := 3) (ret := (some .boolean)) (by decide) rfl ?_
  intro p e s m args below meth c s₁ B hml hv
  obtain ⟨rfl, hsz, hE, hP, hD⟩ := hv
  have hx := B.exec
  have hb := B.bytes
  have hr := B.returns
  have hts := atoms_spec (ws := wsX2_isStill) B.pre
  have hown : s.vm.findClass RX2 = some m.cls := findClass_of_methodNamed B.named
  have hlocks := B.notSynchronized
  subst hsz
  generalize hAe : va_A (wd_X2_isStill Γ q0 q1 q2 d0 d1 columns rows numbers p1_a) s.heap.size = A at hE hD ⊢
  have hA : ∀ q : Nat, s.heap.size ≤ q → A q := fun q h => by rw [← hAe]; exact Or.inr h
  clear hAe
  have hS : va_S A s.heap s.heap [] := va_S.rf
  have hK := hE.1
  have hl := lv_entry ([.ref q0, .ref q2, .int x2]) (n := 3) (Nat.le_of_ble_eq_true rfl)
  rw [lg_entry_eq]
  generalize (lg_sl ([.ref q0, .ref q2, .int x2]) ++ List.replicate (3 - (lg_sl ([.ref q0, .ref q2, .int x2])).length) Slot.unset).toArray = ls at hl ⊢
  have hl : lv_has ls 3 [(0, .ref q0), (1, .ref q2), (2, .int x2)] := hl
  have hi2 : ∀ w ∈ u_ws RX2 TX2 5, w ∈ wsX2_isStill := fun w h => (List.mem_cons_of_mem _ (List.mem_append_right _ h))
  obtain ⟨out, hout⟩ : ∃ o, o = ro := ⟨_, rfl⟩
  rw [← hout] at hf
  obtain ⟨QQ, hQQ⟩ : ∃ Q, Q = MQ below (va_Qi (fun (r' : Int32) (_ : Unit) => r' = ro) (CQ Γ (wd_X2_isStill Γ q0 q1 q2 d0 d1 columns rows numbers p1_a) A) A) (([.ref q0, .ref q2, .int x2] : List Value).toArray) s 0 0 A := ⟨_, rfl⟩
  show W p l e ({ frames := 0, cells := 0, slots := 0, locals := 0 } : Room) s m (([.ref q0, .ref q2, .int x2] : List Value).toArray) below meth c s.heap [] 0 0 (MQ below _ (([.ref q0, .ref q2, .int x2] : List Value).toArray) s 0 0 A) (F0 m 0 ls [])
  rw [← hQQ]
  have K_17 : ∀ (s0 : Int32) {H : Heap} {locs : List Loc} {ls : Array Slot}, va_P Γ.1 vwCl (wd_X2_isStill Γ q0 q1 q2 d0 d1 columns rows numbers p1_a) H → va_D A (wd_X2_isStill Γ q0 q1 q2 d0 d1 columns rows numbers p1_a) → va_S A s.heap H locs → lv_has ls 3 [] → f_X2_isStill_17 s0 = some out → W p l e ({ frames := 0, cells := 0, slots := 0, locals := 0 } : Room) s m ([.ref q0, .ref q2, .int x2] : List Value).toArray below meth c H locs 0 0 QQ (F0 m 17 ls [.int s0]) := by
    intro s0 H locs ls hP hD hS hl hf
    unfold f_X2_isStill_17 at hf
    obtain ⟨hc_1, hf⟩ := vm_ck hf
    subst hout; obtain rfl := Option.some.inj hf
    subst hQQ
    exact W.zret hx hb hr (vm_nz hc_1) (fun t ht hW => ⟨⟨_, (), rfl, rfl, by rw [ht]; exact hP, hD⟩, hS.F ht⟩) hS.2.2 dX2_isStill_17
  unfold f_X2_isStill at hf
  refine lv_aload_n hx hb dX2_isStill_0 rfl (lv_at hl 1 rfl) ?_
  refine lv_iload_n hx hb dX2_isStill_1 rfl (lv_at hl 2 rfl) ?_
  obtain ⟨hc_2, hf⟩ := vm_ck hf
  refine vm_iald hx hb hK hP 2 0 rfl rfl hc_2 (j := x2.toNatClampNeg) rfl dX2_isStill_2 ?_
  refine lv_aload_n hx hb dX2_isStill_3 rfl (lv_at hl 0 rfl) ?_
  refine va_get (D := Γ.1) (ci := 2) (v := .ref q1) (C := RX2) (T := TX2) (N := 5) hx hb hts hi2 hown hK hP 0 rfl rfl 2 (by decide) (hts (.fieldLink RX2 9 "SandPlates$Plate" "numbers" "[I") (List.mem_of_getElem? (i := 1) rfl)) (fun _ h9 => h9) rfl dX2_isStill_4 ?_
  refine lv_iconst (v := 5) hx hb dX2_isStill_7 (by decide) ?_
  refine vm_iald hx hb hK hP 1 0 rfl rfl (by decide +kernel) (j := 5) rfl dX2_isStill_8 ?_
  refine lv_icmp_gt (tgt := 16) hx hb dX2_isStill_9 (by decide) (fun hc_3 => ?_) (fun hc_3 => ?_)
  · have hf := vm_pos hc_3 hf
    refine lv_iconst (v := 0) hx hb dX2_isStill_16 (by decide) ?_
    exact K_17 0 hP hD hS (lv_sub hl [] rfl) hf
  · have hf := vm_neg hc_3 hf
    refine lv_iconst (v := 1) hx hb dX2_isStill_12 (by decide) ?_
    refine lv_goto (tgt := 17) hx hb dX2_isStill_13 (by decide) ?_
    exact K_17 1 hP hD hS (lv_sub hl [] rfl) hf
def wd_X2_cellAt (Γ : GE) (q0 d0 d1 d2 : Nat) (columns : Int32) (rows : Int32) : va_W := [(q0, .inr (2, [.int columns, .int rows, .ref d0, .ref d1, .ref d2]))]
def f_X2_cellAt_24  : Option Int32 := some (-1)
def f_X2_cellAt (columns : Int32) (rows : Int32) (x1 : Int32) (x2 : Int32) : Option Int32 := if x1 < 0 then f_X2_cellAt_24 else (if columns ≤ x1 then f_X2_cellAt_24 else (if x2 < 0 then f_X2_cellAt_24 else (if x2 < rows then (some ((columns * x2) + x1)) else f_X2_cellAt_24)))
set_option maxHeartbeats 4000000 in
set_option maxRecDepth 100000 in
theorem c_X2_cellAt (l : Launch) (Γ : GE) (sz : Nat) (q0 d0 d1 d2 : Nat) (columns : Int32) (rows : Int32) (x1 : Int32) (x2 : Int32) (ro : Int32) (hf : f_X2_cellAt columns rows x1 x2 = some ro) : MetI l yX2_cellAt wsX2_cellAt ({ frames := 0, cells := 0, slots := 0, locals := 0 } : Room) Γ [.ref q0, .int x1, .int x2] (wd_X2_cellAt Γ q0 d0 d1 d2 columns rows) (wd_X2_cellAt Γ q0 d0 d1 d2 columns rows) sz ro := by
  refine Met.ofW (cc := cX2_cellAt) (maxL := 3) (ret := (some .int)) (by decide) rfl ?_
  intro p e s m args below meth c s₁ B hml hv
  obtain ⟨rfl, hsz, hE, hP, hD⟩ := hv
  have hx := B.exec
  have hb := B.bytes
  have hr := B.returns
  have hts := atoms_spec (ws := wsX2_cellAt) B.pre
  have hown : s.vm.findClass RX2 = some m.cls := findClass_of_methodNamed B.named
  have hlocks := B.notSynchronized
  subst hsz
  generalize hAe : va_A (wd_X2_cellAt Γ q0 d0 d1 d2 columns rows) s.heap.size = A at hE hD ⊢
  have hA : ∀ q : Nat, s.heap.size ≤ q → A q := fun q h => by rw [← hAe]; exact Or.inr h
  clear hAe
  have hS : va_S A s.heap s.heap [] := va_S.rf
  have hK := hE.1
  have hl := lv_entry ([.ref q0, .int x1, .int x2]) (n := 3) (Nat.le_of_ble_eq_true rfl)
  rw [lg_entry_eq]
  generalize (lg_sl ([.ref q0, .int x1, .int x2]) ++ List.replicate (3 - (lg_sl ([.ref q0, .int x1, .int x2])).length) Slot.unset).toArray = ls at hl ⊢
  have hl : lv_has ls 3 [(0, .ref q0), (1, .int x1), (2, .int x2)] := hl
  have hi2 : ∀ w ∈ u_ws RX2 TX2 5, w ∈ wsX2_cellAt := fun w h => (List.mem_cons_of_mem _ (List.mem_append_right _ h))
  obtain ⟨out, hout⟩ : ∃ o, o = ro := ⟨_, rfl⟩
  rw [← hout] at hf
  obtain ⟨QQ, hQQ⟩ : ∃ Q, Q = MQ below (va_Qi (fun (r' : Int32) (_ : Unit) => r' = ro) (CQ Γ (wd_X2_cellAt Γ q0 d0 d1 d2 columns rows) A) A) (([.ref q0, .int x1, .int x2] : List Value).toArray) s 0 0 A := ⟨_, rfl⟩
  show W p l e ({ frames := 0, cells := 0, slots := 0, locals := 0 } : Room) s m (([.ref q0, .int x1, .int x2] : List Value).toArray) below meth c s.heap [] 0 0 (MQ below _ (([.ref q0, .int x1, .int x2] : List Value).toArray) s 0 0 A) (F0 m 0 ls [])
  rw [← hQQ]
  have K_24 : ∀ {H : Heap} {locs : List Loc} {ls : Array Slot}, va_P Γ.1 vwCl (wd_X2_cellAt Γ q0 d0 d1 d2 columns rows) H → va_D A (wd_X2_cellAt Γ q0 d0 d1 d2 columns rows) → va_S A s.heap H locs → lv_has ls 3 [] → f_X2_cellAt_24 = some out → W p l e ({ frames := 0, cells := 0, slots := 0, locals := 0 } : Room) s m ([.ref q0, .int x1, .int x2] : List Value).toArray below meth c H locs 0 0 QQ (F0 m 24 ls []) := by
    intro H locs ls hP hD hS hl hf
    unfold f_X2_cellAt_24 at hf
    refine lv_iconst (v := (-1)) hx hb dX2_cellAt_24 (by decide) ?_
    subst hout; obtain rfl := Option.some.inj hf
    subst hQQ
    exact W.iret hx hb hr (fun t ht hW => ⟨⟨_, (), rfl, rfl, by rw [ht]; exact hP, hD⟩, hS.F ht⟩) hS.2.2 dX2_cellAt_25
  unfold f_X2_cellAt at hf
  refine lv_iload_n hx hb dX2_cellAt_0 rfl (lv_at hl 1 rfl) ?_
  refine lv_if_lt (tgt := 24) hx hb dX2_cellAt_1 (by decide) (fun hc_1 => ?_) (fun hc_1 => ?_)
  · have hf := vm_pos hc_1 hf
    exact K_24  hP hD hS (lv_sub hl [] rfl) hf
  · have hf := vm_neg hc_1 hf
    refine lv_iload_n hx hb dX2_cellAt_4 rfl (lv_at hl 1 rfl) ?_
    refine lv_aload_n hx hb dX2_cellAt_5 rfl (lv_at hl 0 rfl) ?_
    refine va_get (D := Γ.1) (ci := 2) (v := .int columns) (C := RX2) (T := TX2) (N := 5) hx hb hts hi2 hown hK hP 0 rfl rfl 0 (by decide) (hts (.fieldLink RX2 24 "SandPlates$Plate" "columns" "I") (List.mem_of_getElem? (i := 1) rfl)) (fun _ h9 => h9) rfl dX2_cellAt_6 ?_
    refine lv_icmp_ge (tgt := 24) hx hb dX2_cellAt_9 (by decide) (fun hc_2 => ?_) (fun hc_2 => ?_)
    · have hf := vm_pos hc_2 hf
      exact K_24  hP hD hS (lv_sub hl [] rfl) hf
    · have hf := vm_neg hc_2 hf
      refine lv_iload_n hx hb dX2_cellAt_12 rfl (lv_at hl 2 rfl) ?_
      refine lv_if_lt (tgt := 24) hx hb dX2_cellAt_13 (by decide) (fun hc_3 => ?_) (fun hc_3 => ?_)
      · have hf := vm_pos hc_3 hf
        exact K_24  hP hD hS (lv_sub hl [] rfl) hf
      · have hf := vm_neg hc_3 hf
        refine lv_iload_n hx hb dX2_cellAt_16 rfl (lv_at hl 2 rfl) ?_
        refine lv_aload_n hx hb dX2_cellAt_17 rfl (lv_at hl 0 rfl) ?_
        refine va_get (D := Γ.1) (ci := 2) (v := .int rows) (C := RX2) (T := TX2) (N := 5) hx hb hts hi2 hown hK hP 0 rfl rfl 1 (by decide) (hts (.fieldLink RX2 28 "SandPlates$Plate" "rows" "I") (List.mem_of_getElem? (i := 2) rfl)) (fun _ h9 => h9) rfl dX2_cellAt_18 ?_
        refine lv_icmp_lt (tgt := 26) hx hb dX2_cellAt_21 (by decide) (fun hc_4 => ?_) (fun hc_4 => ?_)
        · have hf := vm_pos hc_4 hf
          refine lv_aload_n hx hb dX2_cellAt_26 rfl (lv_at hl 0 rfl) ?_
          refine va_get (D := Γ.1) (ci := 2) (v := .int columns) (C := RX2) (T := TX2) (N := 5) hx hb hts hi2 hown hK hP 0 rfl rfl 0 (by decide) (hts (.fieldLink RX2 24 "SandPlates$Plate" "columns" "I") (List.mem_of_getElem? (i := 1) rfl)) (fun _ h9 => h9) rfl dX2_cellAt_27 ?_
          refine lv_iload_n hx hb dX2_cellAt_30 rfl (lv_at hl 2 rfl) ?_
          refine lv_imul hx hb dX2_cellAt_31 ?_
          refine lv_iload_n hx hb dX2_cellAt_32 rfl (lv_at hl 1 rfl) ?_
          refine lv_iadd hx hb dX2_cellAt_33 ?_
          subst hout; obtain rfl := Option.some.inj hf
          subst hQQ
          exact W.iret hx hb hr (fun t ht hW => ⟨⟨_, (), rfl, rfl, by rw [ht]; exact hP, hD⟩, hS.F ht⟩) hS.2.2 dX2_cellAt_34
        · have hf := vm_neg hc_4 hf
          exact K_24  hP hD hS (lv_sub hl [] rfl) hf
def wd_X2_layGrains (Γ : GE) (q0 q1 d0 d1 : Nat) (columns : Int32) (rows : Int32) (grains : Nat → Int32) : va_W := [(q0, .inr (2, [.int columns, .int rows, .ref d0, .ref d1, .ref q1])), (q1, .inl (Γ.2.1 0, 36, .inl grains))]
def f_X2_layGrains (grains : Nat → Int32) : Option (Nat → Int32) := ob1 (f_J7_fill_53178 36 grains 1) (fun grains_1 => some grains_1)
set_option maxHeartbeats 4000000 in
set_option maxRecDepth 100000 in
theorem c_X2_layGrains (l : Launch) (Γ : GE) (sz : Nat) (q0 q1 d0 d1 : Nat) (columns : Int32) (rows : Int32) (grains : Nat → Int32) (o_grains : Nat → Int32) (hf : f_X2_layGrains grains = some o_grains) : MetV l yX2_layGrains wsX2_layGrains ({ frames := 1, cells := 0, slots := 0, locals := 23 } : Room) Γ [.ref q0] (wd_X2_layGrains Γ q0 q1 d0 d1 columns rows grains) (wd_X2_layGrains Γ q0 q1 d0 d1 columns rows o_grains) sz := by
  refine Met.ofW (cc := cX2_layGrains) (maxL := 1) (ret := none) (by decide) rfl ?_
  intro p e s m args below meth c s₁ B hml hv
  obtain ⟨rfl, hsz, hE, hP, hD⟩ := hv
  have hx := B.exec
  have hb := B.bytes
  have hr := B.returns
  have hts := atoms_spec (ws := wsX2_layGrains) B.pre
  have hown : s.vm.findClass RX2 = some m.cls := findClass_of_methodNamed B.named
  have hlocks := B.notSynchronized
  subst hsz
  generalize hAe : va_A (wd_X2_layGrains Γ q0 q1 d0 d1 columns rows grains) s.heap.size = A at hE hD ⊢
  have hA : ∀ q : Nat, s.heap.size ≤ q → A q := fun q h => by rw [← hAe]; exact Or.inr h
  clear hAe
  have hS : va_S A s.heap s.heap [] := va_S.rf
  have hK := hE.1
  have hl := lv_entry ([.ref q0]) (n := 1) (Nat.le_of_ble_eq_true rfl)
  rw [lg_entry_eq]
  generalize (lg_sl ([.ref q0]) ++ List.replicate (1 - (lg_sl ([.ref q0])).length) Slot.unset).toArray = ls at hl ⊢
  have hl : lv_has ls 1 [(0, .ref q0)] := hl
  have hi2 : ∀ w ∈ u_ws RX2 TX2 5, w ∈ wsX2_layGrains := fun w h => (List.mem_cons_of_mem _ (List.mem_append_right _ h))
  obtain ⟨out, hout⟩ : ∃ o, o = o_grains := ⟨_, rfl⟩
  rw [← hout] at hf
  obtain ⟨QQ, hQQ⟩ : ∃ Q, Q = MQ below (va_Qv (fun _ : Unit => True) (CQ Γ (wd_X2_layGrains Γ q0 q1 d0 d1 columns rows o_grains) A) A) (([.ref q0] : List Value).toArray) s 0 0 A := ⟨_, rfl⟩
  show W p l e ({ frames := 1, cells := 0, slots := 0, locals := 23 } : Room) s m (([.ref q0] : List Value).toArray) below meth c s.heap [] 0 0 (MQ below _ (([.ref q0] : List Value).toArray) s 0 0 A) (F0 m 0 ls [])
  rw [← hQQ]
  unfold f_X2_layGrains at hf
  refine lv_aload_n hx hb dX2_layGrains_0 rfl (lv_at hl 0 rfl) ?_
  refine va_get (D := Γ.1) (ci := 2) (v := .ref q1) (C := RX2) (T := TX2) (N := 5) hx hb hts hi2 hown hK hP 0 rfl rfl 4 (by decide) (hts (.fieldLink RX2 18 "SandPlates$Plate" "grains" "[I") (List.mem_of_getElem? (i := 1) rfl)) (fun _ h9 => h9) rfl dX2_layGrains_1 ?_
  refine lv_iconst (v := 1) hx hb dX2_layGrains_4 (by decide) ?_
  obtain ⟨grains_1, hq_2, hf⟩ := ob1_some hf
  refine vm_cSv (isC := [1]) (wc := (wd_J7_fill_53178 Γ q1 36 grains)) (w1 := (wd_J7_fill_53178 Γ q1 36 grains_1)) (As := [.ref q1, .int 1]) (rest := []) ⟨hx, hb, hml, hown, hts⟩ hE hP hD hS hA rfl rfl rfl (c_J7_fill_53178 l Γ _ q1 36 grains 1 grains_1 hq_2) (va_cwS 2 hts gX2_layGrains_J7_fill_53178 rfl rfl rfl (by decide +kernel) ⟨Nat.le_of_ble_eq_true rfl, Nat.le_of_ble_eq_true rfl⟩) rfl hl.1 rfl (Nat.le_of_ble_eq_true rfl) dX2_layGrains_5 ⟨Nat.zero_le _, Nat.zero_le _⟩ (fun H locs hP hD hS => ?_)
  have hP : va_P Γ.1 vwCl (wd_X2_layGrains Γ q0 q1 d0 d1 columns rows grains_1) H := hP
  have hD : va_D A (wd_X2_layGrains Γ q0 q1 d0 d1 columns rows grains_1) := hD
  subst hout; obtain rfl := Option.some.inj hf
  subst hQQ
  exact W.vret hx hb hr (fun t ht hW => ⟨⟨(), rfl, trivial, by rw [ht]; exact hP, hD⟩, hS.F ht⟩) hS.2.2 dX2_layGrains_8
def wd_X2_beAsAtFirst (Γ : GE) (q0 q1 q2 q3 : Nat) (columns : Int32) (rows : Int32) (numbers : Nat → Int32) (figure : Nat → Int32) (grains : Nat → Int32) : va_W := [(q0, .inr (2, [.int columns, .int rows, .ref q1, .ref q2, .ref q3])), (q1, .inl (Γ.2.1 0, 7, .inl numbers)), (q2, .inl (Γ.2.1 0, 36, .inl figure)), (q3, .inl (Γ.2.1 0, 36, .inl grains))]
def f_X2_beAsAtFirst (numbers : Nat → Int32) (figure : Nat → Int32) (grains : Nat → Int32) : Option (Int32 × Int32 × (Nat → Int32) × (Nat → Int32) × (Nat → Int32)) := ob1 (f_J7_fill_53178 36 figure 0) (fun figure_1 => ob1 (f_X2_layGrains grains) (fun grains_3 => some (3, 3, (va_cpy tbl0 numbers 0 0 7), figure_1, grains_3)))
set_option maxHeartbeats 4000000 in
set_option maxRecDepth 100000 in
theorem c_X2_beAsAtFirst (l : Launch) (Γ : GE) (sz : Nat) (q0 q1 q2 q3 : Nat) (columns : Int32) (rows : Int32) (numbers : Nat → Int32) (figure : Nat → Int32) (grains : Nat → Int32) (o_columns : Int32) (o_rows : Int32) (o_numbers : Nat → Int32) (o_figure : Nat → Int32) (o_grains : Nat → Int32) (hf : f_X2_beAsAtFirst numbers figure grains = some (o_columns, o_rows, o_numbers, o_figure, o_grains)) : MetV l yX2_beAsAtFirst wsX2_beAsAtFirst ({ frames := 2, cells := 0, slots := 0, locals := 48 } : Room) Γ [.ref q0] (wd_X2_beAsAtFirst Γ q0 q1 q2 q3 columns rows numbers figure grains) (wd_X2_beAsAtFirst Γ q0 q1 q2 q3 o_columns o_rows o_numbers o_figure o_grains) sz := by
  refine Met.ofW (cc := cX2_beAsAtFirst) (maxL := 1) (ret := none) (by decide) rfl ?_
  intro p e s m args below meth c s₁ B hml hv
  obtain ⟨rfl, hsz, hE, hP, hD⟩ := hv
  have hx := B.exec
  have hb := B.bytes
  have hr := B.returns
  have hts := atoms_spec (ws := wsX2_beAsAtFirst) B.pre
  have hown : s.vm.findClass RX2 = some m.cls := findClass_of_methodNamed B.named
  have hlocks := B.notSynchronized
  subst hsz
  generalize hAe : va_A (wd_X2_beAsAtFirst Γ q0 q1 q2 q3 columns rows numbers figure grains) s.heap.size = A at hE hD ⊢
  have hA : ∀ q : Nat, s.heap.size ≤ q → A q := fun q h => by rw [← hAe]; exact Or.inr h
  clear hAe
  have hS : va_S A s.heap s.heap [] := va_S.rf
  have hK := hE.1
  have hl := lv_entry ([.ref q0]) (n := 1) (Nat.le_of_ble_eq_true rfl)
  rw [lg_entry_eq]
  generalize (lg_sl ([.ref q0]) ++ List.replicate (1 - (lg_sl ([.ref q0])).length) Slot.unset).toArray = ls at hl ⊢
  have hl : lv_has ls 1 [(0, .ref q0)] := hl
  have hi2 : ∀ w ∈ u_ws RX2 TX2 5, w ∈ wsX2_beAsAtFirst := fun w h => (List.mem_cons_of_mem _ (List.mem_append_right _ h))
  obtain ⟨out, hout⟩ : ∃ o, o = (o_columns, o_rows, o_numbers, o_figure, o_grains) := ⟨_, rfl⟩
  rw [← hout] at hf
  obtain ⟨QQ, hQQ⟩ : ∃ Q, Q = MQ below (va_Qv (fun _ : Unit => True) (CQ Γ (wd_X2_beAsAtFirst Γ q0 q1 q2 q3 o_columns o_rows o_numbers o_figure o_grains) A) A) (([.ref q0] : List Value).toArray) s 0 0 A := ⟨_, rfl⟩
  show W p l e ({ frames := 2, cells := 0, slots := 0, locals := 48 } : Room) s m (([.ref q0] : List Value).toArray) below meth c s.heap [] 0 0 (MQ below _ (([.ref q0] : List Value).toArray) s 0 0 A) (F0 m 0 ls [])
  rw [← hQQ]
  unfold f_X2_beAsAtFirst at hf
  refine lv_aload_n hx hb dX2_beAsAtFirst_0 rfl (lv_at hl 0 rfl) ?_
  refine lv_iconst (v := 3) hx hb dX2_beAsAtFirst_1 (by decide) ?_
  refine va_put (D := Γ.1) (ci := 2) (v := .int 3) (ty := .int) (C := RX2) (T := TX2) (N := 5) hx hb hts hi2 tyX2 tyX2_ok nmX2 hown hK hP hD hS 0 rfl rfl 0 (by decide) (hts (.fieldLink RX2 24 "SandPlates$Plate" "columns" "I") (List.mem_of_getElem? (i := 1) rfl)) (fun _ h9 => h9) rfl (by decide +kernel) rfl rfl (Nat.le_of_ble_eq_true rfl) dX2_beAsAtFirst_2 (fun H locs hP hD hS => ?_)
  have hP : va_P Γ.1 vwCl (wd_X2_beAsAtFirst Γ q0 q1 q2 q3 3 rows numbers figure grains) H := hP
  have hD : va_D A (wd_X2_beAsAtFirst Γ q0 q1 q2 q3 3 rows numbers figure grains) := hD
  refine lv_aload_n hx hb dX2_beAsAtFirst_5 rfl (lv_at hl 0 rfl) ?_
  refine lv_iconst (v := 3) hx hb dX2_beAsAtFirst_6 (by decide) ?_
  refine va_put (D := Γ.1) (ci := 2) (v := .int 3) (ty := .int) (C := RX2) (T := TX2) (N := 5) hx hb hts hi2 tyX2 tyX2_ok nmX2 hown hK hP hD hS 0 rfl rfl 1 (by decide) (hts (.fieldLink RX2 28 "SandPlates$Plate" "rows" "I") (List.mem_of_getElem? (i := 2) rfl)) (fun _ h9 => h9) rfl (by decide +kernel) rfl rfl (Nat.le_of_ble_eq_true rfl) dX2_beAsAtFirst_7 (fun H locs hP hD hS => ?_)
  have hP : va_P Γ.1 vwCl (wd_X2_beAsAtFirst Γ q0 q1 q2 q3 3 3 numbers figure grains) H := hP
  have hD : va_D A (wd_X2_beAsAtFirst Γ q0 q1 q2 q3 3 3 numbers figure grains) := hD
  refine va_getsN hx hb hE.2.2.1.1.1 hS hown (va_Nw.use rfl (nfX2_31 hE.2.1)) (fun _ h9 => h9) dX2_beAsAtFirst_10 ?_
  refine lv_iconst (v := 0) hx hb dX2_beAsAtFirst_13 (by decide) ?_
  refine lv_aload_n hx hb dX2_beAsAtFirst_14 rfl (lv_at hl 0 rfl) ?_
  refine va_get (D := Γ.1) (ci := 2) (v := .ref q1) (C := RX2) (T := TX2) (N := 5) hx hb hts hi2 hown hK hP 0 rfl rfl 2 (by decide) (hts (.fieldLink RX2 9 "SandPlates$Plate" "numbers" "[I") (List.mem_of_getElem? (i := 3) rfl)) (fun _ h9 => h9) rfl dX2_beAsAtFirst_15 ?_
  refine lv_iconst (v := 0) hx hb dX2_beAsAtFirst_18 (by decide) ?_
  refine lv_bipush (v := 7) hx hb dX2_beAsAtFirst_19 (by decide) ?_
  refine vm_copyt hx hb (hml.trans hl.1.symm) hown (hts (.methodLink RX2 34 arraycopyName) (List.mem_of_getElem? (i := 4) rfl)) (hts (.native arraycopyName) (List.mem_of_getElem? (i := 5) rfl)) (hts (.static arraycopyName) (List.mem_of_getElem? (i := 6) rfl)) (hts (.initialized "java/lang/System") (List.mem_of_getElem? (i := 7) rfl)) hK hP hD hS hE.2.2.1.1.2 1 0 rfl rfl (sp := 0) (dp := 0) (n := 7) (sn := 0) (dn := 0) (nn := 7) rfl rfl rfl (by decide) (by decide) (by decide) (Nat.le_of_ble_eq_true rfl) (Nat.le_of_ble_eq_true rfl) (Nat.le_of_ble_eq_true rfl) (Nat.le_of_ble_eq_true rfl) dX2_beAsAtFirst_21 (fun H locs hP hD hS => ?_)
  have hP : va_P Γ.1 vwCl (wd_X2_beAsAtFirst Γ q0 q1 q2 q3 3 3 (va_cpy tbl0 numbers 0 0 7) figure grains) H := hP
  have hD : va_D A (wd_X2_beAsAtFirst Γ q0 q1 q2 q3 3 3 (va_cpy tbl0 numbers 0 0 7) figure grains) := hD
  refine lv_aload_n hx hb dX2_beAsAtFirst_24 rfl (lv_at hl 0 rfl) ?_
  refine va_get (D := Γ.1) (ci := 2) (v := .ref q2) (C := RX2) (T := TX2) (N := 5) hx hb hts hi2 hown hK hP 0 rfl rfl 3 (by decide) (hts (.fieldLink RX2 15 "SandPlates$Plate" "figure" "[I") (List.mem_of_getElem? (i := 8) rfl)) (fun _ h9 => h9) rfl dX2_beAsAtFirst_25 ?_
  refine lv_iconst (v := 0) hx hb dX2_beAsAtFirst_28 (by decide) ?_
  obtain ⟨figure_1, hq_2, hf⟩ := ob1_some hf
  refine vm_cSv (isC := [2]) (wc := (wd_J7_fill_53178 Γ q2 36 figure)) (w1 := (wd_J7_fill_53178 Γ q2 36 figure_1)) (As := [.ref q2, .int 0]) (rest := []) ⟨hx, hb, hml, hown, hts⟩ hE hP hD hS hA rfl rfl rfl (c_J7_fill_53178 l Γ _ q2 36 figure 0 figure_1 hq_2) (va_cwS 2 hts gX2_beAsAtFirst_J7_fill_53178 rfl rfl rfl (by decide +kernel) ⟨Nat.le_of_ble_eq_true rfl, Nat.le_of_ble_eq_true rfl⟩) rfl hl.1 rfl (Nat.le_of_ble_eq_true rfl) dX2_beAsAtFirst_29 ⟨Nat.zero_le _, Nat.zero_le _⟩ (fun H locs hP hD hS => ?_)
  have hP : va_P Γ.1 vwCl (wd_X2_beAsAtFirst Γ q0 q1 q2 q3 3 3 (va_cpy tbl0 numbers 0 0 7) figure_1 grains) H := hP
  have hD : va_D A (wd_X2_beAsAtFirst Γ q0 q1 q2 q3 3 3 (va_cpy tbl0 numbers 0 0 7) figure_1 grains) := hD
  refine lv_aload_n hx hb dX2_beAsAtFirst_32 rfl (lv_at hl 0 rfl) ?_
  obtain ⟨grains_3, hq_4, hf⟩ := ob1_some hf
  refine vm_cVv (isC := [0, 3]) (wc := (wd_X2_layGrains Γ q0 q3 q1 q2 3 3 grains)) (w1 := (wd_X2_layGrains Γ q0 q3 q1 q2 3 3 grains_3)) (As := []) (rest := []) ⟨hx, hb, hml, hown, hts⟩ hE hP hD hS hA rfl rfl rfl (c_X2_layGrains l Γ _ q0 q3 q1 q2 3 3 grains grains_3 hq_4) (cwV 0 hts gX2_beAsAtFirst_X2_layGrains rfl rfl rfl (by decide +kernel) ⟨Nat.le_of_ble_eq_true rfl, Nat.le_of_ble_eq_true rfl⟩) (va_recv (ci := 2) (q0 := 0) hK hP rfl rfl) rfl hl.1 rfl (Nat.le_of_ble_eq_true rfl) dX2_beAsAtFirst_33 ⟨Nat.zero_le _, Nat.zero_le _⟩ (fun H locs hP hD hS => ?_)
  have hP : va_P Γ.1 vwCl (wd_X2_beAsAtFirst Γ q0 q1 q2 q3 3 3 (va_cpy tbl0 numbers 0 0 7) figure_1 grains_3) H := hP
  have hD : va_D A (wd_X2_beAsAtFirst Γ q0 q1 q2 q3 3 3 (va_cpy tbl0 numbers 0 0 7) figure_1 grains_3) := hD
  subst hout; obtain ⟨rfl, rfl, rfl, rfl, rfl⟩ := rt5 hf
  subst hQQ
  exact W.vret hx hb hr (fun t ht hW => ⟨⟨(), rfl, trivial, by rw [ht]; exact hP, hD⟩, hS.F ht⟩) hS.2.2 dX2_beAsAtFirst_36
def wd_X2_takeFrom (Γ : GE) (q0 q1 q2 q3 q4 q5 q6 q7 : Nat) (columns : Int32) (rows : Int32) (numbers : Nat → Int32) (figure : Nat → Int32) (grains : Nat → Int32) (p1_columns : Int32) (p1_rows : Int32) (p1_numbers : Nat → Int32) (p1_figure : Nat → Int32) (p1_grains : Nat → Int32) : va_W := [(q0, .inr (2, [.int columns, .int rows, .ref q1, .ref q2, .ref q3])), (q1, .inl (Γ.2.1 0, 7, .inl numbers)), (q2, .inl (Γ.2.1 0, 36, .inl figure)), (q3, .inl (Γ.2.1 0, 36, .inl grains)), (q4, .inr (2, [.int p1_columns, .int p1_rows, .ref q5, .ref q6, .ref q7])), (q5, .inl (Γ.2.1 0, 7, .inl p1_numbers)), (q6, .inl (Γ.2.1 0, 36, .inl p1_figure)), (q7, .inl (Γ.2.1 0, 36, .inl p1_grains))]
def f_X2_takeFrom (numbers : Nat → Int32) (figure : Nat → Int32) (grains : Nat → Int32) (p1_columns : Int32) (p1_rows : Int32) (p1_numbers : Nat → Int32) (p1_figure : Nat → Int32) (p1_grains : Nat → Int32) : Option (Int32 × Int32 × (Nat → Int32) × (Nat → Int32) × (Nat → Int32)) := some (p1_columns, p1_rows, (va_cpy p1_numbers numbers 0 0 7), (va_cpy p1_figure figure 0 0 36), (va_cpy p1_grains grains 0 0 36))
set_option maxHeartbeats 4000000 in
set_option maxRecDepth 100000 in
theorem c_X2_takeFrom (l : Launch) (Γ : GE) (sz : Nat) (q0 q1 q2 q3 q4 q5 q6 q7 : Nat) (columns : Int32) (rows : Int32) (numbers : Nat → Int32) (figure : Nat → Int32) (grains : Nat → Int32) (p1_columns : Int32) (p1_rows : Int32) (p1_numbers : Nat → Int32) (p1_figure : Nat → Int32) (p1_grains : Nat → Int32) (o_columns : Int32) (o_rows : Int32) (o_numbers : Nat → Int32) (o_figure : Nat → Int32) (o_grains : Nat → Int32) (hf : f_X2_takeFrom numbers figure grains p1_columns p1_rows p1_numbers p1_figure p1_grains = some (o_columns, o_rows, o_numbers, o_figure, o_grains)) : MetV l yX2_takeFrom wsX2_takeFrom ({ frames := 1, cells := 0, slots := 0, locals := 48 } : Room) Γ [.ref q0, .ref q4] (wd_X2_takeFrom Γ q0 q1 q2 q3 q4 q5 q6 q7 columns rows numbers figure grains p1_columns p1_rows p1_numbers p1_figure p1_grains) (wd_X2_takeFrom Γ q0 q1 q2 q3 q4 q5 q6 q7 o_columns o_rows o_numbers o_figure o_grains p1_columns p1_rows p1_numbers p1_figure p1_grains) sz := by
  refine Met.ofW (cc := cX2_takeFrom) (maxL := 2) (ret := none) (by decide) rfl ?_
  intro p e s m args below meth c s₁ B hml hv
  obtain ⟨rfl, hsz, hE, hP, hD⟩ := hv
  have hx := B.exec
  have hb := B.bytes
  have hr := B.returns
  have hts := atoms_spec (ws := wsX2_takeFrom) B.pre
  have hown : s.vm.findClass RX2 = some m.cls := findClass_of_methodNamed B.named
  have hlocks := B.notSynchronized
  subst hsz
  generalize hAe : va_A (wd_X2_takeFrom Γ q0 q1 q2 q3 q4 q5 q6 q7 columns rows numbers figure grains p1_columns p1_rows p1_numbers p1_figure p1_grains) s.heap.size = A at hE hD ⊢
  have hA : ∀ q : Nat, s.heap.size ≤ q → A q := fun q h => by rw [← hAe]; exact Or.inr h
  clear hAe
  have hS : va_S A s.heap s.heap [] := va_S.rf
  have hK := hE.1
  have hl := lv_entry ([.ref q0, .ref q4]) (n := 2) (Nat.le_of_ble_eq_true rfl)
  rw [lg_entry_eq]
  generalize (lg_sl ([.ref q0, .ref q4]) ++ List.replicate (2 - (lg_sl ([.ref q0, .ref q4])).length) Slot.unset).toArray = ls at hl ⊢
  have hl : lv_has ls 2 [(0, .ref q0), (1, .ref q4)] := hl
  have hi2 : ∀ w ∈ u_ws RX2 TX2 5, w ∈ wsX2_takeFrom := fun w h => (List.mem_cons_of_mem _ (List.mem_append_right _ h))
  obtain ⟨out, hout⟩ : ∃ o, o = (o_columns, o_rows, o_numbers, o_figure, o_grains) := ⟨_, rfl⟩
  rw [← hout] at hf
  obtain ⟨QQ, hQQ⟩ : ∃ Q, Q = MQ below (va_Qv (fun _ : Unit => True) (CQ Γ (wd_X2_takeFrom Γ q0 q1 q2 q3 q4 q5 q6 q7 o_columns o_rows o_numbers o_figure o_grains p1_columns p1_rows p1_numbers p1_figure p1_grains) A) A) (([.ref q0, .ref q4] : List Value).toArray) s 0 0 A := ⟨_, rfl⟩
  show W p l e ({ frames := 1, cells := 0, slots := 0, locals := 48 } : Room) s m (([.ref q0, .ref q4] : List Value).toArray) below meth c s.heap [] 0 0 (MQ below _ (([.ref q0, .ref q4] : List Value).toArray) s 0 0 A) (F0 m 0 ls [])
  rw [← hQQ]
  unfold f_X2_takeFrom at hf
  refine lv_aload_n hx hb dX2_takeFrom_0 rfl (lv_at hl 0 rfl) ?_
  refine lv_aload_n hx hb dX2_takeFrom_1 rfl (lv_at hl 1 rfl) ?_
  refine va_get (D := Γ.1) (ci := 2) (v := .int p1_columns) (C := RX2) (T := TX2) (N := 5) hx hb hts hi2 hown hK hP 4 rfl rfl 0 (by decide) (hts (.fieldLink RX2 24 "SandPlates$Plate" "columns" "I") (List.mem_of_getElem? (i := 1) rfl)) (fun _ h9 => h9) rfl dX2_takeFrom_2 ?_
  refine va_put (D := Γ.1) (ci := 2) (v := .int p1_columns) (ty := .int) (C := RX2) (T := TX2) (N := 5) hx hb hts hi2 tyX2 tyX2_ok nmX2 hown hK hP hD hS 0 rfl rfl 0 (by decide) (hts (.fieldLink RX2 24 "SandPlates$Plate" "columns" "I") (List.mem_of_getElem? (i := 1) rfl)) (fun _ h9 => h9) rfl (by decide +kernel) rfl rfl (Nat.le_of_ble_eq_true rfl) dX2_takeFrom_5 (fun H locs hP hD hS => ?_)
  have hP : va_P Γ.1 vwCl (wd_X2_takeFrom Γ q0 q1 q2 q3 q4 q5 q6 q7 p1_columns rows numbers figure grains p1_columns p1_rows p1_numbers p1_figure p1_grains) H := hP
  have hD : va_D A (wd_X2_takeFrom Γ q0 q1 q2 q3 q4 q5 q6 q7 p1_columns rows numbers figure grains p1_columns p1_rows p1_numbers p1_figure p1_grains) := hD
  refine lv_aload_n hx hb dX2_takeFrom_8 rfl (lv_at hl 0 rfl) ?_
  refine lv_aload_n hx hb dX2_takeFrom_9 rfl (lv_at hl 1 rfl) ?_
  refine va_get (D := Γ.1) (ci := 2) (v := .int p1_rows) (C := RX2) (T := TX2) (N := 5) hx hb hts hi2 hown hK hP 4 rfl rfl 1 (by decide) (hts (.fieldLink RX2 28 "SandPlates$Plate" "rows" "I") (List.mem_of_getElem? (i := 2) rfl)) (fun _ h9 => h9) rfl dX2_takeFrom_10 ?_
  refine va_put (D := Γ.1) (ci := 2) (v := .int p1_rows) (ty := .int) (C := RX2) (T := TX2) (N := 5) hx hb hts hi2 tyX2 tyX2_ok nmX2 hown hK hP hD hS 0 rfl rfl 1 (by decide) (hts (.fieldLink RX2 28 "SandPlates$Plate" "rows" "I") (List.mem_of_getElem? (i := 2) rfl)) (fun _ h9 => h9) rfl (by decide +kernel) rfl rfl (Nat.le_of_ble_eq_true rfl) dX2_takeFrom_13 (fun H locs hP hD hS => ?_)
  have hP : va_P Γ.1 vwCl (wd_X2_takeFrom Γ q0 q1 q2 q3 q4 q5 q6 q7 p1_columns p1_rows numbers figure grains p1_columns p1_rows p1_numbers p1_figure p1_grains) H := hP
  have hD : va_D A (wd_X2_takeFrom Γ q0 q1 q2 q3 q4 q5 q6 q7 p1_columns p1_rows numbers figure grains p1_columns p1_rows p1_numbers p1_figure p1_grains) := hD
  refine lv_aload_n hx hb dX2_takeFrom_16 rfl (lv_at hl 1 rfl) ?_
  refine va_get (D := Γ.1) (ci := 2) (v := .ref q5) (C := RX2) (T := TX2) (N := 5) hx hb hts hi2 hown hK hP 4 rfl rfl 2 (by decide) (hts (.fieldLink RX2 9 "SandPlates$Plate" "numbers" "[I") (List.mem_of_getElem? (i := 3) rfl)) (fun _ h9 => h9) rfl dX2_takeFrom_17 ?_
  refine lv_iconst (v := 0) hx hb dX2_takeFrom_20 (by decide) ?_
  refine lv_aload_n hx hb dX2_takeFrom_21 rfl (lv_at hl 0 rfl) ?_
  refine va_get (D := Γ.1) (ci := 2) (v := .ref q1) (C := RX2) (T := TX2) (N := 5) hx hb hts hi2 hown hK hP 0 rfl rfl 2 (by decide) (hts (.fieldLink RX2 9 "SandPlates$Plate" "numbers" "[I") (List.mem_of_getElem? (i := 3) rfl)) (fun _ h9 => h9) rfl dX2_takeFrom_22 ?_
  refine lv_iconst (v := 0) hx hb dX2_takeFrom_25 (by decide) ?_
  refine lv_bipush (v := 7) hx hb dX2_takeFrom_26 (by decide) ?_
  refine vm_copyi hx hb (hml.trans hl.1.symm) hown (hts (.methodLink RX2 34 arraycopyName) (List.mem_of_getElem? (i := 4) rfl)) (hts (.native arraycopyName) (List.mem_of_getElem? (i := 5) rfl)) (hts (.static arraycopyName) (List.mem_of_getElem? (i := 6) rfl)) (hts (.initialized "java/lang/System") (List.mem_of_getElem? (i := 7) rfl)) hK hP hD hS 5 1 0 0 rfl rfl rfl rfl rfl (sp := 0) (dp := 0) (n := 7) (sn := 0) (dn := 0) (nn := 7) rfl rfl rfl (by decide) (by decide) (by decide) (Nat.le_of_ble_eq_true rfl) (Nat.le_of_ble_eq_true rfl) (Nat.le_of_ble_eq_true rfl) (Nat.le_of_ble_eq_true rfl) dX2_takeFrom_28 (fun H locs hP hD hS => ?_)
  have hP : va_P Γ.1 vwCl (wd_X2_takeFrom Γ q0 q1 q2 q3 q4 q5 q6 q7 p1_columns p1_rows (va_cpy p1_numbers numbers 0 0 7) figure grains p1_columns p1_rows p1_numbers p1_figure p1_grains) H := hP
  have hD : va_D A (wd_X2_takeFrom Γ q0 q1 q2 q3 q4 q5 q6 q7 p1_columns p1_rows (va_cpy p1_numbers numbers 0 0 7) figure grains p1_columns p1_rows p1_numbers p1_figure p1_grains) := hD
  refine lv_aload_n hx hb dX2_takeFrom_31 rfl (lv_at hl 1 rfl) ?_
  refine va_get (D := Γ.1) (ci := 2) (v := .ref q6) (C := RX2) (T := TX2) (N := 5) hx hb hts hi2 hown hK hP 4 rfl rfl 3 (by decide) (hts (.fieldLink RX2 15 "SandPlates$Plate" "figure" "[I") (List.mem_of_getElem? (i := 8) rfl)) (fun _ h9 => h9) rfl dX2_takeFrom_32 ?_
  refine lv_iconst (v := 0) hx hb dX2_takeFrom_35 (by decide) ?_
  refine lv_aload_n hx hb dX2_takeFrom_36 rfl (lv_at hl 0 rfl) ?_
  refine va_get (D := Γ.1) (ci := 2) (v := .ref q2) (C := RX2) (T := TX2) (N := 5) hx hb hts hi2 hown hK hP 0 rfl rfl 3 (by decide) (hts (.fieldLink RX2 15 "SandPlates$Plate" "figure" "[I") (List.mem_of_getElem? (i := 8) rfl)) (fun _ h9 => h9) rfl dX2_takeFrom_37 ?_
  refine lv_iconst (v := 0) hx hb dX2_takeFrom_40 (by decide) ?_
  refine lv_bipush (v := 36) hx hb dX2_takeFrom_41 (by decide) ?_
  refine vm_copyi hx hb (hml.trans hl.1.symm) hown (hts (.methodLink RX2 34 arraycopyName) (List.mem_of_getElem? (i := 4) rfl)) (hts (.native arraycopyName) (List.mem_of_getElem? (i := 5) rfl)) (hts (.static arraycopyName) (List.mem_of_getElem? (i := 6) rfl)) (hts (.initialized "java/lang/System") (List.mem_of_getElem? (i := 7) rfl)) hK hP hD hS 6 2 0 0 rfl rfl rfl rfl rfl (sp := 0) (dp := 0) (n := 36) (sn := 0) (dn := 0) (nn := 36) rfl rfl rfl (by decide) (by decide) (by decide) (Nat.le_of_ble_eq_true rfl) (Nat.le_of_ble_eq_true rfl) (Nat.le_of_ble_eq_true rfl) (Nat.le_of_ble_eq_true rfl) dX2_takeFrom_43 (fun H locs hP hD hS => ?_)
  have hP : va_P Γ.1 vwCl (wd_X2_takeFrom Γ q0 q1 q2 q3 q4 q5 q6 q7 p1_columns p1_rows (va_cpy p1_numbers numbers 0 0 7) (va_cpy p1_figure figure 0 0 36) grains p1_columns p1_rows p1_numbers p1_figure p1_grains) H := hP
  have hD : va_D A (wd_X2_takeFrom Γ q0 q1 q2 q3 q4 q5 q6 q7 p1_columns p1_rows (va_cpy p1_numbers numbers 0 0 7) (va_cpy p1_figure figure 0 0 36) grains p1_columns p1_rows p1_numbers p1_figure p1_grains) := hD
  refine lv_aload_n hx hb dX2_takeFrom_46 rfl (lv_at hl 1 rfl) ?_
  refine va_get (D := Γ.1) (ci := 2) (v := .ref q7) (C := RX2) (T := TX2) (N := 5) hx hb hts hi2 hown hK hP 4 rfl rfl 4 (by decide) (hts (.fieldLink RX2 18 "SandPlates$Plate" "grains" "[I") (List.mem_of_getElem? (i := 9) rfl)) (fun _ h9 => h9) rfl dX2_takeFrom_47 ?_
  refine lv_iconst (v := 0) hx hb dX2_takeFrom_50 (by decide) ?_
  refine lv_aload_n hx hb dX2_takeFrom_51 rfl (lv_at hl 0 rfl) ?_
  refine va_get (D := Γ.1) (ci := 2) (v := .ref q3) (C := RX2) (T := TX2) (N := 5) hx hb hts hi2 hown hK hP 0 rfl rfl 4 (by decide) (hts (.fieldLink RX2 18 "SandPlates$Plate" "grains" "[I") (List.mem_of_getElem? (i := 9) rfl)) (fun _ h9 => h9) rfl dX2_takeFrom_52 ?_
  refine lv_iconst (v := 0) hx hb dX2_takeFrom_55 (by decide) ?_
  refine lv_bipush (v := 36) hx hb dX2_takeFrom_56 (by decide) ?_
  refine vm_copyi hx hb (hml.trans hl.1.symm) hown (hts (.methodLink RX2 34 arraycopyName) (List.mem_of_getElem? (i := 4) rfl)) (hts (.native arraycopyName) (List.mem_of_getElem? (i := 5) rfl)) (hts (.static arraycopyName) (List.mem_of_getElem? (i := 6) rfl)) (hts (.initialized "java/lang/System") (List.mem_of_getElem? (i := 7) rfl)) hK hP hD hS 7 3 0 0 rfl rfl rfl rfl rfl (sp := 0) (dp := 0) (n := 36) (sn := 0) (dn := 0) (nn := 36) rfl rfl rfl (by decide) (by decide) (by decide) (Nat.le_of_ble_eq_true rfl) (Nat.le_of_ble_eq_true rfl) (Nat.le_of_ble_eq_true rfl) (Nat.le_of_ble_eq_true rfl) dX2_takeFrom_58 (fun H locs hP hD hS => ?_)
  have hP : va_P Γ.1 vwCl (wd_X2_takeFrom Γ q0 q1 q2 q3 q4 q5 q6 q7 p1_columns p1_rows (va_cpy p1_numbers numbers 0 0 7) (va_cpy p1_figure figure 0 0 36) (va_cpy p1_grains grains 0 0 36) p1_columns p1_rows p1_numbers p1_figure p1_grains) H := hP
  have hD : va_D A (wd_X2_takeFrom Γ q0 q1 q2 q3 q4 q5 q6 q7 p1_columns p1_rows (va_cpy p1_numbers numbers 0 0 7) (va_cpy p1_figure figure 0 0 36) (va_cpy p1_grains grains 0 0 36) p1_columns p1_rows p1_numbers p1_figure p1_grains) := hD
  subst hout; obtain ⟨rfl, rfl, rfl, rfl, rfl⟩ := rt5 hf
  subst hQQ
  exact W.vret hx hb hr (fun t ht hW => ⟨⟨(), rfl, trivial, by rw [ht]; exact hP, hD⟩, hS.F ht⟩) hS.2.2 dX2_takeFrom_61
def wd_X2_cellsOfFigure (Γ : GE) (q0 q1 d0 d1 : Nat) (columns : Int32) (rows : Int32) (figure : Nat → Int32) : va_W := [(q0, .inr (2, [.int columns, .int rows, .ref d0, .ref q1, .ref d1])), (q1, .inl (Γ.2.1 0, 36, .inl figure))]
def f_X2_cellsOfFigure_27 (x1 : Int32) : Option Int32 := some x1
def f_X2_cellsOfFigure_4b (columns : Int32) (rows : Int32) (figure : Nat → Int32) (x1 : Int32) (x2 : Int32) (k : ((Int32 × Int32) → Option Int32)) : Option Int32 := ob1 (f_X2_cells columns rows) (fun r_1 => if r_1 ≤ x2 then (some x1) else (if inb x2 36 = true then k ((x1 + (figure (x2.toNatClampNeg))), (x2 + 1)) else none))
def f_X2_cellsOfFigure_4s (columns : Int32) (rows : Int32) (figure : Nat → Int32) : (Int32 × Int32) → ((Int32 × Int32) → Option Int32) → Option Int32 := fun t k => f_X2_cellsOfFigure_4b columns rows figure t.1 t.2 k
def f_X2_cellsOfFigure_4 (columns : Int32) (rows : Int32) (figure : Nat → Int32) (x1 : Int32) (x2 : Int32) : Option Int32 := obx (vm_it (f_X2_cellsOfFigure_4s columns rows figure) FU (x1, x2)) (fun x1 => f_X2_cellsOfFigure_27 x1)
def f_X2_cellsOfFigure (columns : Int32) (rows : Int32) (figure : Nat → Int32) : Option Int32 := f_X2_cellsOfFigure_4 columns rows figure 0 0
set_option maxHeartbeats 4000000 in
set_option maxRecDepth 100000 in
theorem c_X2_cellsOfFigure (l : Launch) (Γ : GE) (sz : Nat) (q0 q1 d0 d1 : Nat) (columns : Int32) (rows : Int32) (figure : Nat → Int32) (ro : Int32) (hf : f_X2_cellsOfFigure columns rows figure = some ro) : MetI l yX2_cellsOfFigure wsX2_cellsOfFigure ({ frames := 1, cells := 0, slots := 0, locals := 20 } : Room) Γ [.ref q0] (wd_X2_cellsOfFigure Γ q0 q1 d0 d1 columns rows figure) (wd_X2_cellsOfFigure Γ q0 q1 d0 d1 columns rows figure) sz ro := by
  refine Met.ofW (cc := cX2_cellsOfFigure) (maxL := 3) (ret := (some .int)) (by decide) rfl ?_
  intro p e s m args below meth c s₁ B hml hv
  obtain ⟨rfl, hsz, hE, hP, hD⟩ := hv
  have hx := B.exec
  have hb := B.bytes
  have hr := B.returns
  have hts := atoms_spec (ws := wsX2_cellsOfFigure) B.pre
  have hown : s.vm.findClass RX2 = some m.cls := findClass_of_methodNamed B.named
  have hlocks := B.notSynchronized
  subst hsz
  generalize hAe : va_A (wd_X2_cellsOfFigure Γ q0 q1 d0 d1 columns rows figure) s.heap.size = A at hE hD ⊢
  have hA : ∀ q : Nat, s.heap.size ≤ q → A q := fun q h => by rw [← hAe]; exact Or.inr h
  clear hAe
  have hS : va_S A s.heap s.heap [] := va_S.rf
  have hK := hE.1
  have hl := lv_entry ([.ref q0]) (n := 3) (Nat.le_of_ble_eq_true rfl)
  rw [lg_entry_eq]
  generalize (lg_sl ([.ref q0]) ++ List.replicate (3 - (lg_sl ([.ref q0])).length) Slot.unset).toArray = ls at hl ⊢
  have hl : lv_has ls 3 [(0, .ref q0)] := hl
  have hi2 : ∀ w ∈ u_ws RX2 TX2 5, w ∈ wsX2_cellsOfFigure := fun w h => (List.mem_cons_of_mem _ (List.mem_append_right _ h))
  obtain ⟨out, hout⟩ : ∃ o, o = ro := ⟨_, rfl⟩
  rw [← hout] at hf
  obtain ⟨QQ, hQQ⟩ : ∃ Q, Q = MQ below (va_Qi (fun (r' : Int32) (_ : Unit) => r' = ro) (CQ Γ (wd_X2_cellsOfFigure Γ q0 q1 d0 d1 columns rows figure) A) A) (([.ref q0] : List Value).toArray) s 0 0 A := ⟨_, rfl⟩
  show W p l e ({ frames := 1, cells := 0, slots := 0, locals := 20 } : Room) s m (([.ref q0] : List Value).toArray) below meth c s.heap [] 0 0 (MQ below _ (([.ref q0] : List Value).toArray) s 0 0 A) (F0 m 0 ls [])
  rw [← hQQ]
  have K_27 : ∀ (x1 : Int32) {H : Heap} {locs : List Loc} {ls : Array Slot}, va_P Γ.1 vwCl (wd_X2_cellsOfFigure Γ q0 q1 d0 d1 columns rows figure) H → va_D A (wd_X2_cellsOfFigure Γ q0 q1 d0 d1 columns rows figure) → va_S A s.heap H locs → lv_has ls 3 [(1, .int x1)] → f_X2_cellsOfFigure_27 x1 = some out → W p l e ({ frames := 1, cells := 0, slots := 0, locals := 20 } : Room) s m ([.ref q0] : List Value).toArray below meth c H locs 0 0 QQ (F0 m 27 ls []) := by
    intro x1 H locs ls hP hD hS hl hf
    unfold f_X2_cellsOfFigure_27 at hf
    refine lv_iload_n hx hb dX2_cellsOfFigure_27 rfl (lv_at hl 0 rfl) ?_
    subst hout; obtain rfl := Option.some.inj hf
    subst hQQ
    exact W.iret hx hb hr (fun t ht hW => ⟨⟨_, (), rfl, rfl, by rw [ht]; exact hP, hD⟩, hS.F ht⟩) hS.2.2 dX2_cellsOfFigure_28
  have K_4 : ∀ (x1 : Int32) (x2 : Int32) {H : Heap} {locs : List Loc} {ls : Array Slot}, va_P Γ.1 vwCl (wd_X2_cellsOfFigure Γ q0 q1 d0 d1 columns rows figure) H → va_D A (wd_X2_cellsOfFigure Γ q0 q1 d0 d1 columns rows figure) → va_S A s.heap H locs → lv_has ls 3 [(0, .ref q0), (1, .int x1), (2, .int x2)] → f_X2_cellsOfFigure_4 columns rows figure x1 x2 = some out → W p l e ({ frames := 1, cells := 0, slots := 0, locals := 20 } : Room) s m ([.ref q0] : List Value).toArray below meth c H locs 0 0 QQ (F0 m 4 ls []) := by
    intro x1 x2 H locs ls hP hD hS hl hf
    unfold f_X2_cellsOfFigure_4 at hf
    obtain ⟨ex4, h1, hX4⟩ := obx_some hf
    have LP : ∀ (n : Nat) (x1 : Int32) (x2 : Int32)  {H : Heap} {locs : List Loc} {ls : Array Slot}, va_P Γ.1 vwCl (wd_X2_cellsOfFigure Γ q0 q1 d0 d1 columns rows figure) H → va_D A (wd_X2_cellsOfFigure Γ q0 q1 d0 d1 columns rows figure) → va_S A s.heap H locs → lv_has ls 3 [(0, .ref q0), (1, .int x1), (2, .int x2)] → vm_it (f_X2_cellsOfFigure_4s columns rows figure) n (x1, x2) = some ex4 → W p l e ({ frames := 1, cells := 0, slots := 0, locals := 20 } : Room) s m ([.ref q0] : List Value).toArray below meth c H locs 0 0 QQ (F0 m 4 ls []) := by
      clear hP hD hS hl hf h1
      intro n
      induction n with
      | zero => intro x1 x2 H locs ls hP hD hS hl hf; exact (vm_it_0 hf).elim
      | succ n ih =>
        intro x1 x2 H locs ls hP hD hS hl hf
        have hf : f_X2_cellsOfFigure_4b columns rows figure x1 x2 (vm_it (f_X2_cellsOfFigure_4s columns rows figure) n) = some ex4 := hf
        unfold f_X2_cellsOfFigure_4b at hf
        refine lv_iload_n hx hb dX2_cellsOfFigure_4 rfl (lv_at hl 2 rfl) ?_
        refine lv_aload_n hx hb dX2_cellsOfFigure_5 rfl (lv_at hl 0 rfl) ?_
        obtain ⟨r_1, hq_2, hf⟩ := ob1_some hf
        refine vm_cVi (isC := [0]) (wc := (wd_X2_cells Γ q0 d0 q1 d1 columns rows)) (w1 := (wd_X2_cells Γ q0 d0 q1 d1 columns rows)) (As := []) (rest := [.int x2]) ⟨hx, hb, hml, hown, hts⟩ hE hP hD hS hA rfl rfl rfl (c_X2_cells l Γ _ q0 d0 q1 d1 columns rows r_1 hq_2) (cwV 0 hts gX2_cellsOfFigure_X2_cells rfl rfl rfl (by decide +kernel) ⟨Nat.le_of_ble_eq_true rfl, Nat.le_of_ble_eq_true rfl⟩) (va_recv (ci := 2) (q0 := 0) hK hP rfl rfl) rfl hl.1 rfl (Nat.le_of_ble_eq_true rfl) dX2_cellsOfFigure_6 ⟨Nat.zero_le _, Nat.zero_le _⟩ (fun H locs hP hD hS => ?_)
        have hP : va_P Γ.1 vwCl (wd_X2_cellsOfFigure Γ q0 q1 d0 d1 columns rows figure) H := hP
        have hD : va_D A (wd_X2_cellsOfFigure Γ q0 q1 d0 d1 columns rows figure) := hD
        refine lv_icmp_ge (tgt := 27) hx hb dX2_cellsOfFigure_9 (by decide) (fun hc_3 => ?_) (fun hc_3 => ?_)
        · have hf := vm_pos hc_3 hf
          have hX := hX4
          rw [← Option.some.inj hf] at hX
          exact K_27 x1 hP hD hS (lv_sub hl [1] rfl) hX
        · have hf := vm_neg hc_3 hf
          refine lv_iload_n hx hb dX2_cellsOfFigure_12 rfl (lv_at hl 1 rfl) ?_
          refine lv_aload_n hx hb dX2_cellsOfFigure_13 rfl (lv_at hl 0 rfl) ?_
          refine va_get (D := Γ.1) (ci := 2) (v := .ref q1) (C := RX2) (T := TX2) (N := 5) hx hb hts hi2 hown hK hP 0 rfl rfl 3 (by decide) (hts (.fieldLink RX2 15 "SandPlates$Plate" "figure" "[I") (List.mem_of_getElem? (i := 1) rfl)) (fun _ h9 => h9) rfl dX2_cellsOfFigure_14 ?_
          refine lv_iload_n hx hb dX2_cellsOfFigure_17 rfl (lv_at hl 2 rfl) ?_
          obtain ⟨hc_4, hf⟩ := vm_ck hf
          refine vm_iald hx hb hK hP 1 0 rfl rfl hc_4 (j := x2.toNatClampNeg) rfl dX2_cellsOfFigure_18 ?_
          refine lv_iadd hx hb dX2_cellsOfFigure_19 ?_
          refine lv_istore_n (lv' := [(1, .int (x1 + (figure (x2.toNatClampNeg)))), (0, .ref q0), (2, .int x2)]) hx hb dX2_cellsOfFigure_20 rfl hl (by decide) rfl (fun ls hl => ?_)
          refine lv_iinc (v := (x2 + 1)) (lv' := [(2, .int (x2 + 1)), (1, .int (x1 + (figure (x2.toNatClampNeg)))), (0, .ref q0)]) hx hb dX2_cellsOfFigure_21 hl (k := 2) rfl rfl (by decide) rfl (fun ls hl => ?_)
          refine lv_goto (tgt := 4) hx hb dX2_cellsOfFigure_24 (by decide) ?_
          exact ih (x1 + (figure (x2.toNatClampNeg))) (x2 + 1) hP hD hS (lv_sub hl [2, 1, 0] rfl) hf
    exact LP FU x1 x2 hP hD hS hl h1
  unfold f_X2_cellsOfFigure at hf
  refine lv_iconst (v := 0) hx hb dX2_cellsOfFigure_0 (by decide) ?_
  refine lv_istore_n (lv' := [(1, .int 0), (0, .ref q0)]) hx hb dX2_cellsOfFigure_1 rfl hl (by decide) rfl (fun ls hl => ?_)
  refine lv_iconst (v := 0) hx hb dX2_cellsOfFigure_2 (by decide) ?_
  refine lv_istore_n (lv' := [(2, .int 0), (1, .int 0), (0, .ref q0)]) hx hb dX2_cellsOfFigure_3 rfl hl (by decide) rfl (fun ls hl => ?_)
  exact K_4 0 0 hP hD hS (lv_sub hl [2, 1, 0] rfl) hf
def wd_X2_cellsWithGrains (Γ : GE) (q0 q1 d0 d1 : Nat) (columns : Int32) (rows : Int32) (grains : Nat → Int32) : va_W := [(q0, .inr (2, [.int columns, .int rows, .ref d0, .ref d1, .ref q1])), (q1, .inl (Γ.2.1 0, 36, .inl grains))]
def f_X2_cellsWithGrains_36 (x2 : Int32) : Option Int32 := some x2
def f_X2_cellsWithGrains_28 (columns : Int32) (rows : Int32) (grains : Nat → Int32) (x1 : Int32) (x3 : Int32) (s0 : Int32) (s1 : Int32) (k : ((Int32 × Int32) → Option Int32)) : Option Int32 := k ((s0 + s1), (x3 + 1))
def f_X2_cellsWithGrains_4b (columns : Int32) (rows : Int32) (grains : Nat → Int32) (x1 : Int32) (x2 : Int32) (x3 : Int32) (k : ((Int32 × Int32) → Option Int32)) : Option Int32 := ob1 (f_X2_cells columns rows) (fun r_1 => if r_1 ≤ x3 then (some x2) else (if inb x3 36 = true then if (grains (x3.toNatClampNeg)) = x1 then (f_X2_cellsWithGrains_28 columns rows grains x1 x3 x2 1 k) else (f_X2_cellsWithGrains_28 columns rows grains x1 x3 x2 0 k) else none))
def f_X2_cellsWithGrains_4s (columns : Int32) (rows : Int32) (grains : Nat → Int32) (x1 : Int32) : (Int32 × Int32) → ((Int32 × Int32) → Option Int32) → Option Int32 := fun t k => f_X2_cellsWithGrains_4b columns rows grains x1 t.1 t.2 k
def f_X2_cellsWithGrains_4 (columns : Int32) (rows : Int32) (grains : Nat → Int32) (x1 : Int32) (x2 : Int32) (x3 : Int32) : Option Int32 := obx (vm_it (f_X2_cellsWithGrains_4s columns rows grains x1) FU (x2, x3)) (fun x2 => f_X2_cellsWithGrains_36 x2)
def f_X2_cellsWithGrains (columns : Int32) (rows : Int32) (grains : Nat → Int32) (x1 : Int32) : Option Int32 := f_X2_cellsWithGrains_4 columns rows grains x1 0 0
set_option maxHeartbeats 4000000 in
set_option maxRecDepth 100000 in
theorem c_X2_cellsWithGrains (l : Launch) (Γ : GE) (sz : Nat) (q0 q1 d0 d1 : Nat) (columns : Int32) (rows : Int32) (grains : Nat → Int32) (x1 : Int32) (ro : Int32) (hf : f_X2_cellsWithGrains columns rows grains x1 = some ro) : MetI l yX2_cellsWithGrains wsX2_cellsWithGrains ({ frames := 1, cells := 0, slots := 0, locals := 20 } : Room) Γ [.ref q0, .int x1] (wd_X2_cellsWithGrains Γ q0 q1 d0 d1 columns rows grains) (wd_X2_cellsWithGrains Γ q0 q1 d0 d1 columns rows grains) sz ro := by
  refine Met.ofW (cc := cX2_cellsWithGrains) (maxL := 4) (ret := (some .int)) (by decide) rfl ?_
  intro p e s m args below meth c s₁ B hml hv
  obtain ⟨rfl, hsz, hE, hP, hD⟩ := hv
  have hx := B.exec
  have hb := B.bytes
  have hr := B.returns
  have hts := atoms_spec (ws := wsX2_cellsWithGrains) B.pre
  have hown : s.vm.findClass RX2 = some m.cls := findClass_of_methodNamed B.named
  have hlocks := B.notSynchronized
  subst hsz
  generalize hAe : va_A (wd_X2_cellsWithGrains Γ q0 q1 d0 d1 columns rows grains) s.heap.size = A at hE hD ⊢
  have hA : ∀ q : Nat, s.heap.size ≤ q → A q := fun q h => by rw [← hAe]; exact Or.inr h
  clear hAe
  have hS : va_S A s.heap s.heap [] := va_S.rf
  have hK := hE.1
  have hl := lv_entry ([.ref q0, .int x1]) (n := 4) (Nat.le_of_ble_eq_true rfl)
  rw [lg_entry_eq]
  generalize (lg_sl ([.ref q0, .int x1]) ++ List.replicate (4 - (lg_sl ([.ref q0, .int x1])).length) Slot.unset).toArray = ls at hl ⊢
  have hl : lv_has ls 4 [(0, .ref q0), (1, .int x1)] := hl
  have hi2 : ∀ w ∈ u_ws RX2 TX2 5, w ∈ wsX2_cellsWithGrains := fun w h => (List.mem_cons_of_mem _ (List.mem_append_right _ h))
  obtain ⟨out, hout⟩ : ∃ o, o = ro := ⟨_, rfl⟩
  rw [← hout] at hf
  obtain ⟨QQ, hQQ⟩ : ∃ Q, Q = MQ below (va_Qi (fun (r' : Int32) (_ : Unit) => r' = ro) (CQ Γ (wd_X2_cellsWithGrains Γ q0 q1 d0 d1 columns rows grains) A) A) (([.ref q0, .int x1] : List Value).toArray) s 0 0 A := ⟨_, rfl⟩
  show W p l e ({ frames := 1, cells := 0, slots := 0, locals := 20 } : Room) s m (([.ref q0, .int x1] : List Value).toArray) below meth c s.heap [] 0 0 (MQ below _ (([.ref q0, .int x1] : List Value).toArray) s 0 0 A) (F0 m 0 ls [])
  rw [← hQQ]
  have K_36 : ∀ (x2 : Int32) {H : Heap} {locs : List Loc} {ls : Array Slot}, va_P Γ.1 vwCl (wd_X2_cellsWithGrains Γ q0 q1 d0 d1 columns rows grains) H → va_D A (wd_X2_cellsWithGrains Γ q0 q1 d0 d1 columns rows grains) → va_S A s.heap H locs → lv_has ls 4 [(2, .int x2)] → f_X2_cellsWithGrains_36 x2 = some out → W p l e ({ frames := 1, cells := 0, slots := 0, locals := 20 } : Room) s m ([.ref q0, .int x1] : List Value).toArray below meth c H locs 0 0 QQ (F0 m 36 ls []) := by
    intro x2 H locs ls hP hD hS hl hf
    unfold f_X2_cellsWithGrains_36 at hf
    refine lv_iload_n hx hb dX2_cellsWithGrains_36 rfl (lv_at hl 0 rfl) ?_
    subst hout; obtain rfl := Option.some.inj hf
    subst hQQ
    exact W.iret hx hb hr (fun t ht hW => ⟨⟨_, (), rfl, rfl, by rw [ht]; exact hP, hD⟩, hS.F ht⟩) hS.2.2 dX2_cellsWithGrains_37
  have K_4 : ∀ (x2 : Int32) (x3 : Int32) {H : Heap} {locs : List Loc} {ls : Array Slot}, va_P Γ.1 vwCl (wd_X2_cellsWithGrains Γ q0 q1 d0 d1 columns rows grains) H → va_D A (wd_X2_cellsWithGrains Γ q0 q1 d0 d1 columns rows grains) → va_S A s.heap H locs → lv_has ls 4 [(0, .ref q0), (1, .int x1), (2, .int x2), (3, .int x3)] → f_X2_cellsWithGrains_4 columns rows grains x1 x2 x3 = some out → W p l e ({ frames := 1, cells := 0, slots := 0, locals := 20 } : Room) s m ([.ref q0, .int x1] : List Value).toArray below meth c H locs 0 0 QQ (F0 m 4 ls []) := by
    intro x2 x3 H locs ls hP hD hS hl hf
    unfold f_X2_cellsWithGrains_4 at hf
    obtain ⟨ex4, h1, hX4⟩ := obx_some hf
    have LP : ∀ (n : Nat) (x2 : Int32) (x3 : Int32)  {H : Heap} {locs : List Loc} {ls : Array Slot}, va_P Γ.1 vwCl (wd_X2_cellsWithGrains Γ q0 q1 d0 d1 columns rows grains) H → va_D A (wd_X2_cellsWithGrains Γ q0 q1 d0 d1 columns rows grains) → va_S A s.heap H locs → lv_has ls 4 [(0, .ref q0), (1, .int x1), (2, .int x2), (3, .int x3)] → vm_it (f_X2_cellsWithGrains_4s columns rows grains x1) n (x2, x3) = some ex4 → W p l e ({ frames := 1, cells := 0, slots := 0, locals := 20 } : Room) s m ([.ref q0, .int x1] : List Value).toArray below meth c H locs 0 0 QQ (F0 m 4 ls []) := by
      clear hP hD hS hl hf h1
      intro n
      induction n with
      | zero => intro x2 x3 H locs ls hP hD hS hl hf; exact (vm_it_0 hf).elim
      | succ n ih =>
        intro x2 x3 H locs ls hP hD hS hl hf
        have hf : f_X2_cellsWithGrains_4b columns rows grains x1 x2 x3 (vm_it (f_X2_cellsWithGrains_4s columns rows grains x1) n) = some ex4 := hf
        have K_28 : ∀ (x3 : Int32) (s0 : Int32) (s1 : Int32) {H : Heap} {locs : List Loc} {ls : Array Slot}, va_P Γ.1 vwCl (wd_X2_cellsWithGrains Γ q0 q1 d0 d1 columns rows grains) H → va_D A (wd_X2_cellsWithGrains Γ q0 q1 d0 d1 columns rows grains) → va_S A s.heap H locs → lv_has ls 4 [(0, .ref q0), (1, .int x1), (3, .int x3)] → f_X2_cellsWithGrains_28 columns rows grains x1 x3 s0 s1 (vm_it (f_X2_cellsWithGrains_4s columns rows grains x1) n) = some ex4 → W p l e ({ frames := 1, cells := 0, slots := 0, locals := 20 } : Room) s m ([.ref q0, .int x1] : List Value).toArray below meth c H locs 0 0 QQ (F0 m 28 ls [.int s1, .int s0]) := by
          intro x3 s0 s1 H locs ls hP hD hS hl hf
          unfold f_X2_cellsWithGrains_28 at hf
          refine lv_iadd hx hb dX2_cellsWithGrains_28 ?_
          refine lv_istore_n (lv' := [(2, .int (s0 + s1)), (0, .ref q0), (1, .int x1), (3, .int x3)]) hx hb dX2_cellsWithGrains_29 rfl hl (by decide) rfl (fun ls hl => ?_)
          refine lv_iinc (v := (x3 + 1)) (lv' := [(3, .int (x3 + 1)), (2, .int (s0 + s1)), (0, .ref q0), (1, .int x1)]) hx hb dX2_cellsWithGrains_30 hl (k := 3) rfl rfl (by decide) rfl (fun ls hl => ?_)
          refine lv_goto (tgt := 4) hx hb dX2_cellsWithGrains_33 (by decide) ?_
          exact ih (s0 + s1) (x3 + 1) hP hD hS (lv_sub hl [2, 3, 1, 0] rfl) hf
        unfold f_X2_cellsWithGrains_4b at hf
        refine lv_iload_n hx hb dX2_cellsWithGrains_4 rfl (lv_at hl 3 rfl) ?_
        refine lv_aload_n hx hb dX2_cellsWithGrains_5 rfl (lv_at hl 0 rfl) ?_
        obtain ⟨r_1, hq_2, hf⟩ := ob1_some hf
        refine vm_cVi (isC := [0]) (wc := (wd_X2_cells Γ q0 d0 d1 q1 columns rows)) (w1 := (wd_X2_cells Γ q0 d0 d1 q1 columns rows)) (As := []) (rest := [.int x3]) ⟨hx, hb, hml, hown, hts⟩ hE hP hD hS hA rfl rfl rfl (c_X2_cells l Γ _ q0 d0 d1 q1 columns rows r_1 hq_2) (cwV 0 hts gX2_cellsWithGrains_X2_cells rfl rfl rfl (by decide +kernel) ⟨Nat.le_of_ble_eq_true rfl, Nat.le_of_ble_eq_true rfl⟩) (va_recv (ci := 2) (q0 := 0) hK hP rfl rfl) rfl hl.1 rfl (Nat.le_of_ble_eq_true rfl) dX2_cellsWithGrains_6 ⟨Nat.zero_le _, Nat.zero_le _⟩ (fun H locs hP hD hS => ?_)
        have hP : va_P Γ.1 vwCl (wd_X2_cellsWithGrains Γ q0 q1 d0 d1 columns rows grains) H := hP
        have hD : va_D A (wd_X2_cellsWithGrains Γ q0 q1 d0 d1 columns rows grains) := hD
        refine lv_icmp_ge (tgt := 36) hx hb dX2_cellsWithGrains_9 (by decide) (fun hc_3 => ?_) (fun hc_3 => ?_)
        · have hf := vm_pos hc_3 hf
          have hX := hX4
          rw [← Option.some.inj hf] at hX
          exact K_36 x2 hP hD hS (lv_sub hl [2] rfl) hX
        · have hf := vm_neg hc_3 hf
          refine lv_iload_n hx hb dX2_cellsWithGrains_12 rfl (lv_at hl 2 rfl) ?_
          refine lv_aload_n hx hb dX2_cellsWithGrains_13 rfl (lv_at hl 0 rfl) ?_
          refine va_get (D := Γ.1) (ci := 2) (v := .ref q1) (C := RX2) (T := TX2) (N := 5) hx hb hts hi2 hown hK hP 0 rfl rfl 4 (by decide) (hts (.fieldLink RX2 18 "SandPlates$Plate" "grains" "[I") (List.mem_of_getElem? (i := 1) rfl)) (fun _ h9 => h9) rfl dX2_cellsWithGrains_14 ?_
          refine lv_iload_n hx hb dX2_cellsWithGrains_17 rfl (lv_at hl 3 rfl) ?_
          obtain ⟨hc_4, hf⟩ := vm_ck hf
          refine vm_iald hx hb hK hP 1 0 rfl rfl hc_4 (j := x3.toNatClampNeg) rfl dX2_cellsWithGrains_18 ?_
          refine lv_iload_n hx hb dX2_cellsWithGrains_19 rfl (lv_at hl 1 rfl) ?_
          refine lv_icmp_ne (tgt := 27) hx hb dX2_cellsWithGrains_20 (by decide) (fun hc_5 => ?_) (fun hc_5 => ?_)
          · have hf := vm_neg hc_5 hf
            refine lv_iconst (v := 0) hx hb dX2_cellsWithGrains_27 (by decide) ?_
            exact K_28 x3 x2 0 hP hD hS (lv_sub hl [0, 1, 3] rfl) hf
          · have hf := vm_pos hc_5 hf
            refine lv_iconst (v := 1) hx hb dX2_cellsWithGrains_23 (by decide) ?_
            refine lv_goto (tgt := 28) hx hb dX2_cellsWithGrains_24 (by decide) ?_
            exact K_28 x3 x2 1 hP hD hS (lv_sub hl [0, 1, 3] rfl) hf
    exact LP FU x2 x3 hP hD hS hl h1
  unfold f_X2_cellsWithGrains at hf
  refine lv_iconst (v := 0) hx hb dX2_cellsWithGrains_0 (by decide) ?_
  refine lv_istore_n (lv' := [(2, .int 0), (0, .ref q0), (1, .int x1)]) hx hb dX2_cellsWithGrains_1 rfl hl (by decide) rfl (fun ls hl => ?_)
  refine lv_iconst (v := 0) hx hb dX2_cellsWithGrains_2 (by decide) ?_
  refine lv_istore_n (lv' := [(3, .int 0), (2, .int 0), (0, .ref q0), (1, .int x1)]) hx hb dX2_cellsWithGrains_3 rfl hl (by decide) rfl (fun ls hl => ?_)
  exact K_4 0 0 hP hD hS (lv_sub hl [2, 3, 1, 0] rfl) hf
def wd_X2_mostGrains (Γ : GE) (q0 q1 d0 d1 : Nat) (columns : Int32) (rows : Int32) (grains : Nat → Int32) : va_W := [(q0, .inr (2, [.int columns, .int rows, .ref d0, .ref d1, .ref q1])), (q1, .inl (Γ.2.1 0, 36, .inl grains))]
def f_X2_mostGrains_29 (x1 : Int32) : Option Int32 := some x1
def f_X2_mostGrains_4b (columns : Int32) (rows : Int32) (grains : Nat → Int32) (x1 : Int32) (x2 : Int32) (k : ((Int32 × Int32) → Option Int32)) : Option Int32 := ob1 (f_X2_cells columns rows) (fun r_1 => if r_1 ≤ x2 then (some x1) else (if inb x2 36 = true then k ((if x1 < (grains (x2.toNatClampNeg)) then (grains (x2.toNatClampNeg)) else x1), (x2 + 1)) else none))
def f_X2_mostGrains_4s (columns : Int32) (rows : Int32) (grains : Nat → Int32) : (Int32 × Int32) → ((Int32 × Int32) → Option Int32) → Option Int32 := fun t k => f_X2_mostGrains_4b columns rows grains t.1 t.2 k
def f_X2_mostGrains_4 (columns : Int32) (rows : Int32) (grains : Nat → Int32) (x1 : Int32) (x2 : Int32) : Option Int32 := obx (vm_it (f_X2_mostGrains_4s columns rows grains) FU (x1, x2)) (fun x1 => f_X2_mostGrains_29 x1)
def f_X2_mostGrains (columns : Int32) (rows : Int32) (grains : Nat → Int32) : Option Int32 := f_X2_mostGrains_4 columns rows grains 0 0
set_option maxHeartbeats 4000000 in
set_option maxRecDepth 100000 in
theorem c_X2_mostGrains (l : Launch) (Γ : GE) (sz : Nat) (q0 q1 d0 d1 : Nat) (columns : Int32) (rows : Int32) (grains : Nat → Int32) (ro : Int32) (hf : f_X2_mostGrains columns rows grains = some ro) : MetI l yX2_mostGrains wsX2_mostGrains ({ frames := 1, cells := 0, slots := 0, locals := 21 } : Room) Γ [.ref q0] (wd_X2_mostGrains Γ q0 q1 d0 d1 columns rows grains) (wd_X2_mostGrains Γ q0 q1 d0 d1 columns rows grains) sz ro := by
  refine Met.ofW (cc := cX2_mostGrains) (maxL := 3) (ret := (some .int)) (by decide) rfl ?_
  intro p e s m args below meth c s₁ B hml hv
  obtain ⟨rfl, hsz, hE, hP, hD⟩ := hv
  have hx := B.exec
  have hb := B.bytes
  have hr := B.returns
  have hts := atoms_spec (ws := wsX2_mostGrains) B.pre
  have hown : s.vm.findClass RX2 = some m.cls := findClass_of_methodNamed B.named
  have hlocks := B.notSynchronized
  subst hsz
  generalize hAe : va_A (wd_X2_mostGrains Γ q0 q1 d0 d1 columns rows grains) s.heap.size = A at hE hD ⊢
  have hA : ∀ q : Nat, s.heap.size ≤ q → A q := fun q h => by rw [← hAe]; exact Or.inr h
  clear hAe
  have hS : va_S A s.heap s.heap [] := va_S.rf
  have hK := hE.1
  have hl := lv_entry ([.ref q0]) (n := 3) (Nat.le_of_ble_eq_true rfl)
  rw [lg_entry_eq]
  generalize (lg_sl ([.ref q0]) ++ List.replicate (3 - (lg_sl ([.ref q0])).length) Slot.unset).toArray = ls at hl ⊢
  have hl : lv_has ls 3 [(0, .ref q0)] := hl
  have hi2 : ∀ w ∈ u_ws RX2 TX2 5, w ∈ wsX2_mostGrains := fun w h => (List.mem_cons_of_mem _ (List.mem_append_right _ h))
  obtain ⟨out, hout⟩ : ∃ o, o = ro := ⟨_, rfl⟩
  rw [← hout] at hf
  obtain ⟨QQ, hQQ⟩ : ∃ Q, Q = MQ below (va_Qi (fun (r' : Int32) (_ : Unit) => r' = ro) (CQ Γ (wd_X2_mostGrains Γ q0 q1 d0 d1 columns rows grains) A) A) (([.ref q0] : List Value).toArray) s 0 0 A := ⟨_, rfl⟩
  show W p l e ({ frames := 1, cells := 0, slots := 0, locals := 21 } : Room) s m (([.ref q0] : List Value).toArray) below meth c s.heap [] 0 0 (MQ below _ (([.ref q0] : List Value).toArray) s 0 0 A) (F0 m 0 ls [])
  rw [← hQQ]
  have K_29 : ∀ (x1 : Int32) {H : Heap} {locs : List Loc} {ls : Array Slot}, va_P Γ.1 vwCl (wd_X2_mostGrains Γ q0 q1 d0 d1 columns rows grains) H → va_D A (wd_X2_mostGrains Γ q0 q1 d0 d1 columns rows grains) → va_S A s.heap H locs → lv_has ls 3 [(1, .int x1)] → f_X2_mostGrains_29 x1 = some out → W p l e ({ frames := 1, cells := 0, slots := 0, locals := 21 } : Room) s m ([.ref q0] : List Value).toArray below meth c H locs 0 0 QQ (F0 m 29 ls []) := by
    intro x1 H locs ls hP hD hS hl hf
    unfold f_X2_mostGrains_29 at hf
    refine lv_iload_n hx hb dX2_mostGrains_29 rfl (lv_at hl 0 rfl) ?_
    subst hout; obtain rfl := Option.some.inj hf
    subst hQQ
    exact W.iret hx hb hr (fun t ht hW => ⟨⟨_, (), rfl, rfl, by rw [ht]; exact hP, hD⟩, hS.F ht⟩) hS.2.2 dX2_mostGrains_30
  have K_4 : ∀ (x1 : Int32) (x2 : Int32) {H : Heap} {locs : List Loc} {ls : Array Slot}, va_P Γ.1 vwCl (wd_X2_mostGrains Γ q0 q1 d0 d1 columns rows grains) H → va_D A (wd_X2_mostGrains Γ q0 q1 d0 d1 columns rows grains) → va_S A s.heap H locs → lv_has ls 3 [(0, .ref q0), (1, .int x1), (2, .int x2)] → f_X2_mostGrains_4 columns rows grains x1 x2 = some out → W p l e ({ frames := 1, cells := 0, slots := 0, locals := 21 } : Room) s m ([.ref q0] : List Value).toArray below meth c H locs 0 0 QQ (F0 m 4 ls []) := by
    intro x1 x2 H locs ls hP hD hS hl hf
    unfold f_X2_mostGrains_4 at hf
    obtain ⟨ex4, h1, hX4⟩ := obx_some hf
    have LP : ∀ (n : Nat) (x1 : Int32) (x2 : Int32)  {H : Heap} {locs : List Loc} {ls : Array Slot}, va_P Γ.1 vwCl (wd_X2_mostGrains Γ q0 q1 d0 d1 columns rows grains) H → va_D A (wd_X2_mostGrains Γ q0 q1 d0 d1 columns rows grains) → va_S A s.heap H locs → lv_has ls 3 [(0, .ref q0), (1, .int x1), (2, .int x2)] → vm_it (f_X2_mostGrains_4s columns rows grains) n (x1, x2) = some ex4 → W p l e ({ frames := 1, cells := 0, slots := 0, locals := 21 } : Room) s m ([.ref q0] : List Value).toArray below meth c H locs 0 0 QQ (F0 m 4 ls []) := by
      clear hP hD hS hl hf h1
      intro n
      induction n with
      | zero => intro x1 x2 H locs ls hP hD hS hl hf; exact (vm_it_0 hf).elim
      | succ n ih =>
        intro x1 x2 H locs ls hP hD hS hl hf
        have hf : f_X2_mostGrains_4b columns rows grains x1 x2 (vm_it (f_X2_mostGrains_4s columns rows grains) n) = some ex4 := hf
        unfold f_X2_mostGrains_4b at hf
        refine lv_iload_n hx hb dX2_mostGrains_4 rfl (lv_at hl 2 rfl) ?_
        refine lv_aload_n hx hb dX2_mostGrains_5 rfl (lv_at hl 0 rfl) ?_
        obtain ⟨r_1, hq_2, hf⟩ := ob1_some hf
        refine vm_cVi (isC := [0]) (wc := (wd_X2_cells Γ q0 d0 d1 q1 columns rows)) (w1 := (wd_X2_cells Γ q0 d0 d1 q1 columns rows)) (As := []) (rest := [.int x2]) ⟨hx, hb, hml, hown, hts⟩ hE hP hD hS hA rfl rfl rfl (c_X2_cells l Γ _ q0 d0 d1 q1 columns rows r_1 hq_2) (cwV 0 hts gX2_mostGrains_X2_cells rfl rfl rfl (by decide +kernel) ⟨Nat.le_of_ble_eq_true rfl, Nat.le_of_ble_eq_true rfl⟩) (va_recv (ci := 2) (q0 := 0) hK hP rfl rfl) rfl hl.1 rfl (Nat.le_of_ble_eq_true rfl) dX2_mostGrains_6 ⟨Nat.zero_le _, Nat.zero_le _⟩ (fun H locs hP hD hS => ?_)
        have hP : va_P Γ.1 vwCl (wd_X2_mostGrains Γ q0 q1 d0 d1 columns rows grains) H := hP
        have hD : va_D A (wd_X2_mostGrains Γ q0 q1 d0 d1 columns rows grains) := hD
        refine lv_icmp_ge (tgt := 29) hx hb dX2_mostGrains_9 (by decide) (fun hc_3 => ?_) (fun hc_3 => ?_)
        · have hf := vm_pos hc_3 hf
          have hX := hX4
          rw [← Option.some.inj hf] at hX
          exact K_29 x1 hP hD hS (lv_sub hl [1] rfl) hX
        · have hf := vm_neg hc_3 hf
          refine lv_iload_n hx hb dX2_mostGrains_12 rfl (lv_at hl 1 rfl) ?_
          refine lv_aload_n hx hb dX2_mostGrains_13 rfl (lv_at hl 0 rfl) ?_
          refine va_get (D := Γ.1) (ci := 2) (v := .ref q1) (C := RX2) (T := TX2) (N := 5) hx hb hts hi2 hown hK hP 0 rfl rfl 4 (by decide) (hts (.fieldLink RX2 18 "SandPlates$Plate" "grains" "[I") (List.mem_of_getElem? (i := 1) rfl)) (fun _ h9 => h9) rfl dX2_mostGrains_14 ?_
          refine lv_iload_n hx hb dX2_mostGrains_17 rfl (lv_at hl 2 rfl) ?_
          obtain ⟨hc_4, hf⟩ := vm_ck hf
          refine vm_iald hx hb hK hP 1 0 rfl rfl hc_4 (j := x2.toNatClampNeg) rfl dX2_mostGrains_18 ?_
          refine va_mmax hx hb (hml.trans hl.1.symm) hown (hts (.methodLink RX2 53 Lib.Math.max.name) (List.mem_of_getElem? (i := 2) rfl)) (hts (.static Lib.Math.max.name) (List.mem_of_getElem? (i := 3) rfl)) (hts (.initialized "java/lang/Math") (List.mem_of_getElem? (i := 4) rfl)) (hts (.code Lib.Math.max.name Lib.Math.max.code 2 (some .int)) (List.mem_of_getElem? (i := 5) rfl)) (Nat.le_of_ble_eq_true rfl) (Nat.le_of_ble_eq_true rfl) (Nat.zero_le _) (Nat.zero_le _) dX2_mostGrains_19 ?_
          refine lv_istore_n (lv' := [(1, .int (if x1 < (grains (x2.toNatClampNeg)) then (grains (x2.toNatClampNeg)) else x1)), (0, .ref q0), (2, .int x2)]) hx hb dX2_mostGrains_22 rfl hl (by decide) rfl (fun ls hl => ?_)
          refine lv_iinc (v := (x2 + 1)) (lv' := [(2, .int (x2 + 1)), (1, .int (if x1 < (grains (x2.toNatClampNeg)) then (grains (x2.toNatClampNeg)) else x1)), (0, .ref q0)]) hx hb dX2_mostGrains_23 hl (k := 2) rfl rfl (by decide) rfl (fun ls hl => ?_)
          refine lv_goto (tgt := 4) hx hb dX2_mostGrains_26 (by decide) ?_
          exact ih (if x1 < (grains (x2.toNatClampNeg)) then (grains (x2.toNatClampNeg)) else x1) (x2 + 1) hP hD hS (lv_sub hl [2, 1, 0] rfl) hf
    exact LP FU x1 x2 hP hD hS hl h1
  unfold f_X2_mostGrains at hf
  refine lv_iconst (v := 0) hx hb dX2_mostGrains_0 (by decide) ?_
  refine lv_istore_n (lv' := [(1, .int 0), (0, .ref q0)]) hx hb dX2_mostGrains_1 rfl hl (by decide) rfl (fun ls hl => ?_)
  refine lv_iconst (v := 0) hx hb dX2_mostGrains_2 (by decide) ?_
  refine lv_istore_n (lv' := [(2, .int 0), (1, .int 0), (0, .ref q0)]) hx hb dX2_mostGrains_3 rfl hl (by decide) rfl (fun ls hl => ?_)
  exact K_4 0 0 hP hD hS (lv_sub hl [2, 1, 0] rfl) hf
def wd_X2_stillCells (Γ : GE) (q0 q1 q2 d0 d1 : Nat) (columns : Int32) (rows : Int32) (numbers : Nat → Int32) (p1_a : Nat → Int32) : va_W := [(q0, .inr (2, [.int columns, .int rows, .ref q1, .ref d0, .ref d1])), (q1, .inl (Γ.2.1 0, 7, .inl numbers)), (q2, .inl (Γ.2.1 0, 36, .inl p1_a))]
def f_X2_stillCells_35 (x2 : Int32) : Option Int32 := some x2
def f_X2_stillCells_27 (columns : Int32) (rows : Int32) (numbers : Nat → Int32) (p1_a : Nat → Int32) (x3 : Int32) (s0 : Int32) (s1 : Int32) (k : ((Int32 × Int32) → Option Int32)) : Option Int32 := k ((s0 + s1), (x3 + 1))
def f_X2_stillCells_4b (columns : Int32) (rows : Int32) (numbers : Nat → Int32) (p1_a : Nat → Int32) (x2 : Int32) (x3 : Int32) (k : ((Int32 × Int32) → Option Int32)) : Option Int32 := ob1 (f_X2_cells columns rows) (fun r_1 => if r_1 ≤ x3 then (some x2) else (ob1 (f_X2_isStill numbers p1_a x3) (fun r_4 => if r_4 = 0 then (f_X2_stillCells_27 columns rows numbers p1_a x3 x2 0 k) else (f_X2_stillCells_27 columns rows numbers p1_a x3 x2 1 k))))
def f_X2_stillCells_4s (columns : Int32) (rows : Int32) (numbers : Nat → Int32) (p1_a : Nat → Int32) : (Int32 × Int32) → ((Int32 × Int32) → Option Int32) → Option Int32 := fun t k => f_X2_stillCells_4b columns rows numbers p1_a t.1 t.2 k
def f_X2_stillCells_4 (columns : Int32) (rows : Int32) (numbers : Nat → Int32) (p1_a : Nat → Int32) (x2 : Int32) (x3 : Int32) : Option Int32 := obx (vm_it (f_X2_stillCells_4s columns rows numbers p1_a) FU (x2, x3)) (fun x2 => f_X2_stillCells_35 x2)
def f_X2_stillCells (columns : Int32) (rows : Int32) (numbers : Nat → Int32) (p1_a : Nat → Int32) : Option Int32 := f_X2_stillCells_4 columns rows numbers p1_a 0 0
set_option maxHeartbeats 4000000 in
set_option maxRecDepth 100000 in
theorem c_X2_stillCells (l : Launch) (Γ : GE) (sz : Nat) (q0 q1 q2 d0 d1 : Nat) (columns : Int32) (rows : Int32) (numbers : Nat → Int32) (p1_a : Nat → Int32) (ro : Int32) (hf : f_X2_stillCells columns rows numbers p1_a = some ro) : MetI l yX2_stillCells wsX2_stillCells ({ frames := 1, cells := 0, slots := 0, locals := 22 } : Room) Γ [.ref q0, .ref q2] (wd_X2_stillCells Γ q0 q1 q2 d0 d1 columns rows numbers p1_a) (wd_X2_stillCells Γ q0 q1 q2 d0 d1 columns rows numbers p1_a) sz ro := by
  refine Met.ofW (cc := cX2_stillCells) (maxL := 4) (ret := (some .int)) (by decide) rfl ?_
  intro p e s m args below meth c s₁ B hml hv
  obtain ⟨rfl, hsz, hE, hP, hD⟩ := hv
  have hx := B.exec
  have hb := B.bytes
  have hr := B.returns
  have hts := atoms_spec (ws := wsX2_stillCells) B.pre
  have hown : s.vm.findClass RX2 = some m.cls := findClass_of_methodNamed B.named
  have hlocks := B.notSynchronized
  subst hsz
  generalize hAe : va_A (wd_X2_stillCells Γ q0 q1 q2 d0 d1 columns rows numbers p1_a) s.heap.size = A at hE hD ⊢
  have hA : ∀ q : Nat, s.heap.size ≤ q → A q := fun q h => by rw [← hAe]; exact Or.inr h
  clear hAe
  have hS : va_S A s.heap s.heap [] := va_S.rf
  have hK := hE.1
  have hl := lv_entry ([.ref q0, .ref q2]) (n := 4) (Nat.le_of_ble_eq_true rfl)
  rw [lg_entry_eq]
  generalize (lg_sl ([.ref q0, .ref q2]) ++ List.replicate (4 - (lg_sl ([.ref q0, .ref q2])).length) Slot.unset).toArray = ls at hl ⊢
  have hl : lv_has ls 4 [(0, .ref q0), (1, .ref q2)] := hl
  have hi2 : ∀ w ∈ u_ws RX2 TX2 5, w ∈ wsX2_stillCells := fun w h => (List.mem_cons_of_mem _ (List.mem_append_right _ h))
  obtain ⟨out, hout⟩ : ∃ o, o = ro := ⟨_, rfl⟩
  rw [← hout] at hf
  obtain ⟨QQ, hQQ⟩ : ∃ Q, Q = MQ below (va_Qi (fun (r' : Int32) (_ : Unit) => r' = ro) (CQ Γ (wd_X2_stillCells Γ q0 q1 q2 d0 d1 columns rows numbers p1_a) A) A) (([.ref q0, .ref q2] : List Value).toArray) s 0 0 A := ⟨_, rfl⟩
  show W p l e ({ frames := 1, cells := 0, slots := 0, locals := 22 } : Room) s m (([.ref q0, .ref q2] : List Value).toArray) below meth c s.heap [] 0 0 (MQ below _ (([.ref q0, .ref q2] : List Value).toArray) s 0 0 A) (F0 m 0 ls [])
  rw [← hQQ]
  have K_35 : ∀ (x2 : Int32) {H : Heap} {locs : List Loc} {ls : Array Slot}, va_P Γ.1 vwCl (wd_X2_stillCells Γ q0 q1 q2 d0 d1 columns rows numbers p1_a) H → va_D A (wd_X2_stillCells Γ q0 q1 q2 d0 d1 columns rows numbers p1_a) → va_S A s.heap H locs → lv_has ls 4 [(2, .int x2)] → f_X2_stillCells_35 x2 = some out → W p l e ({ frames := 1, cells := 0, slots := 0, locals := 22 } : Room) s m ([.ref q0, .ref q2] : List Value).toArray below meth c H locs 0 0 QQ (F0 m 35 ls []) := by
    intro x2 H locs ls hP hD hS hl hf
    unfold f_X2_stillCells_35 at hf
    refine lv_iload_n hx hb dX2_stillCells_35 rfl (lv_at hl 0 rfl) ?_
    subst hout; obtain rfl := Option.some.inj hf
    subst hQQ
    exact W.iret hx hb hr (fun t ht hW => ⟨⟨_, (), rfl, rfl, by rw [ht]; exact hP, hD⟩, hS.F ht⟩) hS.2.2 dX2_stillCells_36
  have K_4 : ∀ (x2 : Int32) (x3 : Int32) {H : Heap} {locs : List Loc} {ls : Array Slot}, va_P Γ.1 vwCl (wd_X2_stillCells Γ q0 q1 q2 d0 d1 columns rows numbers p1_a) H → va_D A (wd_X2_stillCells Γ q0 q1 q2 d0 d1 columns rows numbers p1_a) → va_S A s.heap H locs → lv_has ls 4 [(0, .ref q0), (1, .ref q2), (2, .int x2), (3, .int x3)] → f_X2_stillCells_4 columns rows numbers p1_a x2 x3 = some out → W p l e ({ frames := 1, cells := 0, slots := 0, locals := 22 } : Room) s m ([.ref q0, .ref q2] : List Value).toArray below meth c H locs 0 0 QQ (F0 m 4 ls []) := by
    intro x2 x3 H locs ls hP hD hS hl hf
    unfold f_X2_stillCells_4 at hf
    obtain ⟨ex4, h1, hX4⟩ := obx_some hf
    have LP : ∀ (n : Nat) (x2 : Int32) (x3 : Int32)  {H : Heap} {locs : List Loc} {ls : Array Slot}, va_P Γ.1 vwCl (wd_X2_stillCells Γ q0 q1 q2 d0 d1 columns rows numbers p1_a) H → va_D A (wd_X2_stillCells Γ q0 q1 q2 d0 d1 columns rows numbers p1_a) → va_S A s.heap H locs → lv_has ls 4 [(0, .ref q0), (1, .ref q2), (2, .int x2), (3, .int x3)] → vm_it (f_X2_stillCells_4s columns rows numbers p1_a) n (x2, x3) = some ex4 → W p l e ({ frames := 1, cells := 0, slots := 0, locals := 22 } : Room) s m ([.ref q0, .ref q2] : List Value).toArray below meth c H locs 0 0 QQ (F0 m 4 ls []) := by
      clear hP hD hS hl hf h1
      intro n
      induction n with
      | zero => intro x2 x3 H locs ls hP hD hS hl hf; exact (vm_it_0 hf).elim
      | succ n ih =>
        intro x2 x3 H locs ls hP hD hS hl hf
        have hf : f_X2_stillCells_4b columns rows numbers p1_a x2 x3 (vm_it (f_X2_stillCells_4s columns rows numbers p1_a) n) = some ex4 := hf
        have K_27 : ∀ (x3 : Int32) (s0 : Int32) (s1 : Int32) {H : Heap} {locs : List Loc} {ls : Array Slot}, va_P Γ.1 vwCl (wd_X2_stillCells Γ q0 q1 q2 d0 d1 columns rows numbers p1_a) H → va_D A (wd_X2_stillCells Γ q0 q1 q2 d0 d1 columns rows numbers p1_a) → va_S A s.heap H locs → lv_has ls 4 [(0, .ref q0), (1, .ref q2), (3, .int x3)] → f_X2_stillCells_27 columns rows numbers p1_a x3 s0 s1 (vm_it (f_X2_stillCells_4s columns rows numbers p1_a) n) = some ex4 → W p l e ({ frames := 1, cells := 0, slots := 0, locals := 22 } : Room) s m ([.ref q0, .ref q2] : List Value).toArray below meth c H locs 0 0 QQ (F0 m 27 ls [.int s1, .int s0]) := by
          intro x3 s0 s1 H locs ls hP hD hS hl hf
          unfold f_X2_stillCells_27 at hf
          refine lv_iadd hx hb dX2_stillCells_27 ?_
          refine lv_istore_n (lv' := [(2, .int (s0 + s1)), (0, .ref q0), (1, .ref q2), (3, .int x3)]) hx hb dX2_stillCells_28 rfl hl (by decide) rfl (fun ls hl => ?_)
          refine lv_iinc (v := (x3 + 1)) (lv' := [(3, .int (x3 + 1)), (2, .int (s0 + s1)), (0, .ref q0), (1, .ref q2)]) hx hb dX2_stillCells_29 hl (k := 3) rfl rfl (by decide) rfl (fun ls hl => ?_)
          refine lv_goto (tgt := 4) hx hb dX2_stillCells_32 (by decide) ?_
          exact ih (s0 + s1) (x3 + 1) hP hD hS (lv_sub hl [2, 3, 1, 0] rfl) hf
        unfold f_X2_stillCells_4b at hf
        refine lv_iload_n hx hb dX2_stillCells_4 rfl (lv_at hl 3 rfl) ?_
        refine lv_aload_n hx hb dX2_stillCells_5 rfl (lv_at hl 0 rfl) ?_
        obtain ⟨r_1, hq_2, hf⟩ := ob1_some hf
        refine vm_cVi (isC := [0]) (wc := (wd_X2_cells Γ q0 q1 d0 d1 columns rows)) (w1 := (wd_X2_cells Γ q0 q1 d0 d1 columns rows)) (As := []) (rest := [.int x3]) ⟨hx, hb, hml, hown, hts⟩ hE hP hD hS hA rfl rfl rfl (c_X2_cells l Γ _ q0 q1 d0 d1 columns rows r_1 hq_2) (cwV 0 hts gX2_stillCells_X2_cells rfl rfl rfl (by decide +kernel) ⟨Nat.le_of_ble_eq_true rfl, Nat.le_of_ble_eq_true rfl⟩) (va_recv (ci := 2) (q0 := 0) hK hP rfl rfl) rfl hl.1 rfl (Nat.le_of_ble_eq_true rfl) dX2_stillCells_6 ⟨Nat.zero_le _, Nat.zero_le _⟩ (fun H locs hP hD hS => ?_)
        have hP : va_P Γ.1 vwCl (wd_X2_stillCells Γ q0 q1 q2 d0 d1 columns rows numbers p1_a) H := hP
        have hD : va_D A (wd_X2_stillCells Γ q0 q1 q2 d0 d1 columns rows numbers p1_a) := hD
        refine lv_icmp_ge (tgt := 35) hx hb dX2_stillCells_9 (by decide) (fun hc_3 => ?_) (fun hc_3 => ?_)
        · have hf := vm_pos hc_3 hf
          have hX := hX4
          rw [← Option.some.inj hf] at hX
          exact K_35 x2 hP hD hS (lv_sub hl [2] rfl) hX
        · have hf := vm_neg hc_3 hf
          refine lv_iload_n hx hb dX2_stillCells_12 rfl (lv_at hl 2 rfl) ?_
          refine lv_aload_n hx hb dX2_stillCells_13 rfl (lv_at hl 0 rfl) ?_
          refine lv_aload_n hx hb dX2_stillCells_14 rfl (lv_at hl 1 rfl) ?_
          refine lv_iload_n hx hb dX2_stillCells_15 rfl (lv_at hl 3 rfl) ?_
          obtain ⟨r_4, hq_5, hf⟩ := ob1_some hf
          refine vm_cVi (isC := [0, 1, 2]) (wc := (wd_X2_isStill Γ q0 q1 q2 d0 d1 columns rows numbers p1_a)) (w1 := (wd_X2_isStill Γ q0 q1 q2 d0 d1 columns rows numbers p1_a)) (As := [.ref q2, .int x3]) (rest := [.int x2]) ⟨hx, hb, hml, hown, hts⟩ hE hP hD hS hA rfl rfl rfl (c_X2_isStill l Γ _ q0 q1 q2 d0 d1 columns rows numbers p1_a x3 r_4 hq_5) (cwV 2 hts gX2_stillCells_X2_isStill rfl rfl rfl (by decide +kernel) ⟨Nat.le_of_ble_eq_true rfl, Nat.le_of_ble_eq_true rfl⟩) (va_recv (ci := 2) (q0 := 0) hK hP rfl rfl) rfl hl.1 rfl (Nat.le_of_ble_eq_true rfl) dX2_stillCells_16 ⟨Nat.zero_le _, Nat.zero_le _⟩ (fun H locs hP hD hS => ?_)
          have hP : va_P Γ.1 vwCl (wd_X2_stillCells Γ q0 q1 q2 d0 d1 columns rows numbers p1_a) H := hP
          have hD : va_D A (wd_X2_stillCells Γ q0 q1 q2 d0 d1 columns rows numbers p1_a) := hD
          refine lv_if_eq (tgt := 26) hx hb dX2_stillCells_19 (by decide) (fun hc_6 => ?_) (fun hc_6 => ?_)
          · have hf := vm_pos hc_6 hf
            refine lv_iconst (v := 0) hx hb dX2_stillCells_26 (by decide) ?_
            exact K_27 x3 x2 0 hP hD hS (lv_sub hl [0, 1, 3] rfl) hf
          · have hf := vm_neg hc_6 hf
            refine lv_iconst (v := 1) hx hb dX2_stillCells_22 (by decide) ?_
            refine lv_goto (tgt := 27) hx hb dX2_stillCells_23 (by decide) ?_
            exact K_27 x3 x2 1 hP hD hS (lv_sub hl [0, 1, 3] rfl) hf
    exact LP FU x2 x3 hP hD hS hl h1
  unfold f_X2_stillCells at hf
  refine lv_iconst (v := 0) hx hb dX2_stillCells_0 (by decide) ?_
  refine lv_istore_n (lv' := [(2, .int 0), (0, .ref q0), (1, .ref q2)]) hx hb dX2_stillCells_1 rfl hl (by decide) rfl (fun ls hl => ?_)
  refine lv_iconst (v := 0) hx hb dX2_stillCells_2 (by decide) ?_
  refine lv_istore_n (lv' := [(3, .int 0), (2, .int 0), (0, .ref q0), (1, .ref q2)]) hx hb dX2_stillCells_3 rfl hl (by decide) rfl (fun ls hl => ?_)
  exact K_4 0 0 hP hD hS (lv_sub hl [2, 3, 1, 0] rfl) hf
def wd_X2_likeness (Γ : GE) (q0 q1 q2 q3 d0 : Nat) (columns : Int32) (rows : Int32) (numbers : Nat → Int32) (figure : Nat → Int32) (p1_a : Nat → Int32) : va_W := [(q0, .inr (2, [.int columns, .int rows, .ref q1, .ref q2, .ref d0])), (q1, .inl (Γ.2.1 0, 7, .inl numbers)), (q2, .inl (Γ.2.1 0, 36, .inl figure)), (q3, .inl (Γ.2.1 0, 36, .inl p1_a))]
def f_X2_likeness_50 (x2 : Int32) : Option Int32 := some x2
def f_X2_likeness_42 (columns : Int32) (rows : Int32) (numbers : Nat → Int32) (figure : Nat → Int32) (p1_a : Nat → Int32) (x3 : Int32) (s0 : Int32) (s1 : Int32) (k : ((Int32 × Int32) → Option Int32)) : Option Int32 := k ((s0 + s1), (x3 + 1))
def f_X2_likeness_34 (columns : Int32) (rows : Int32) (numbers : Nat → Int32) (figure : Nat → Int32) (p1_a : Nat → Int32) (x3 : Int32) (s0 : Int32) (s1 : Int32) (s2 : Int32) (k : ((Int32 × Int32) → Option Int32)) : Option Int32 := if s1 = s2 then (f_X2_likeness_42 columns rows numbers figure p1_a x3 s0 1 k) else (f_X2_likeness_42 columns rows numbers figure p1_a x3 s0 0 k)
def f_X2_likeness_4b (columns : Int32) (rows : Int32) (numbers : Nat → Int32) (figure : Nat → Int32) (p1_a : Nat → Int32) (x2 : Int32) (x3 : Int32) (k : ((Int32 × Int32) → Option Int32)) : Option Int32 := ob1 (f_X2_cells columns rows) (fun r_2 => if r_2 ≤ x3 then (some x2) else (ob1 (f_X2_isStill numbers p1_a x3) (fun r_5 => if inb x3 36 = true then if (figure (x3.toNatClampNeg)) = 1 then (f_X2_likeness_34 columns rows numbers figure p1_a x3 x2 r_5 1 k) else (f_X2_likeness_34 columns rows numbers figure p1_a x3 x2 r_5 0 k) else none)))
def f_X2_likeness_4s (columns : Int32) (rows : Int32) (numbers : Nat → Int32) (figure : Nat → Int32) (p1_a : Nat → Int32) : (Int32 × Int32) → ((Int32 × Int32) → Option Int32) → Option Int32 := fun t k => f_X2_likeness_4b columns rows numbers figure p1_a t.1 t.2 k
def f_X2_likeness_4 (columns : Int32) (rows : Int32) (numbers : Nat → Int32) (figure : Nat → Int32) (p1_a : Nat → Int32) (x2 : Int32) (x3 : Int32) : Option Int32 := obx (vm_it (f_X2_likeness_4s columns rows numbers figure p1_a) FU (x2, x3)) (fun x2 => f_X2_likeness_50 x2)
def f_X2_likeness (columns : Int32) (rows : Int32) (numbers : Nat → Int32) (figure : Nat → Int32) (p1_a : Nat → Int32) : Option Int32 := f_X2_likeness_4 columns rows numbers figure p1_a 0 0
set_option maxHeartbeats 4000000 in
set_option maxRecDepth 100000 in
theorem c_X2_likeness (l : Launch) (Γ : GE) (sz : Nat) (q0 q1 q2 q3 d0 : Nat) (columns : Int32) (rows : Int32) (numbers : Nat → Int32) (figure : Nat → Int32) (p1_a : Nat → Int32) (ro : Int32) (hf : f_X2_likeness columns rows numbers figure p1_a = some ro) : MetI l yX2_likeness wsX2_likeness ({ frames := 1, cells := 0, slots := 0, locals := 22 } : Room) Γ [.ref q0, .ref q3] (wd_X2_likeness Γ q0 q1 q2 q3 d0 columns rows numbers figure p1_a) (wd_X2_likeness Γ q0 q1 q2 q3 d0 columns rows numbers figure p1_a) sz ro := by
  refine Met.ofW (cc := cX2_likeness) (maxL := 4) (ret := (some .int)) (by decide) rfl ?_
  intro p e s m args below meth c s₁ B hml hv
  obtain ⟨rfl, hsz, hE, hP, hD⟩ := hv
  have hx := B.exec
  have hb := B.bytes
  have hr := B.returns
  have hts := atoms_spec (ws := wsX2_likeness) B.pre
  have hown : s.vm.findClass RX2 = some m.cls := findClass_of_methodNamed B.named
  have hlocks := B.notSynchronized
  subst hsz
  generalize hAe : va_A (wd_X2_likeness Γ q0 q1 q2 q3 d0 columns rows numbers figure p1_a) s.heap.size = A at hE hD ⊢
  have hA : ∀ q : Nat, s.heap.size ≤ q → A q := fun q h => by rw [← hAe]; exact Or.inr h
  clear hAe
  have hS : va_S A s.heap s.heap [] := va_S.rf
  have hK := hE.1
  have hl := lv_entry ([.ref q0, .ref q3]) (n := 4) (Nat.le_of_ble_eq_true rfl)
  rw [lg_entry_eq]
  generalize (lg_sl ([.ref q0, .ref q3]) ++ List.replicate (4 - (lg_sl ([.ref q0, .ref q3])).length) Slot.unset).toArray = ls at hl ⊢
  have hl : lv_has ls 4 [(0, .ref q0), (1, .ref q3)] := hl
  have hi2 : ∀ w ∈ u_ws RX2 TX2 5, w ∈ wsX2_likeness := fun w h => (List.mem_cons_of_mem _ (List.mem_append_right _ h))
  obtain ⟨out, hout⟩ : ∃ o, o = ro := ⟨_, rfl⟩
  rw [← hout] at hf
  obtain ⟨QQ, hQQ⟩ : ∃ Q, Q = MQ below (va_Qi (fun (r' : Int32) (_ : Unit) => r' = ro) (CQ Γ (wd_X2_likeness Γ q0 q1 q2 q3 d0 columns rows numbers figure p1_a) A) A) (([.ref q0, .ref q3] : List Value).toArray) s 0 0 A := ⟨_, rfl⟩
  show W p l e ({ frames := 1, cells := 0, slots := 0, locals := 22 } : Room) s m (([.ref q0, .ref q3] : List Value).toArray) below meth c s.heap [] 0 0 (MQ below _ (([.ref q0, .ref q3] : List Value).toArray) s 0 0 A) (F0 m 0 ls [])
  rw [← hQQ]
  have K_50 : ∀ (x2 : Int32) {H : Heap} {locs : List Loc} {ls : Array Slot}, va_P Γ.1 vwCl (wd_X2_likeness Γ q0 q1 q2 q3 d0 columns rows numbers figure p1_a) H → va_D A (wd_X2_likeness Γ q0 q1 q2 q3 d0 columns rows numbers figure p1_a) → va_S A s.heap H locs → lv_has ls 4 [(2, .int x2)] → f_X2_likeness_50 x2 = some out → W p l e ({ frames := 1, cells := 0, slots := 0, locals := 22 } : Room) s m ([.ref q0, .ref q3] : List Value).toArray below meth c H locs 0 0 QQ (F0 m 50 ls []) := by
    intro x2 H locs ls hP hD hS hl hf
    unfold f_X2_likeness_50 at hf
    refine lv_iload_n hx hb dX2_likeness_50 rfl (lv_at hl 0 rfl) ?_
    subst hout; obtain rfl := Option.some.inj hf
    subst hQQ
    exact W.iret hx hb hr (fun t ht hW => ⟨⟨_, (), rfl, rfl, by rw [ht]; exact hP, hD⟩, hS.F ht⟩) hS.2.2 dX2_likeness_51
  have K_4 : ∀ (x2 : Int32) (x3 : Int32) {H : Heap} {locs : List Loc} {ls : Array Slot}, va_P Γ.1 vwCl (wd_X2_likeness Γ q0 q1 q2 q3 d0 columns rows numbers figure p1_a) H → va_D A (wd_X2_likeness Γ q0 q1 q2 q3 d0 columns rows numbers figure p1_a) → va_S A s.heap H locs → lv_has ls 4 [(0, .ref q0), (1, .ref q3), (2, .int x2), (3, .int x3)] → f_X2_likeness_4 columns rows numbers figure p1_a x2 x3 = some out → W p l e ({ frames := 1, cells := 0, slots := 0, locals := 22 } : Room) s m ([.ref q0, .ref q3] : List Value).toArray below meth c H locs 0 0 QQ (F0 m 4 ls []) := by
    intro x2 x3 H locs ls hP hD hS hl hf
    unfold f_X2_likeness_4 at hf
    obtain ⟨ex4, h1, hX4⟩ := obx_some hf
    have LP : ∀ (n : Nat) (x2 : Int32) (x3 : Int32)  {H : Heap} {locs : List Loc} {ls : Array Slot}, va_P Γ.1 vwCl (wd_X2_likeness Γ q0 q1 q2 q3 d0 columns rows numbers figure p1_a) H → va_D A (wd_X2_likeness Γ q0 q1 q2 q3 d0 columns rows numbers figure p1_a) → va_S A s.heap H locs → lv_has ls 4 [(0, .ref q0), (1, .ref q3), (2, .int x2), (3, .int x3)] → vm_it (f_X2_likeness_4s columns rows numbers figure p1_a) n (x2, x3) = some ex4 → W p l e ({ frames := 1, cells := 0, slots := 0, locals := 22 } : Room) s m ([.ref q0, .ref q3] : List Value).toArray below meth c H locs 0 0 QQ (F0 m 4 ls []) := by
      clear hP hD hS hl hf h1
      intro n
      induction n with
      | zero => intro x2 x3 H locs ls hP hD hS hl hf; exact (vm_it_0 hf).elim
      | succ n ih =>
        intro x2 x3 H locs ls hP hD hS hl hf
        have hf : f_X2_likeness_4b columns rows numbers figure p1_a x2 x3 (vm_it (f_X2_likeness_4s columns rows numbers figure p1_a) n) = some ex4 := hf
        have K_42 : ∀ (x3 : Int32) (s0 : Int32) (s1 : Int32) {H : Heap} {locs : List Loc} {ls : Array Slot}, va_P Γ.1 vwCl (wd_X2_likeness Γ q0 q1 q2 q3 d0 columns rows numbers figure p1_a) H → va_D A (wd_X2_likeness Γ q0 q1 q2 q3 d0 columns rows numbers figure p1_a) → va_S A s.heap H locs → lv_has ls 4 [(0, .ref q0), (1, .ref q3), (3, .int x3)] → f_X2_likeness_42 columns rows numbers figure p1_a x3 s0 s1 (vm_it (f_X2_likeness_4s columns rows numbers figure p1_a) n) = some ex4 → W p l e ({ frames := 1, cells := 0, slots := 0, locals := 22 } : Room) s m ([.ref q0, .ref q3] : List Value).toArray below meth c H locs 0 0 QQ (F0 m 42 ls [.int s1, .int s0]) := by
          intro x3 s0 s1 H locs ls hP hD hS hl hf
          unfold f_X2_likeness_42 at hf
          refine lv_iadd hx hb dX2_likeness_42 ?_
          refine lv_istore_n (lv' := [(2, .int (s0 + s1)), (0, .ref q0), (1, .ref q3), (3, .int x3)]) hx hb dX2_likeness_43 rfl hl (by decide) rfl (fun ls hl => ?_)
          refine lv_iinc (v := (x3 + 1)) (lv' := [(3, .int (x3 + 1)), (2, .int (s0 + s1)), (0, .ref q0), (1, .ref q3)]) hx hb dX2_likeness_44 hl (k := 3) rfl rfl (by decide) rfl (fun ls hl => ?_)
          refine lv_goto (tgt := 4) hx hb dX2_likeness_47 (by decide) ?_
          exact ih (s0 + s1) (x3 + 1) hP hD hS (lv_sub hl [2, 3, 1, 0] rfl) hf
        have K_34 : ∀ (x3 : Int32) (s0 : Int32) (s1 : Int32) (s2 : Int32) {H : Heap} {locs : List Loc} {ls : Array Slot}, va_P Γ.1 vwCl (wd_X2_likeness Γ q0 q1 q2 q3 d0 columns rows numbers figure p1_a) H → va_D A (wd_X2_likeness Γ q0 q1 q2 q3 d0 columns rows numbers figure p1_a) → va_S A s.heap H locs → lv_has ls 4 [(0, .ref q0), (1, .ref q3), (3, .int x3)] → f_X2_likeness_34 columns rows numbers figure p1_a x3 s0 s1 s2 (vm_it (f_X2_likeness_4s columns rows numbers figure p1_a) n) = some ex4 → W p l e ({ frames := 1, cells := 0, slots := 0, locals := 22 } : Room) s m ([.ref q0, .ref q3] : List Value).toArray below meth c H locs 0 0 QQ (F0 m 34 ls [.int s2, .int s1, .int s0]) := by
          intro x3 s0 s1 s2 H locs ls hP hD hS hl hf
          unfold f_X2_likeness_34 at hf
          refine lv_icmp_ne (tgt := 41) hx hb dX2_likeness_34 (by decide) (fun hc_1 => ?_) (fun hc_1 => ?_)
          · have hf := vm_neg hc_1 hf
            refine lv_iconst (v := 0) hx hb dX2_likeness_41 (by decide) ?_
            exact K_42 x3 s0 0 hP hD hS (lv_sub hl [0, 1, 2] rfl) hf
          · have hf := vm_pos hc_1 hf
            refine lv_iconst (v := 1) hx hb dX2_likeness_37 (by decide) ?_
            refine lv_goto (tgt := 42) hx hb dX2_likeness_38 (by decide) ?_
            exact K_42 x3 s0 1 hP hD hS (lv_sub hl [0, 1, 2] rfl) hf
        unfold f_X2_likeness_4b at hf
        refine lv_iload_n hx hb dX2_likeness_4 rfl (lv_at hl 3 rfl) ?_
        refine lv_aload_n hx hb dX2_likeness_5 rfl (lv_at hl 0 rfl) ?_
        obtain ⟨r_2, hq_3, hf⟩ := ob1_some hf
        refine vm_cVi (isC := [0]) (wc := (wd_X2_cells Γ q0 q1 q2 d0 columns rows)) (w1 := (wd_X2_cells Γ q0 q1 q2 d0 columns rows)) (As := []) (rest := [.int x3]) ⟨hx, hb, hml, hown, hts⟩ hE hP hD hS hA rfl rfl rfl (c_X2_cells l Γ _ q0 q1 q2 d0 columns rows r_2 hq_3) (cwV 0 hts gX2_likeness_X2_cells rfl rfl rfl (by decide +kernel) ⟨Nat.le_of_ble_eq_true rfl, Nat.le_of_ble_eq_true rfl⟩) (va_recv (ci := 2) (q0 := 0) hK hP rfl rfl) rfl hl.1 rfl (Nat.le_of_ble_eq_true rfl) dX2_likeness_6 ⟨Nat.zero_le _, Nat.zero_le _⟩ (fun H locs hP hD hS => ?_)
        have hP : va_P Γ.1 vwCl (wd_X2_likeness Γ q0 q1 q2 q3 d0 columns rows numbers figure p1_a) H := hP
        have hD : va_D A (wd_X2_likeness Γ q0 q1 q2 q3 d0 columns rows numbers figure p1_a) := hD
        refine lv_icmp_ge (tgt := 50) hx hb dX2_likeness_9 (by decide) (fun hc_4 => ?_) (fun hc_4 => ?_)
        · have hf := vm_pos hc_4 hf
          have hX := hX4
          rw [← Option.some.inj hf] at hX
          exact K_50 x2 hP hD hS (lv_sub hl [2] rfl) hX
        · have hf := vm_neg hc_4 hf
          refine lv_iload_n hx hb dX2_likeness_12 rfl (lv_at hl 2 rfl) ?_
          refine lv_aload_n hx hb dX2_likeness_13 rfl (lv_at hl 0 rfl) ?_
          refine lv_aload_n hx hb dX2_likeness_14 rfl (lv_at hl 1 rfl) ?_
          refine lv_iload_n hx hb dX2_likeness_15 rfl (lv_at hl 3 rfl) ?_
          obtain ⟨r_5, hq_6, hf⟩ := ob1_some hf
          refine vm_cVi (isC := [0, 1, 3]) (wc := (wd_X2_isStill Γ q0 q1 q3 q2 d0 columns rows numbers p1_a)) (w1 := (wd_X2_isStill Γ q0 q1 q3 q2 d0 columns rows numbers p1_a)) (As := [.ref q3, .int x3]) (rest := [.int x2]) ⟨hx, hb, hml, hown, hts⟩ hE hP hD hS hA rfl rfl rfl (c_X2_isStill l Γ _ q0 q1 q3 q2 d0 columns rows numbers p1_a x3 r_5 hq_6) (cwV 2 hts gX2_likeness_X2_isStill rfl rfl rfl (by decide +kernel) ⟨Nat.le_of_ble_eq_true rfl, Nat.le_of_ble_eq_true rfl⟩) (va_recv (ci := 2) (q0 := 0) hK hP rfl rfl) rfl hl.1 rfl (Nat.le_of_ble_eq_true rfl) dX2_likeness_16 ⟨Nat.zero_le _, Nat.zero_le _⟩ (fun H locs hP hD hS => ?_)
          have hP : va_P Γ.1 vwCl (wd_X2_likeness Γ q0 q1 q2 q3 d0 columns rows numbers figure p1_a) H := hP
          have hD : va_D A (wd_X2_likeness Γ q0 q1 q2 q3 d0 columns rows numbers figure p1_a) := hD
          refine lv_aload_n hx hb dX2_likeness_19 rfl (lv_at hl 0 rfl) ?_
          refine va_get (D := Γ.1) (ci := 2) (v := .ref q2) (C := RX2) (T := TX2) (N := 5) hx hb hts hi2 hown hK hP 0 rfl rfl 3 (by decide) (hts (.fieldLink RX2 15 "SandPlates$Plate" "figure" "[I") (List.mem_of_getElem? (i := 1) rfl)) (fun _ h9 => h9) rfl dX2_likeness_20 ?_
          refine lv_iload_n hx hb dX2_likeness_23 rfl (lv_at hl 3 rfl) ?_
          obtain ⟨hc_7, hf⟩ := vm_ck hf
          refine vm_iald hx hb hK hP 2 0 rfl rfl hc_7 (j := x3.toNatClampNeg) rfl dX2_likeness_24 ?_
          refine lv_iconst (v := 1) hx hb dX2_likeness_25 (by decide) ?_
          refine lv_icmp_ne (tgt := 33) hx hb dX2_likeness_26 (by decide) (fun hc_8 => ?_) (fun hc_8 => ?_)
          · have hf := vm_neg hc_8 hf
            refine lv_iconst (v := 0) hx hb dX2_likeness_33 (by decide) ?_
            exact K_34 x3 x2 r_5 0 hP hD hS (lv_sub hl [0, 1, 3] rfl) hf
          · have hf := vm_pos hc_8 hf
            refine lv_iconst (v := 1) hx hb dX2_likeness_29 (by decide) ?_
            refine lv_goto (tgt := 34) hx hb dX2_likeness_30 (by decide) ?_
            exact K_34 x3 x2 r_5 1 hP hD hS (lv_sub hl [0, 1, 3] rfl) hf
    exact LP FU x2 x3 hP hD hS hl h1
  unfold f_X2_likeness at hf
  refine lv_iconst (v := 0) hx hb dX2_likeness_0 (by decide) ?_
  refine lv_istore_n (lv' := [(2, .int 0), (0, .ref q0), (1, .ref q3)]) hx hb dX2_likeness_1 rfl hl (by decide) rfl (fun ls hl => ?_)
  refine lv_iconst (v := 0) hx hb dX2_likeness_2 (by decide) ?_
  refine lv_istore_n (lv' := [(3, .int 0), (2, .int 0), (0, .ref q0), (1, .ref q3)]) hx hb dX2_likeness_3 rfl hl (by decide) rfl (fun ls hl => ?_)
  exact K_4 0 0 hP hD hS (lv_sub hl [2, 3, 1, 0] rfl) hf
def wd_X2_stepsToNearest (Γ : GE) (q0 q1 q2 q3 d0 : Nat) (columns : Int32) (rows : Int32) (numbers : Nat → Int32) (figure : Nat → Int32) (p1_a : Nat → Int32) : va_W := [(q0, .inr (2, [.int columns, .int rows, .ref q1, .ref q2, .ref d0])), (q1, .inl (Γ.2.1 0, 7, .inl numbers)), (q2, .inl (Γ.2.1 0, 36, .inl figure)), (q3, .inl (Γ.2.1 0, 36, .inl p1_a))]
def f_X2_stepsToNearest_103 (x5 : Int32) : Option Int32 := some x5
def f_X2_stepsToNearest_97 (columns : Int32) (rows : Int32) (numbers : Nat → Int32) (figure : Nat → Int32) (p1_a : Nat → Int32) (x2 : Int32) (x3 : Int32) (x4 : Int32) (x5 : Int32) (x6 : Int32) (k : ((Int32 × Int32) → Option Int32)) : Option Int32 := k (x5, (x6 + 1))
def f_X2_stepsToNearest_91 (columns : Int32) (rows : Int32) (numbers : Nat → Int32) (figure : Nat → Int32) (p1_a : Nat → Int32) (x2 : Int32) (x3 : Int32) (x4 : Int32) (x5 : Int32) (x6 : Int32) (x7 : Int32) (k : ((Int32 × Int32) → Option Int32)) : Option Int32 := k (x5, (x7 + 1))
def f_X2_stepsToNearest_68 (columns : Int32) (rows : Int32) (numbers : Nat → Int32) (figure : Nat → Int32) (p1_a : Nat → Int32) (x2 : Int32) (x3 : Int32) (x4 : Int32) (x5 : Int32) (x6 : Int32) (x7 : Int32) (k : ((Int32 × Int32) → Option Int32)) : Option Int32 := f_X2_stepsToNearest_91 columns rows numbers figure p1_a x2 x3 x4 (if ((if 0 ≤ (x7 - x3) then (x7 - x3) else -(x7 - x3)) + (if 0 ≤ (x6 - x4) then (x6 - x4) else -(x6 - x4))) < x5 then ((if 0 ≤ (x7 - x3) then (x7 - x3) else -(x7 - x3)) + (if 0 ≤ (x6 - x4) then (x6 - x4) else -(x6 - x4))) else x5) x6 x7 k
def f_X2_stepsToNearest_19b (columns : Int32) (rows : Int32) (numbers : Nat → Int32) (figure : Nat → Int32) (p1_a : Nat → Int32) (x2 : Int32) (x3 : Int32) (x4 : Int32) (x6 : Int32) (x5 : Int32) (x7 : Int32) (k : ((Int32 × Int32) → Option Int32)) : Option Int32 := if columns ≤ x7 then (some x5) else (if x2 = 0 then (if inb ((columns * x6) + x7) 36 = true then if (figure (((columns * x6) + x7).toNatClampNeg)) = 1 then (f_X2_stepsToNearest_68 columns rows numbers figure p1_a x2 x3 x4 x5 x6 x7 k) else (f_X2_stepsToNearest_91 columns rows numbers figure p1_a x2 x3 x4 x5 x6 x7 k) else none) else (ob1 (f_X2_isStill numbers p1_a ((columns * x6) + x7)) (fun r_5 => if r_5 = 0 then (f_X2_stepsToNearest_91 columns rows numbers figure p1_a x2 x3 x4 x5 x6 x7 k) else (f_X2_stepsToNearest_68 columns rows numbers figure p1_a x2 x3 x4 x5 x6 x7 k))))
def f_X2_stepsToNearest_19s (columns : Int32) (rows : Int32) (numbers : Nat → Int32) (figure : Nat → Int32) (p1_a : Nat → Int32) (x2 : Int32) (x3 : Int32) (x4 : Int32) (x6 : Int32) : (Int32 × Int32) → ((Int32 × Int32) → Option Int32) → Option Int32 := fun t k => f_X2_stepsToNearest_19b columns rows numbers figure p1_a x2 x3 x4 x6 t.1 t.2 k
def f_X2_stepsToNearest_19 (columns : Int32) (rows : Int32) (numbers : Nat → Int32) (figure : Nat → Int32) (p1_a : Nat → Int32) (x2 : Int32) (x3 : Int32) (x4 : Int32) (x5 : Int32) (x6 : Int32) (x7 : Int32) (k : ((Int32 × Int32) → Option Int32)) : Option Int32 := obx (vm_it (f_X2_stepsToNearest_19s columns rows numbers figure p1_a x2 x3 x4 x6) FU (x5, x7)) (fun x5 => f_X2_stepsToNearest_97 columns rows numbers figure p1_a x2 x3 x4 x5 x6 k)
def f_X2_stepsToNearest_7b (columns : Int32) (rows : Int32) (numbers : Nat → Int32) (figure : Nat → Int32) (p1_a : Nat → Int32) (x2 : Int32) (x3 : Int32) (x4 : Int32) (x5 : Int32) (x6 : Int32) (k : ((Int32 × Int32) → Option Int32)) : Option Int32 := if rows ≤ x6 then (some x5) else (f_X2_stepsToNearest_19 columns rows numbers figure p1_a x2 x3 x4 x5 x6 0 k)
def f_X2_stepsToNearest_7s (columns : Int32) (rows : Int32) (numbers : Nat → Int32) (figure : Nat → Int32) (p1_a : Nat → Int32) (x2 : Int32) (x3 : Int32) (x4 : Int32) : (Int32 × Int32) → ((Int32 × Int32) → Option Int32) → Option Int32 := fun t k => f_X2_stepsToNearest_7b columns rows numbers figure p1_a x2 x3 x4 t.1 t.2 k
def f_X2_stepsToNearest_7 (columns : Int32) (rows : Int32) (numbers : Nat → Int32) (figure : Nat → Int32) (p1_a : Nat → Int32) (x2 : Int32) (x3 : Int32) (x4 : Int32) (x5 : Int32) (x6 : Int32) : Option Int32 := obx (vm_it (f_X2_stepsToNearest_7s columns rows numbers figure p1_a x2 x3 x4) FU (x5, x6)) (fun x5 => f_X2_stepsToNearest_103 x5)
def f_X2_stepsToNearest (columns : Int32) (rows : Int32) (numbers : Nat → Int32) (figure : Nat → Int32) (p1_a : Nat → Int32) (x2 : Int32) (x3 : Int32) (x4 : Int32) : Option Int32 := f_X2_stepsToNearest_7 columns rows numbers figure p1_a x2 x3 x4 36 0
set_option maxHeartbeats 4000000 in
set_option maxRecDepth 100000 in
theorem c_X2_stepsToNearest (l : Launch) (Γ : GE) (sz : Nat) (q0 q1 q2 q3 d0 : Nat) (columns : Int32) (rows : Int32) (numbers : Nat → Int32) (figure : Nat → Int32) (p1_a : Nat → Int32) (x2 : Int32) (x3 : Int32) (x4 : Int32) (ro : Int32) (hf : f_X2_stepsToNearest columns rows numbers figure p1_a x2 x3 x4 = some ro) : MetI l yX2_stepsToNearest wsX2_stepsToNearest ({ frames := 1, cells := 0, slots := 0, locals := 22 } : Room) Γ [.ref q0, .ref q3, .int x2, .int x3, .int x4] (wd_X2_stepsToNearest Γ q0 q1 q2 q3 d0 columns rows numbers figure p1_a) (wd_X2_stepsToNearest Γ q0 q1 q2 q3 d0 columns rows numbers figure p1_a) sz ro := by
  refine Met.ofW (cc := cX2_stepsToNearest) (maxL := 9) (ret := (some .int)) (by decide) rfl ?_
  intro p e s m args below meth c s₁ B hml hv
  obtain ⟨rfl, hsz, hE, hP, hD⟩ := hv
  have hx := B.exec
  have hb := B.bytes
  have hr := B.returns
  have hts := atoms_spec (ws := wsX2_stepsToNearest) B.pre
  have hown : s.vm.findClass RX2 = some m.cls := findClass_of_methodNamed B.named
  have hlocks := B.notSynchronized
  subst hsz
  generalize hAe : va_A (wd_X2_stepsToNearest Γ q0 q1 q2 q3 d0 columns rows numbers figure p1_a) s.heap.size = A at hE hD ⊢
  have hA : ∀ q : Nat, s.heap.size ≤ q → A q := fun q h => by rw [← hAe]; exact Or.inr h
  clear hAe
  have hS : va_S A s.heap s.heap [] := va_S.rf
  have hK := hE.1
  have hl := lv_entry ([.ref q0, .ref q3, .int x2, .int x3, .int x4]) (n := 9) (Nat.le_of_ble_eq_true rfl)
  rw [lg_entry_eq]
  generalize (lg_sl ([.ref q0, .ref q3, .int x2, .int x3, .int x4]) ++ List.replicate (9 - (lg_sl ([.ref q0, .ref q3, .int x2, .int x3, .int x4])).length) Slot.unset).toArray = ls at hl ⊢
  have hl : lv_has ls 9 [(0, .ref q0), (1, .ref q3), (2, .int x2), (3, .int x3), (4, .int x4)] := hl
  have hi2 : ∀ w ∈ u_ws RX2 TX2 5, w ∈ wsX2_stepsToNearest := fun w h => (List.mem_cons_of_mem _ (List.mem_append_right _ h))
  obtain ⟨out, hout⟩ : ∃ o, o = ro := ⟨_, rfl⟩
  rw [← hout] at hf
  obtain ⟨QQ, hQQ⟩ : ∃ Q, Q = MQ below (va_Qi (fun (r' : Int32) (_ : Unit) => r' = ro) (CQ Γ (wd_X2_stepsToNearest Γ q0 q1 q2 q3 d0 columns rows numbers figure p1_a) A) A) (([.ref q0, .ref q3, .int x2, .int x3, .int x4] : List Value).toArray) s 0 0 A := ⟨_, rfl⟩
  show W p l e ({ frames := 1, cells := 0, slots := 0, locals := 22 } : Room) s m (([.ref q0, .ref q3, .int x2, .int x3, .int x4] : List Value).toArray) below meth c s.heap [] 0 0 (MQ below _ (([.ref q0, .ref q3, .int x2, .int x3, .int x4] : List Value).toArray) s 0 0 A) (F0 m 0 ls [])
  rw [← hQQ]
  have K_103 : ∀ (x5 : Int32) {H : Heap} {locs : List Loc} {ls : Array Slot}, va_P Γ.1 vwCl (wd_X2_stepsToNearest Γ q0 q1 q2 q3 d0 columns rows numbers figure p1_a) H → va_D A (wd_X2_stepsToNearest Γ q0 q1 q2 q3 d0 columns rows numbers figure p1_a) → va_S A s.heap H locs → lv_has ls 9 [(5, .int x5)] → f_X2_stepsToNearest_103 x5 = some out → W p l e ({ frames := 1, cells := 0, slots := 0, locals := 22 } : Room) s m ([.ref q0, .ref q3, .int x2, .int x3, .int x4] : List Value).toArray below meth c H locs 0 0 QQ (F0 m 103 ls []) := by
    intro x5 H locs ls hP hD hS hl hf
    unfold f_X2_stepsToNearest_103 at hf
    refine lv_iload hx hb dX2_stepsToNearest_103 (lv_at hl 0 rfl) ?_
    subst hout; obtain rfl := Option.some.inj hf
    subst hQQ
    exact W.iret hx hb hr (fun t ht hW => ⟨⟨_, (), rfl, rfl, by rw [ht]; exact hP, hD⟩, hS.F ht⟩) hS.2.2 dX2_stepsToNearest_105
  have K_7 : ∀ (x5 : Int32) (x6 : Int32) {H : Heap} {locs : List Loc} {ls : Array Slot}, va_P Γ.1 vwCl (wd_X2_stepsToNearest Γ q0 q1 q2 q3 d0 columns rows numbers figure p1_a) H → va_D A (wd_X2_stepsToNearest Γ q0 q1 q2 q3 d0 columns rows numbers figure p1_a) → va_S A s.heap H locs → lv_has ls 9 [(0, .ref q0), (1, .ref q3), (2, .int x2), (3, .int x3), (4, .int x4), (5, .int x5), (6, .int x6)] → f_X2_stepsToNearest_7 columns rows numbers figure p1_a x2 x3 x4 x5 x6 = some out → W p l e ({ frames := 1, cells := 0, slots := 0, locals := 22 } : Room) s m ([.ref q0, .ref q3, .int x2, .int x3, .int x4] : List Value).toArray below meth c H locs 0 0 QQ (F0 m 7 ls []) := by
    intro x5 x6 H locs ls hP hD hS hl hf
    unfold f_X2_stepsToNearest_7 at hf
    obtain ⟨ex7, h1, hX7⟩ := obx_some hf
    have LP : ∀ (n : Nat) (x5 : Int32) (x6 : Int32)  {H : Heap} {locs : List Loc} {ls : Array Slot}, va_P Γ.1 vwCl (wd_X2_stepsToNearest Γ q0 q1 q2 q3 d0 columns rows numbers figure p1_a) H → va_D A (wd_X2_stepsToNearest Γ q0 q1 q2 q3 d0 columns rows numbers figure p1_a) → va_S A s.heap H locs → lv_has ls 9 [(0, .ref q0), (1, .ref q3), (2, .int x2), (3, .int x3), (4, .int x4), (5, .int x5), (6, .int x6)] → vm_it (f_X2_stepsToNearest_7s columns rows numbers figure p1_a x2 x3 x4) n (x5, x6) = some ex7 → W p l e ({ frames := 1, cells := 0, slots := 0, locals := 22 } : Room) s m ([.ref q0, .ref q3, .int x2, .int x3, .int x4] : List Value).toArray below meth c H locs 0 0 QQ (F0 m 7 ls []) := by
      clear hP hD hS hl hf h1
      intro n
      induction n with
      | zero => intro x5 x6 H locs ls hP hD hS hl hf; exact (vm_it_0 hf).elim
      | succ n ih =>
        intro x5 x6 H locs ls hP hD hS hl hf
        have hf : f_X2_stepsToNearest_7b columns rows numbers figure p1_a x2 x3 x4 x5 x6 (vm_it (f_X2_stepsToNearest_7s columns rows numbers figure p1_a x2 x3 x4) n) = some ex7 := hf
        have K_97 : ∀ (x5 : Int32) (x6 : Int32) {H : Heap} {locs : List Loc} {ls : Array Slot}, va_P Γ.1 vwCl (wd_X2_stepsToNearest Γ q0 q1 q2 q3 d0 columns rows numbers figure p1_a) H → va_D A (wd_X2_stepsToNearest Γ q0 q1 q2 q3 d0 columns rows numbers figure p1_a) → va_S A s.heap H locs → lv_has ls 9 [(0, .ref q0), (1, .ref q3), (2, .int x2), (3, .int x3), (4, .int x4), (5, .int x5), (6, .int x6)] → f_X2_stepsToNearest_97 columns rows numbers figure p1_a x2 x3 x4 x5 x6 (vm_it (f_X2_stepsToNearest_7s columns rows numbers figure p1_a x2 x3 x4) n) = some ex7 → W p l e ({ frames := 1, cells := 0, slots := 0, locals := 22 } : Room) s m ([.ref q0, .ref q3, .int x2, .int x3, .int x4] : List Value).toArray below meth c H locs 0 0 QQ (F0 m 97 ls []) := by
          intro x5 x6 H locs ls hP hD hS hl hf
          unfold f_X2_stepsToNearest_97 at hf
          refine lv_iinc (v := (x6 + 1)) (lv' := [(6, .int (x6 + 1)), (0, .ref q0), (1, .ref q3), (2, .int x2), (3, .int x3), (4, .int x4), (5, .int x5)]) hx hb dX2_stepsToNearest_97 hl (k := 6) rfl rfl (by decide) rfl (fun ls hl => ?_)
          refine lv_goto (tgt := 7) hx hb dX2_stepsToNearest_100 (by decide) ?_
          exact ih x5 (x6 + 1) hP hD hS (lv_sub hl [1, 2, 3, 4, 5, 6, 0] rfl) hf
        have K_19 : ∀ (x5 : Int32) (x6 : Int32) (x7 : Int32) {H : Heap} {locs : List Loc} {ls : Array Slot}, va_P Γ.1 vwCl (wd_X2_stepsToNearest Γ q0 q1 q2 q3 d0 columns rows numbers figure p1_a) H → va_D A (wd_X2_stepsToNearest Γ q0 q1 q2 q3 d0 columns rows numbers figure p1_a) → va_S A s.heap H locs → lv_has ls 9 [(0, .ref q0), (1, .ref q3), (2, .int x2), (3, .int x3), (4, .int x4), (5, .int x5), (6, .int x6), (7, .int x7)] → f_X2_stepsToNearest_19 columns rows numbers figure p1_a x2 x3 x4 x5 x6 x7 (vm_it (f_X2_stepsToNearest_7s columns rows numbers figure p1_a x2 x3 x4) n) = some ex7 → W p l e ({ frames := 1, cells := 0, slots := 0, locals := 22 } : Room) s m ([.ref q0, .ref q3, .int x2, .int x3, .int x4] : List Value).toArray below meth c H locs 0 0 QQ (F0 m 19 ls []) := by
          intro x5 x6 x7 H locs ls hP hD hS hl hf
          unfold f_X2_stepsToNearest_19 at hf
          obtain ⟨ex19, h1, hX19⟩ := obx_some hf
          have LP : ∀ (n : Nat) (x5 : Int32) (x7 : Int32)  {H : Heap} {locs : List Loc} {ls : Array Slot}, va_P Γ.1 vwCl (wd_X2_stepsToNearest Γ q0 q1 q2 q3 d0 columns rows numbers figure p1_a) H → va_D A (wd_X2_stepsToNearest Γ q0 q1 q2 q3 d0 columns rows numbers figure p1_a) → va_S A s.heap H locs → lv_has ls 9 [(0, .ref q0), (1, .ref q3), (2, .int x2), (3, .int x3), (4, .int x4), (5, .int x5), (6, .int x6), (7, .int x7)] → vm_it (f_X2_stepsToNearest_19s columns rows numbers figure p1_a x2 x3 x4 x6) n (x5, x7) = some ex19 → W p l e ({ frames := 1, cells := 0, slots := 0, locals := 22 } : Room) s m ([.ref q0, .ref q3, .int x2, .int x3, .int x4] : List Value).toArray below meth c H locs 0 0 QQ (F0 m 19 ls []) := by
            clear hP hD hS hl hf h1
            intro n
            induction n with
            | zero => intro x5 x7 H locs ls hP hD hS hl hf; exact (vm_it_0 hf).elim
            | succ n ih =>
              intro x5 x7 H locs ls hP hD hS hl hf
              have hf : f_X2_stepsToNearest_19b columns rows numbers figure p1_a x2 x3 x4 x6 x5 x7 (vm_it (f_X2_stepsToNearest_19s columns rows numbers figure p1_a x2 x3 x4 x6) n) = some ex19 := hf
              have K_91 : ∀ (x5 : Int32) (x7 : Int32) {H : Heap} {locs : List Loc} {ls : Array Slot}, va_P Γ.1 vwCl (wd_X2_stepsToNearest Γ q0 q1 q2 q3 d0 columns rows numbers figure p1_a) H → va_D A (wd_X2_stepsToNearest Γ q0 q1 q2 q3 d0 columns rows numbers figure p1_a) → va_S A s.heap H locs → lv_has ls 9 [(0, .ref q0), (1, .ref q3), (2, .int x2), (3, .int x3), (4, .int x4), (5, .int x5), (6, .int x6), (7, .int x7)] → f_X2_stepsToNearest_91 columns rows numbers figure p1_a x2 x3 x4 x5 x6 x7 (vm_it (f_X2_stepsToNearest_19s columns rows numbers figure p1_a x2 x3 x4 x6) n) = some ex19 → W p l e ({ frames := 1, cells := 0, slots := 0, locals := 22 } : Room) s m ([.ref q0, .ref q3, .int x2, .int x3, .int x4] : List Value).toArray below meth c H locs 0 0 QQ (F0 m 91 ls []) := by
                intro x5 x7 H locs ls hP hD hS hl hf
                unfold f_X2_stepsToNearest_91 at hf
                refine lv_iinc (v := (x7 + 1)) (lv' := [(7, .int (x7 + 1)), (0, .ref q0), (1, .ref q3), (2, .int x2), (3, .int x3), (4, .int x4), (5, .int x5), (6, .int x6)]) hx hb dX2_stepsToNearest_91 hl (k := 7) rfl rfl (by decide) rfl (fun ls hl => ?_)
                refine lv_goto (tgt := 19) hx hb dX2_stepsToNearest_94 (by decide) ?_
                exact ih x5 (x7 + 1) hP hD hS (lv_sub hl [1, 2, 3, 4, 5, 6, 7, 0] rfl) hf
              have K_68 : ∀ (x5 : Int32) (x7 : Int32) {H : Heap} {locs : List Loc} {ls : Array Slot}, va_P Γ.1 vwCl (wd_X2_stepsToNearest Γ q0 q1 q2 q3 d0 columns rows numbers figure p1_a) H → va_D A (wd_X2_stepsToNearest Γ q0 q1 q2 q3 d0 columns rows numbers figure p1_a) → va_S A s.heap H locs → lv_has ls 9 [(0, .ref q0), (1, .ref q3), (2, .int x2), (3, .int x3), (4, .int x4), (5, .int x5), (6, .int x6), (7, .int x7)] → f_X2_stepsToNearest_68 columns rows numbers figure p1_a x2 x3 x4 x5 x6 x7 (vm_it (f_X2_stepsToNearest_19s columns rows numbers figure p1_a x2 x3 x4 x6) n) = some ex19 → W p l e ({ frames := 1, cells := 0, slots := 0, locals := 22 } : Room) s m ([.ref q0, .ref q3, .int x2, .int x3, .int x4] : List Value).toArray below meth c H locs 0 0 QQ (F0 m 68 ls []) := by
                intro x5 x7 H locs ls hP hD hS hl hf
                unfold f_X2_stepsToNearest_68 at hf
                refine lv_iload hx hb dX2_stepsToNearest_68 (lv_at hl 5 rfl) ?_
                refine lv_iload hx hb dX2_stepsToNearest_70 (lv_at hl 7 rfl) ?_
                refine lv_iload_n hx hb dX2_stepsToNearest_72 rfl (lv_at hl 3 rfl) ?_
                refine lv_isub hx hb dX2_stepsToNearest_73 ?_
                refine va_mabs hx hb (hml.trans hl.1.symm) hown (hts (.methodLink RX2 74 Lib.Math.abs.name) (List.mem_of_getElem? (i := 4) rfl)) (hts (.static Lib.Math.abs.name) (List.mem_of_getElem? (i := 5) rfl)) (hts (.initialized "java/lang/Math") (List.mem_of_getElem? (i := 6) rfl)) (hts (.code Lib.Math.abs.name Lib.Math.abs.code 1 (some .int)) (List.mem_of_getElem? (i := 7) rfl)) (Nat.le_of_ble_eq_true rfl) (Nat.le_of_ble_eq_true rfl) (Nat.zero_le _) (Nat.zero_le _) dX2_stepsToNearest_74 ?_
                refine lv_iload hx hb dX2_stepsToNearest_77 (lv_at hl 6 rfl) ?_
                refine lv_iload hx hb dX2_stepsToNearest_79 (lv_at hl 4 rfl) ?_
                refine lv_isub hx hb dX2_stepsToNearest_81 ?_
                refine va_mabs hx hb (hml.trans hl.1.symm) hown (hts (.methodLink RX2 74 Lib.Math.abs.name) (List.mem_of_getElem? (i := 4) rfl)) (hts (.static Lib.Math.abs.name) (List.mem_of_getElem? (i := 5) rfl)) (hts (.initialized "java/lang/Math") (List.mem_of_getElem? (i := 6) rfl)) (hts (.code Lib.Math.abs.name Lib.Math.abs.code 1 (some .int)) (List.mem_of_getElem? (i := 7) rfl)) (Nat.le_of_ble_eq_true rfl) (Nat.le_of_ble_eq_true rfl) (Nat.zero_le _) (Nat.zero_le _) dX2_stepsToNearest_82 ?_
                refine lv_iadd hx hb dX2_stepsToNearest_85 ?_
                refine va_mmin hx hb (hml.trans hl.1.symm) hown (hts (.methodLink RX2 78 Lib.Math.min.name) (List.mem_of_getElem? (i := 8) rfl)) (hts (.static Lib.Math.min.name) (List.mem_of_getElem? (i := 9) rfl)) (hts (.initialized "java/lang/Math") (List.mem_of_getElem? (i := 6) rfl)) (hts (.code Lib.Math.min.name Lib.Math.min.code 2 (some .int)) (List.mem_of_getElem? (i := 10) rfl)) (Nat.le_of_ble_eq_true rfl) (Nat.le_of_ble_eq_true rfl) (Nat.zero_le _) (Nat.zero_le _) dX2_stepsToNearest_86 ?_
                refine lv_istore (lv' := [(5, .int (if ((if 0 ≤ (x7 - x3) then (x7 - x3) else -(x7 - x3)) + (if 0 ≤ (x6 - x4) then (x6 - x4) else -(x6 - x4))) < x5 then ((if 0 ≤ (x7 - x3) then (x7 - x3) else -(x7 - x3)) + (if 0 ≤ (x6 - x4) then (x6 - x4) else -(x6 - x4))) else x5)), (0, .ref q0), (1, .ref q3), (2, .int x2), (3, .int x3), (4, .int x4), (6, .int x6), (7, .int x7)]) hx hb dX2_stepsToNearest_89 hl (by decide) rfl (fun ls hl => ?_)
                exact K_91 (if ((if 0 ≤ (x7 - x3) then (x7 - x3) else -(x7 - x3)) + (if 0 ≤ (x6 - x4) then (x6 - x4) else -(x6 - x4))) < x5 then ((if 0 ≤ (x7 - x3) then (x7 - x3) else -(x7 - x3)) + (if 0 ≤ (x6 - x4) then (x6 - x4) else -(x6 - x4))) else x5) x7 hP hD hS (lv_sub hl [1, 2, 3, 4, 5, 0, 6, 7] rfl) hf
              unfold f_X2_stepsToNearest_19b at hf
              refine lv_iload hx hb dX2_stepsToNearest_19 (lv_at hl 7 rfl) ?_
              refine lv_aload_n hx hb dX2_stepsToNearest_21 rfl (lv_at hl 0 rfl) ?_
              refine va_get (D := Γ.1) (ci := 2) (v := .int columns) (C := RX2) (T := TX2) (N := 5) hx hb hts hi2 hown hK hP 0 rfl rfl 0 (by decide) (hts (.fieldLink RX2 24 "SandPlates$Plate" "columns" "I") (List.mem_of_getElem? (i := 2) rfl)) (fun _ h9 => h9) rfl dX2_stepsToNearest_22 ?_
              refine lv_icmp_ge (tgt := 97) hx hb dX2_stepsToNearest_25 (by decide) (fun hc_1 => ?_) (fun hc_1 => ?_)
              · have hf := vm_pos hc_1 hf
                have hX := hX19
                rw [← Option.some.inj hf] at hX
                exact K_97 x5 x6 hP hD hS (lv_sub hl [0, 1, 2, 3, 4, 5, 6] rfl) hX
              · have hf := vm_neg hc_1 hf
                refine lv_aload_n hx hb dX2_stepsToNearest_28 rfl (lv_at hl 0 rfl) ?_
                refine va_get (D := Γ.1) (ci := 2) (v := .int columns) (C := RX2) (T := TX2) (N := 5) hx hb hts hi2 hown hK hP 0 rfl rfl 0 (by decide) (hts (.fieldLink RX2 24 "SandPlates$Plate" "columns" "I") (List.mem_of_getElem? (i := 2) rfl)) (fun _ h9 => h9) rfl dX2_stepsToNearest_29 ?_
                refine lv_iload hx hb dX2_stepsToNearest_32 (lv_at hl 6 rfl) ?_
                refine lv_imul hx hb dX2_stepsToNearest_34 ?_
                refine lv_iload hx hb dX2_stepsToNearest_35 (lv_at hl 7 rfl) ?_
                refine lv_iadd hx hb dX2_stepsToNearest_37 ?_
                refine lv_istore (lv' := [(8, .int ((columns * x6) + x7)), (0, .ref q0), (1, .ref q3), (2, .int x2), (3, .int x3), (4, .int x4), (5, .int x5), (6, .int x6), (7, .int x7)]) hx hb dX2_stepsToNearest_38 hl (by decide) rfl (fun ls hl => ?_)
                refine lv_iload_n hx hb dX2_stepsToNearest_40 rfl (lv_at hl 3 rfl) ?_
                refine lv_if_eq (tgt := 57) hx hb dX2_stepsToNearest_41 (by decide) (fun hc_2 => ?_) (fun hc_2 => ?_)
                · have hf := vm_pos hc_2 hf
                  refine lv_aload_n hx hb dX2_stepsToNearest_57 rfl (lv_at hl 1 rfl) ?_
                  refine va_get (D := Γ.1) (ci := 2) (v := .ref q2) (C := RX2) (T := TX2) (N := 5) hx hb hts hi2 hown hK hP 0 rfl rfl 3 (by decide) (hts (.fieldLink RX2 15 "SandPlates$Plate" "figure" "[I") (List.mem_of_getElem? (i := 3) rfl)) (fun _ h9 => h9) rfl dX2_stepsToNearest_58 ?_
                  refine lv_iload hx hb dX2_stepsToNearest_61 (lv_at hl 0 rfl) ?_
                  obtain ⟨hc_3, hf⟩ := vm_ck hf
                  refine vm_iald hx hb hK hP 2 0 rfl rfl hc_3 (j := ((columns * x6) + x7).toNatClampNeg) rfl dX2_stepsToNearest_63 ?_
                  refine lv_iconst (v := 1) hx hb dX2_stepsToNearest_64 (by decide) ?_
                  refine lv_icmp_ne (tgt := 91) hx hb dX2_stepsToNearest_65 (by decide) (fun hc_4 => ?_) (fun hc_4 => ?_)
                  · have hf := vm_neg hc_4 hf
                    exact K_91 x5 x7 hP hD hS (lv_sub hl [1, 2, 3, 4, 5, 6, 7, 8] rfl) hf
                  · have hf := vm_pos hc_4 hf
                    exact K_68 x5 x7 hP hD hS (lv_sub hl [1, 2, 3, 4, 5, 6, 7, 8] rfl) hf
                · have hf := vm_neg hc_2 hf
                  refine lv_aload_n hx hb dX2_stepsToNearest_44 rfl (lv_at hl 1 rfl) ?_
                  refine lv_aload_n hx hb dX2_stepsToNearest_45 rfl (lv_at hl 2 rfl) ?_
                  refine lv_iload hx hb dX2_stepsToNearest_46 (lv_at hl 0 rfl) ?_
                  obtain ⟨r_5, hq_6, hf⟩ := ob1_some hf
                  refine vm_cVi (isC := [0, 1, 3]) (wc := (wd_X2_isStill Γ q0 q1 q3 q2 d0 columns rows numbers p1_a)) (w1 := (wd_X2_isStill Γ q0 q1 q3 q2 d0 columns rows numbers p1_a)) (As := [.ref q3, .int ((columns * x6) + x7)]) (rest := []) ⟨hx, hb, hml, hown, hts⟩ hE hP hD hS hA rfl rfl rfl (c_X2_isStill l Γ _ q0 q1 q3 q2 d0 columns rows numbers p1_a ((columns * x6) + x7) r_5 hq_6) (cwV 2 hts gX2_stepsToNearest_X2_isStill rfl rfl rfl (by decide +kernel) ⟨Nat.le_of_ble_eq_true rfl, Nat.le_of_ble_eq_true rfl⟩) (va_recv (ci := 2) (q0 := 0) hK hP rfl rfl) rfl hl.1 rfl (Nat.le_of_ble_eq_true rfl) dX2_stepsToNearest_48 ⟨Nat.zero_le _, Nat.zero_le _⟩ (fun H locs hP hD hS => ?_)
                  have hP : va_P Γ.1 vwCl (wd_X2_stepsToNearest Γ q0 q1 q2 q3 d0 columns rows numbers figure p1_a) H := hP
                  have hD : va_D A (wd_X2_stepsToNearest Γ q0 q1 q2 q3 d0 columns rows numbers figure p1_a) := hD
                  refine lv_if_eq (tgt := 91) hx hb dX2_stepsToNearest_51 (by decide) (fun hc_7 => ?_) (fun hc_7 => ?_)
                  · have hf := vm_pos hc_7 hf
                    exact K_91 x5 x7 hP hD hS (lv_sub hl [1, 2, 3, 4, 5, 6, 7, 8] rfl) hf
                  · have hf := vm_neg hc_7 hf
                    refine lv_goto (tgt := 68) hx hb dX2_stepsToNearest_54 (by decide) ?_
                    exact K_68 x5 x7 hP hD hS (lv_sub hl [1, 2, 3, 4, 5, 6, 7, 8] rfl) hf
          exact LP FU x5 x7 hP hD hS hl h1
        unfold f_X2_stepsToNearest_7b at hf
        refine lv_iload hx hb dX2_stepsToNearest_7 (lv_at hl 6 rfl) ?_
        refine lv_aload_n hx hb dX2_stepsToNearest_9 rfl (lv_at hl 0 rfl) ?_
        refine va_get (D := Γ.1) (ci := 2) (v := .int rows) (C := RX2) (T := TX2) (N := 5) hx hb hts hi2 hown hK hP 0 rfl rfl 1 (by decide) (hts (.fieldLink RX2 28 "SandPlates$Plate" "rows" "I") (List.mem_of_getElem? (i := 1) rfl)) (fun _ h9 => h9) rfl dX2_stepsToNearest_10 ?_
        refine lv_icmp_ge (tgt := 103) hx hb dX2_stepsToNearest_13 (by decide) (fun hc_8 => ?_) (fun hc_8 => ?_)
        · have hf := vm_pos hc_8 hf
          have hX := hX7
          rw [← Option.some.inj hf] at hX
          exact K_103 x5 hP hD hS (lv_sub hl [5] rfl) hX
        · have hf := vm_neg hc_8 hf
          refine lv_iconst (v := 0) hx hb dX2_stepsToNearest_16 (by decide) ?_
          refine lv_istore (lv' := [(7, .int 0), (0, .ref q0), (1, .ref q3), (2, .int x2), (3, .int x3), (4, .int x4), (5, .int x5), (6, .int x6)]) hx hb dX2_stepsToNearest_17 hl (by decide) rfl (fun ls hl => ?_)
          exact K_19 x5 x6 0 hP hD hS (lv_sub hl [1, 2, 3, 4, 5, 6, 7, 0] rfl) hf
    exact LP FU x5 x6 hP hD hS hl h1
  unfold f_X2_stepsToNearest at hf
  refine lv_bipush (v := 36) hx hb dX2_stepsToNearest_0 (by decide) ?_
  refine lv_istore (lv' := [(5, .int 36), (0, .ref q0), (1, .ref q3), (2, .int x2), (3, .int x3), (4, .int x4)]) hx hb dX2_stepsToNearest_2 hl (by decide) rfl (fun ls hl => ?_)
  refine lv_iconst (v := 0) hx hb dX2_stepsToNearest_4 (by decide) ?_
  refine lv_istore (lv' := [(6, .int 0), (5, .int 36), (0, .ref q0), (1, .ref q3), (2, .int x2), (3, .int x3), (4, .int x4)]) hx hb dX2_stepsToNearest_5 hl (by decide) rfl (fun ls hl => ?_)
  exact K_7 36 0 hP hD hS (lv_sub hl [2, 3, 4, 5, 6, 1, 0] rfl) hf
def wd_X2_apart (Γ : GE) (q0 q1 q2 q3 d0 : Nat) (columns : Int32) (rows : Int32) (numbers : Nat → Int32) (figure : Nat → Int32) (p1_a : Nat → Int32) : va_W := [(q0, .inr (2, [.int columns, .int rows, .ref q1, .ref q2, .ref d0])), (q1, .inl (Γ.2.1 0, 7, .inl numbers)), (q2, .inl (Γ.2.1 0, 36, .inl figure)), (q3, .inl (Γ.2.1 0, 36, .inl p1_a))]
def f_X2_apart_118 (x2 : Int32) : Option Int32 := some x2
def f_X2_apart_112 (columns : Int32) (rows : Int32) (numbers : Nat → Int32) (figure : Nat → Int32) (p1_a : Nat → Int32) (x2 : Int32) (x3 : Int32) (k : ((Int32 × Int32) → Option Int32)) : Option Int32 := k (x2, (x3 + 1))
def f_X2_apart_104 (columns : Int32) (rows : Int32) (numbers : Nat → Int32) (figure : Nat → Int32) (p1_a : Nat → Int32) (x3 : Int32) (x4 : Int32) (s0 : Int32) (s1 : Int32) (k : ((Int32 × Int32) → Option Int32)) : Option Int32 := k ((s0 + s1), (x4 + 1))
def f_X2_apart_78 (columns : Int32) (rows : Int32) (numbers : Nat → Int32) (figure : Nat → Int32) (p1_a : Nat → Int32) (x3 : Int32) (x4 : Int32) (x5 : Int32) (s0 : Int32) (s1 : Int32) (k : ((Int32 × Int32) → Option Int32)) : Option Int32 := ob1 (f_X2_isStill numbers p1_a x5) (fun r_1 => if r_1 = 0 then (f_X2_apart_104 columns rows numbers figure p1_a x3 x4 (s0 + s1) 0 k) else (ob1 (f_X2_stepsToNearest columns rows numbers figure p1_a 0 x4 x3) (fun r_4 => f_X2_apart_104 columns rows numbers figure p1_a x3 x4 (s0 + s1) r_4 k)))
def f_X2_apart_33b (columns : Int32) (rows : Int32) (numbers : Nat → Int32) (figure : Nat → Int32) (p1_a : Nat → Int32) (x3 : Int32) (x2 : Int32) (x4 : Int32) (k : ((Int32 × Int32) → Option Int32)) : Option Int32 := if columns ≤ x4 then (some x2) else (if inb ((columns * x3) + x4) 36 = true then if (figure (((columns * x3) + x4).toNatClampNeg)) = 1 then (ob1 (f_X2_stepsToNearest columns rows numbers figure p1_a 1 x4 x3) (fun r_9 => f_X2_apart_78 columns rows numbers figure p1_a x3 x4 ((columns * x3) + x4) x2 r_9 k)) else (f_X2_apart_78 columns rows numbers figure p1_a x3 x4 ((columns * x3) + x4) x2 0 k) else none)
def f_X2_apart_33s (columns : Int32) (rows : Int32) (numbers : Nat → Int32) (figure : Nat → Int32) (p1_a : Nat → Int32) (x3 : Int32) : (Int32 × Int32) → ((Int32 × Int32) → Option Int32) → Option Int32 := fun t k => f_X2_apart_33b columns rows numbers figure p1_a x3 t.1 t.2 k
def f_X2_apart_33 (columns : Int32) (rows : Int32) (numbers : Nat → Int32) (figure : Nat → Int32) (p1_a : Nat → Int32) (x2 : Int32) (x3 : Int32) (x4 : Int32) (k : ((Int32 × Int32) → Option Int32)) : Option Int32 := obx (vm_it (f_X2_apart_33s columns rows numbers figure p1_a x3) FU (x2, x4)) (fun x2 => f_X2_apart_112 columns rows numbers figure p1_a x2 x3 k)
def f_X2_apart_22b (columns : Int32) (rows : Int32) (numbers : Nat → Int32) (figure : Nat → Int32) (p1_a : Nat → Int32) (x2 : Int32) (x3 : Int32) (k : ((Int32 × Int32) → Option Int32)) : Option Int32 := if rows ≤ x3 then (some x2) else (f_X2_apart_33 columns rows numbers figure p1_a x2 x3 0 k)
def f_X2_apart_22s (columns : Int32) (rows : Int32) (numbers : Nat → Int32) (figure : Nat → Int32) (p1_a : Nat → Int32) : (Int32 × Int32) → ((Int32 × Int32) → Option Int32) → Option Int32 := fun t k => f_X2_apart_22b columns rows numbers figure p1_a t.1 t.2 k
def f_X2_apart_22 (columns : Int32) (rows : Int32) (numbers : Nat → Int32) (figure : Nat → Int32) (p1_a : Nat → Int32) (x2 : Int32) (x3 : Int32) : Option Int32 := obx (vm_it (f_X2_apart_22s columns rows numbers figure p1_a) FU (x2, x3)) (fun x2 => f_X2_apart_118 x2)
def f_X2_apart_15  : Option Int32 := some (-9)
def f_X2_apart (columns : Int32) (rows : Int32) (numbers : Nat → Int32) (figure : Nat → Int32) (p1_a : Nat → Int32) : Option Int32 := ob1 (f_X2_cellsOfFigure columns rows figure) (fun r_12 => if r_12 = 0 then f_X2_apart_15 else (ob1 (f_X2_stillCells columns rows numbers p1_a) (fun r_15 => if r_15 = 0 then f_X2_apart_15 else (f_X2_apart_22 columns rows numbers figure p1_a 0 0))))
set_option maxHeartbeats 4000000 in
set_option maxRecDepth 100000 in
theorem c_X2_apart (l : Launch) (Γ : GE) (sz : Nat) (q0 q1 q2 q3 d0 : Nat) (columns : Int32) (rows : Int32) (numbers : Nat → Int32) (figure : Nat → Int32) (p1_a : Nat → Int32) (ro : Int32) (hf : f_X2_apart columns rows numbers figure p1_a = some ro) : MetI l yX2_apart wsX2_apart ({ frames := 2, cells := 0, slots := 0, locals := 50 } : Room) Γ [.ref q0, .ref q3] (wd_X2_apart Γ q0 q1 q2 q3 d0 columns rows numbers figure p1_a) (wd_X2_apart Γ q0 q1 q2 q3 d0 columns rows numbers figure p1_a) sz ro := by
  refine Met.ofW (cc := cX2_apart) (maxL := 6) (ret := (some .int)) (by decide) rfl ?_
  intro p e s m args below meth c s₁ B hml hv
  obtain ⟨rfl, hsz, hE, hP, hD⟩ := hv
  have hx := B.exec
  have hb := B.bytes
  have hr := B.returns
  have hts := atoms_spec (ws := wsX2_apart) B.pre
  have hown : s.vm.findClass RX2 = some m.cls := findClass_of_methodNamed B.named
  have hlocks := B.notSynchronized
  subst hsz
  generalize hAe : va_A (wd_X2_apart Γ q0 q1 q2 q3 d0 columns rows numbers figure p1_a) s.heap.size = A at hE hD ⊢
  have hA : ∀ q : Nat, s.heap.size ≤ q → A q := fun q h => by rw [← hAe]; exact Or.inr h
  clear hAe
  have hS : va_S A s.heap s.heap [] := va_S.rf
  have hK := hE.1
  have hl := lv_entry ([.ref q0, .ref q3]) (n := 6) (Nat.le_of_ble_eq_true rfl)
  rw [lg_entry_eq]
  generalize (lg_sl ([.ref q0, .ref q3]) ++ List.replicate (6 - (lg_sl ([.ref q0, .ref q3])).length) Slot.unset).toArray = ls at hl ⊢
  have hl : lv_has ls 6 [(0, .ref q0), (1, .ref q3)] := hl
  have hi2 : ∀ w ∈ u_ws RX2 TX2 5, w ∈ wsX2_apart := fun w h => (List.mem_cons_of_mem _ (List.mem_append_right _ h))
  obtain ⟨out, hout⟩ : ∃ o, o = ro := ⟨_, rfl⟩
  rw [← hout] at hf
  obtain ⟨QQ, hQQ⟩ : ∃ Q, Q = MQ below (va_Qi (fun (r' : Int32) (_ : Unit) => r' = ro) (CQ Γ (wd_X2_apart Γ q0 q1 q2 q3 d0 columns rows numbers figure p1_a) A) A) (([.ref q0, .ref q3] : List Value).toArray) s 0 0 A := ⟨_, rfl⟩
  show W p l e ({ frames := 2, cells := 0, slots := 0, locals := 50 } : Room) s m (([.ref q0, .ref q3] : List Value).toArray) below meth c s.heap [] 0 0 (MQ below _ (([.ref q0, .ref q3] : List Value).toArray) s 0 0 A) (F0 m 0 ls [])
  rw [← hQQ]
  have K_118 : ∀ (x2 : Int32) {H : Heap} {locs : List Loc} {ls : Array Slot}, va_P Γ.1 vwCl (wd_X2_apart Γ q0 q1 q2 q3 d0 columns rows numbers figure p1_a) H → va_D A (wd_X2_apart Γ q0 q1 q2 q3 d0 columns rows numbers figure p1_a) → va_S A s.heap H locs → lv_has ls 6 [(2, .int x2)] → f_X2_apart_118 x2 = some out → W p l e ({ frames := 2, cells := 0, slots := 0, locals := 50 } : Room) s m ([.ref q0, .ref q3] : List Value).toArray below meth c H locs 0 0 QQ (F0 m 118 ls []) := by
    intro x2 H locs ls hP hD hS hl hf
    unfold f_X2_apart_118 at hf
    refine lv_iload_n hx hb dX2_apart_118 rfl (lv_at hl 0 rfl) ?_
    subst hout; obtain rfl := Option.some.inj hf
    subst hQQ
    exact W.iret hx hb hr (fun t ht hW => ⟨⟨_, (), rfl, rfl, by rw [ht]; exact hP, hD⟩, hS.F ht⟩) hS.2.2 dX2_apart_119
  have K_22 : ∀ (x2 : Int32) (x3 : Int32) {H : Heap} {locs : List Loc} {ls : Array Slot}, va_P Γ.1 vwCl (wd_X2_apart Γ q0 q1 q2 q3 d0 columns rows numbers figure p1_a) H → va_D A (wd_X2_apart Γ q0 q1 q2 q3 d0 columns rows numbers figure p1_a) → va_S A s.heap H locs → lv_has ls 6 [(0, .ref q0), (1, .ref q3), (2, .int x2), (3, .int x3)] → f_X2_apart_22 columns rows numbers figure p1_a x2 x3 = some out → W p l e ({ frames := 2, cells := 0, slots := 0, locals := 50 } : Room) s m ([.ref q0, .ref q3] : List Value).toArray below meth c H locs 0 0 QQ (F0 m 22 ls []) := by
    intro x2 x3 H locs ls hP hD hS hl hf
    unfold f_X2_apart_22 at hf
    obtain ⟨ex22, h1, hX22⟩ := obx_some hf
    have LP : ∀ (n : Nat) (x2 : Int32) (x3 : Int32)  {H : Heap} {locs : List Loc} {ls : Array Slot}, va_P Γ.1 vwCl (wd_X2_apart Γ q0 q1 q2 q3 d0 columns rows numbers figure p1_a) H → va_D A (wd_X2_apart Γ q0 q1 q2 q3 d0 columns rows numbers figure p1_a) → va_S A s.heap H locs → lv_has ls 6 [(0, .ref q0), (1, .ref q3), (2, .int x2), (3, .int x3)] → vm_it (f_X2_apart_22s columns rows numbers figure p1_a) n (x2, x3) = some ex22 → W p l e ({ frames := 2, cells := 0, slots := 0, locals := 50 } : Room) s m ([.ref q0, .ref q3] : List Value).toArray below meth c H locs 0 0 QQ (F0 m 22 ls []) := by
      clear hP hD hS hl hf h1
      intro n
      induction n with
      | zero => intro x2 x3 H locs ls hP hD hS hl hf; exact (vm_it_0 hf).elim
      | succ n ih =>
        intro x2 x3 H locs ls hP hD hS hl hf
        have hf : f_X2_apart_22b columns rows numbers figure p1_a x2 x3 (vm_it (f_X2_apart_22s columns rows numbers figure p1_a) n) = some ex22 := hf
        have K_112 : ∀ (x2 : Int32) (x3 : Int32) {H : Heap} {locs : List Loc} {ls : Array Slot}, va_P Γ.1 vwCl (wd_X2_apart Γ q0 q1 q2 q3 d0 columns rows numbers figure p1_a) H → va_D A (wd_X2_apart Γ q0 q1 q2 q3 d0 columns rows numbers figure p1_a) → va_S A s.heap H locs → lv_has ls 6 [(0, .ref q0), (1, .ref q3), (2, .int x2), (3, .int x3)] → f_X2_apart_112 columns rows numbers figure p1_a x2 x3 (vm_it (f_X2_apart_22s columns rows numbers figure p1_a) n) = some ex22 → W p l e ({ frames := 2, cells := 0, slots := 0, locals := 50 } : Room) s m ([.ref q0, .ref q3] : List Value).toArray below meth c H locs 0 0 QQ (F0 m 112 ls []) := by
          intro x2 x3 H locs ls hP hD hS hl hf
          unfold f_X2_apart_112 at hf
          refine lv_iinc (v := (x3 + 1)) (lv' := [(3, .int (x3 + 1)), (0, .ref q0), (1, .ref q3), (2, .int x2)]) hx hb dX2_apart_112 hl (k := 3) rfl rfl (by decide) rfl (fun ls hl => ?_)
          refine lv_goto (tgt := 22) hx hb dX2_apart_115 (by decide) ?_
          exact ih x2 (x3 + 1) hP hD hS (lv_sub hl [1, 2, 3, 0] rfl) hf
        have K_33 : ∀ (x2 : Int32) (x3 : Int32) (x4 : Int32) {H : Heap} {locs : List Loc} {ls : Array Slot}, va_P Γ.1 vwCl (wd_X2_apart Γ q0 q1 q2 q3 d0 columns rows numbers figure p1_a) H → va_D A (wd_X2_apart Γ q0 q1 q2 q3 d0 columns rows numbers figure p1_a) → va_S A s.heap H locs → lv_has ls 6 [(0, .ref q0), (1, .ref q3), (2, .int x2), (3, .int x3), (4, .int x4)] → f_X2_apart_33 columns rows numbers figure p1_a x2 x3 x4 (vm_it (f_X2_apart_22s columns rows numbers figure p1_a) n) = some ex22 → W p l e ({ frames := 2, cells := 0, slots := 0, locals := 50 } : Room) s m ([.ref q0, .ref q3] : List Value).toArray below meth c H locs 0 0 QQ (F0 m 33 ls []) := by
          intro x2 x3 x4 H locs ls hP hD hS hl hf
          unfold f_X2_apart_33 at hf
          obtain ⟨ex33, h1, hX33⟩ := obx_some hf
          have LP : ∀ (n : Nat) (x2 : Int32) (x4 : Int32)  {H : Heap} {locs : List Loc} {ls : Array Slot}, va_P Γ.1 vwCl (wd_X2_apart Γ q0 q1 q2 q3 d0 columns rows numbers figure p1_a) H → va_D A (wd_X2_apart Γ q0 q1 q2 q3 d0 columns rows numbers figure p1_a) → va_S A s.heap H locs → lv_has ls 6 [(0, .ref q0), (1, .ref q3), (2, .int x2), (3, .int x3), (4, .int x4)] → vm_it (f_X2_apart_33s columns rows numbers figure p1_a x3) n (x2, x4) = some ex33 → W p l e ({ frames := 2, cells := 0, slots := 0, locals := 50 } : Room) s m ([.ref q0, .ref q3] : List Value).toArray below meth c H locs 0 0 QQ (F0 m 33 ls []) := by
            clear hP hD hS hl hf h1
            intro n
            induction n with
            | zero => intro x2 x4 H locs ls hP hD hS hl hf; exact (vm_it_0 hf).elim
            | succ n ih =>
              intro x2 x4 H locs ls hP hD hS hl hf
              have hf : f_X2_apart_33b columns rows numbers figure p1_a x3 x2 x4 (vm_it (f_X2_apart_33s columns rows numbers figure p1_a x3) n) = some ex33 := hf
              have K_104 : ∀ (x4 : Int32) (s0 : Int32) (s1 : Int32) {H : Heap} {locs : List Loc} {ls : Array Slot}, va_P Γ.1 vwCl (wd_X2_apart Γ q0 q1 q2 q3 d0 columns rows numbers figure p1_a) H → va_D A (wd_X2_apart Γ q0 q1 q2 q3 d0 columns rows numbers figure p1_a) → va_S A s.heap H locs → lv_has ls 6 [(0, .ref q0), (1, .ref q3), (3, .int x3), (4, .int x4)] → f_X2_apart_104 columns rows numbers figure p1_a x3 x4 s0 s1 (vm_it (f_X2_apart_33s columns rows numbers figure p1_a x3) n) = some ex33 → W p l e ({ frames := 2, cells := 0, slots := 0, locals := 50 } : Room) s m ([.ref q0, .ref q3] : List Value).toArray below meth c H locs 0 0 QQ (F0 m 104 ls [.int s1, .int s0]) := by
                intro x4 s0 s1 H locs ls hP hD hS hl hf
                unfold f_X2_apart_104 at hf
                refine lv_iadd hx hb dX2_apart_104 ?_
                refine lv_istore_n (lv' := [(2, .int (s0 + s1)), (0, .ref q0), (1, .ref q3), (3, .int x3), (4, .int x4)]) hx hb dX2_apart_105 rfl hl (by decide) rfl (fun ls hl => ?_)
                refine lv_iinc (v := (x4 + 1)) (lv' := [(4, .int (x4 + 1)), (2, .int (s0 + s1)), (0, .ref q0), (1, .ref q3), (3, .int x3)]) hx hb dX2_apart_106 hl (k := 4) rfl rfl (by decide) rfl (fun ls hl => ?_)
                refine lv_goto (tgt := 33) hx hb dX2_apart_109 (by decide) ?_
                exact ih (s0 + s1) (x4 + 1) hP hD hS (lv_sub hl [2, 3, 1, 4, 0] rfl) hf
              have K_78 : ∀ (x4 : Int32) (x5 : Int32) (s0 : Int32) (s1 : Int32) {H : Heap} {locs : List Loc} {ls : Array Slot}, va_P Γ.1 vwCl (wd_X2_apart Γ q0 q1 q2 q3 d0 columns rows numbers figure p1_a) H → va_D A (wd_X2_apart Γ q0 q1 q2 q3 d0 columns rows numbers figure p1_a) → va_S A s.heap H locs → lv_has ls 6 [(0, .ref q0), (1, .ref q3), (3, .int x3), (4, .int x4), (5, .int x5)] → f_X2_apart_78 columns rows numbers figure p1_a x3 x4 x5 s0 s1 (vm_it (f_X2_apart_33s columns rows numbers figure p1_a x3) n) = some ex33 → W p l e ({ frames := 2, cells := 0, slots := 0, locals := 50 } : Room) s m ([.ref q0, .ref q3] : List Value).toArray below meth c H locs 0 0 QQ (F0 m 78 ls [.int s1, .int s0]) := by
                intro x4 x5 s0 s1 H locs ls hP hD hS hl hf
                unfold f_X2_apart_78 at hf
                refine lv_iadd hx hb dX2_apart_78 ?_
                refine lv_istore_n (lv' := [(2, .int (s0 + s1)), (0, .ref q0), (1, .ref q3), (3, .int x3), (4, .int x4), (5, .int x5)]) hx hb dX2_apart_79 rfl hl (by decide) rfl (fun ls hl => ?_)
                refine lv_iload_n hx hb dX2_apart_80 rfl (lv_at hl 0 rfl) ?_
                refine lv_aload_n hx hb dX2_apart_81 rfl (lv_at hl 1 rfl) ?_
                refine lv_aload_n hx hb dX2_apart_82 rfl (lv_at hl 2 rfl) ?_
                refine lv_iload hx hb dX2_apart_83 (lv_at hl 5 rfl) ?_
                obtain ⟨r_1, hq_2, hf⟩ := ob1_some hf
                refine vm_cVi (isC := [0, 1, 3]) (wc := (wd_X2_isStill Γ q0 q1 q3 q2 d0 columns rows numbers p1_a)) (w1 := (wd_X2_isStill Γ q0 q1 q3 q2 d0 columns rows numbers p1_a)) (As := [.ref q3, .int x5]) (rest := [.int (s0 + s1)]) ⟨hx, hb, hml, hown, hts⟩ hE hP hD hS hA rfl rfl rfl (c_X2_isStill l Γ _ q0 q1 q3 q2 d0 columns rows numbers p1_a x5 r_1 hq_2) (cwV 2 hts gX2_apart_X2_isStill rfl rfl rfl (by decide +kernel) ⟨Nat.le_of_ble_eq_true rfl, Nat.le_of_ble_eq_true rfl⟩) (va_recv (ci := 2) (q0 := 0) hK hP rfl rfl) rfl hl.1 rfl (Nat.le_of_ble_eq_true rfl) dX2_apart_85 ⟨Nat.zero_le _, Nat.zero_le _⟩ (fun H locs hP hD hS => ?_)
                have hP : va_P Γ.1 vwCl (wd_X2_apart Γ q0 q1 q2 q3 d0 columns rows numbers figure p1_a) H := hP
                have hD : va_D A (wd_X2_apart Γ q0 q1 q2 q3 d0 columns rows numbers figure p1_a) := hD
                refine lv_if_eq (tgt := 103) hx hb dX2_apart_88 (by decide) (fun hc_3 => ?_) (fun hc_3 => ?_)
                · have hf := vm_pos hc_3 hf
                  refine lv_iconst (v := 0) hx hb dX2_apart_103 (by decide) ?_
                  exact K_104 x4 (s0 + s1) 0 hP hD hS (lv_sub hl [1, 2, 3, 4] rfl) hf
                · have hf := vm_neg hc_3 hf
                  refine lv_aload_n hx hb dX2_apart_91 rfl (lv_at hl 1 rfl) ?_
                  refine lv_aload_n hx hb dX2_apart_92 rfl (lv_at hl 2 rfl) ?_
                  refine lv_iconst (v := 0) hx hb dX2_apart_93 (by decide) ?_
                  refine lv_iload hx hb dX2_apart_94 (lv_at hl 4 rfl) ?_
                  refine lv_iload_n hx hb dX2_apart_96 rfl (lv_at hl 3 rfl) ?_
                  obtain ⟨r_4, hq_5, hf⟩ := ob1_some hf
                  refine vm_cVi (isC := [0, 1, 2, 3]) (wc := (wd_X2_stepsToNearest Γ q0 q1 q2 q3 d0 columns rows numbers figure p1_a)) (w1 := (wd_X2_stepsToNearest Γ q0 q1 q2 q3 d0 columns rows numbers figure p1_a)) (As := [.ref q3, .int 0, .int x4, .int x3]) (rest := [.int (s0 + s1)]) ⟨hx, hb, hml, hown, hts⟩ hE hP hD hS hA rfl rfl rfl (c_X2_stepsToNearest l Γ _ q0 q1 q2 q3 d0 columns rows numbers figure p1_a 0 x4 x3 r_4 hq_5) (cwV 4 hts gX2_apart_X2_stepsToNearest rfl rfl rfl (by decide +kernel) ⟨Nat.le_of_ble_eq_true rfl, Nat.le_of_ble_eq_true rfl⟩) (va_recv (ci := 2) (q0 := 0) hK hP rfl rfl) rfl hl.1 rfl (Nat.le_of_ble_eq_true rfl) dX2_apart_97 ⟨Nat.zero_le _, Nat.zero_le _⟩ (fun H locs hP hD hS => ?_)
                  have hP : va_P Γ.1 vwCl (wd_X2_apart Γ q0 q1 q2 q3 d0 columns rows numbers figure p1_a) H := hP
                  have hD : va_D A (wd_X2_apart Γ q0 q1 q2 q3 d0 columns rows numbers figure p1_a) := hD
                  refine lv_goto (tgt := 104) hx hb dX2_apart_100 (by decide) ?_
                  exact K_104 x4 (s0 + s1) r_4 hP hD hS (lv_sub hl [1, 2, 3, 4] rfl) hf
              unfold f_X2_apart_33b at hf
              refine lv_iload hx hb dX2_apart_33 (lv_at hl 4 rfl) ?_
              refine lv_aload_n hx hb dX2_apart_35 rfl (lv_at hl 0 rfl) ?_
              refine va_get (D := Γ.1) (ci := 2) (v := .int columns) (C := RX2) (T := TX2) (N := 5) hx hb hts hi2 hown hK hP 0 rfl rfl 0 (by decide) (hts (.fieldLink RX2 24 "SandPlates$Plate" "columns" "I") (List.mem_of_getElem? (i := 2) rfl)) (fun _ h9 => h9) rfl dX2_apart_36 ?_
              refine lv_icmp_ge (tgt := 112) hx hb dX2_apart_39 (by decide) (fun hc_6 => ?_) (fun hc_6 => ?_)
              · have hf := vm_pos hc_6 hf
                have hX := hX33
                rw [← Option.some.inj hf] at hX
                exact K_112 x2 x3 hP hD hS (lv_sub hl [0, 1, 2, 3] rfl) hX
              · have hf := vm_neg hc_6 hf
                refine lv_aload_n hx hb dX2_apart_42 rfl (lv_at hl 0 rfl) ?_
                refine va_get (D := Γ.1) (ci := 2) (v := .int columns) (C := RX2) (T := TX2) (N := 5) hx hb hts hi2 hown hK hP 0 rfl rfl 0 (by decide) (hts (.fieldLink RX2 24 "SandPlates$Plate" "columns" "I") (List.mem_of_getElem? (i := 2) rfl)) (fun _ h9 => h9) rfl dX2_apart_43 ?_
                refine lv_iload_n hx hb dX2_apart_46 rfl (lv_at hl 3 rfl) ?_
                refine lv_imul hx hb dX2_apart_47 ?_
                refine lv_iload hx hb dX2_apart_48 (lv_at hl 4 rfl) ?_
                refine lv_iadd hx hb dX2_apart_50 ?_
                refine lv_istore (lv' := [(5, .int ((columns * x3) + x4)), (0, .ref q0), (1, .ref q3), (2, .int x2), (3, .int x3), (4, .int x4)]) hx hb dX2_apart_51 hl (by decide) rfl (fun ls hl => ?_)
                refine lv_iload_n hx hb dX2_apart_53 rfl (lv_at hl 3 rfl) ?_
                refine lv_aload_n hx hb dX2_apart_54 rfl (lv_at hl 1 rfl) ?_
                refine va_get (D := Γ.1) (ci := 2) (v := .ref q2) (C := RX2) (T := TX2) (N := 5) hx hb hts hi2 hown hK hP 0 rfl rfl 3 (by decide) (hts (.fieldLink RX2 15 "SandPlates$Plate" "figure" "[I") (List.mem_of_getElem? (i := 3) rfl)) (fun _ h9 => h9) rfl dX2_apart_55 ?_
                refine lv_iload hx hb dX2_apart_58 (lv_at hl 0 rfl) ?_
                obtain ⟨hc_7, hf⟩ := vm_ck hf
                refine vm_iald hx hb hK hP 2 0 rfl rfl hc_7 (j := ((columns * x3) + x4).toNatClampNeg) rfl dX2_apart_60 ?_
                refine lv_iconst (v := 1) hx hb dX2_apart_61 (by decide) ?_
                refine lv_icmp_ne (tgt := 77) hx hb dX2_apart_62 (by decide) (fun hc_8 => ?_) (fun hc_8 => ?_)
                · have hf := vm_neg hc_8 hf
                  refine lv_iconst (v := 0) hx hb dX2_apart_77 (by decide) ?_
                  exact K_78 x4 ((columns * x3) + x4) x2 0 hP hD hS (lv_sub hl [1, 2, 4, 5, 0] rfl) hf
                · have hf := vm_pos hc_8 hf
                  refine lv_aload_n hx hb dX2_apart_65 rfl (lv_at hl 1 rfl) ?_
                  refine lv_aload_n hx hb dX2_apart_66 rfl (lv_at hl 2 rfl) ?_
                  refine lv_iconst (v := 1) hx hb dX2_apart_67 (by decide) ?_
                  refine lv_iload hx hb dX2_apart_68 (lv_at hl 5 rfl) ?_
                  refine lv_iload_n hx hb dX2_apart_70 rfl (lv_at hl 4 rfl) ?_
                  obtain ⟨r_9, hq_10, hf⟩ := ob1_some hf
                  refine vm_cVi (isC := [0, 1, 2, 3]) (wc := (wd_X2_stepsToNearest Γ q0 q1 q2 q3 d0 columns rows numbers figure p1_a)) (w1 := (wd_X2_stepsToNearest Γ q0 q1 q2 q3 d0 columns rows numbers figure p1_a)) (As := [.ref q3, .int 1, .int x4, .int x3]) (rest := [.int x2]) ⟨hx, hb, hml, hown, hts⟩ hE hP hD hS hA rfl rfl rfl (c_X2_stepsToNearest l Γ _ q0 q1 q2 q3 d0 columns rows numbers figure p1_a 1 x4 x3 r_9 hq_10) (cwV 4 hts gX2_apart_X2_stepsToNearest rfl rfl rfl (by decide +kernel) ⟨Nat.le_of_ble_eq_true rfl, Nat.le_of_ble_eq_true rfl⟩) (va_recv (ci := 2) (q0 := 0) hK hP rfl rfl) rfl hl.1 rfl (Nat.le_of_ble_eq_true rfl) dX2_apart_71 ⟨Nat.zero_le _, Nat.zero_le _⟩ (fun H locs hP hD hS => ?_)
                  have hP : va_P Γ.1 vwCl (wd_X2_apart Γ q0 q1 q2 q3 d0 columns rows numbers figure p1_a) H := hP
                  have hD : va_D A (wd_X2_apart Γ q0 q1 q2 q3 d0 columns rows numbers figure p1_a) := hD
                  refine lv_goto (tgt := 78) hx hb dX2_apart_74 (by decide) ?_
                  exact K_78 x4 ((columns * x3) + x4) x2 r_9 hP hD hS (lv_sub hl [1, 2, 4, 5, 0] rfl) hf
          exact LP FU x2 x4 hP hD hS hl h1
        unfold f_X2_apart_22b at hf
        refine lv_iload_n hx hb dX2_apart_22 rfl (lv_at hl 3 rfl) ?_
        refine lv_aload_n hx hb dX2_apart_23 rfl (lv_at hl 0 rfl) ?_
        refine va_get (D := Γ.1) (ci := 2) (v := .int rows) (C := RX2) (T := TX2) (N := 5) hx hb hts hi2 hown hK hP 0 rfl rfl 1 (by decide) (hts (.fieldLink RX2 28 "SandPlates$Plate" "rows" "I") (List.mem_of_getElem? (i := 1) rfl)) (fun _ h9 => h9) rfl dX2_apart_24 ?_
        refine lv_icmp_ge (tgt := 118) hx hb dX2_apart_27 (by decide) (fun hc_11 => ?_) (fun hc_11 => ?_)
        · have hf := vm_pos hc_11 hf
          have hX := hX22
          rw [← Option.some.inj hf] at hX
          exact K_118 x2 hP hD hS (lv_sub hl [2] rfl) hX
        · have hf := vm_neg hc_11 hf
          refine lv_iconst (v := 0) hx hb dX2_apart_30 (by decide) ?_
          refine lv_istore (lv' := [(4, .int 0), (0, .ref q0), (1, .ref q3), (2, .int x2), (3, .int x3)]) hx hb dX2_apart_31 hl (by decide) rfl (fun ls hl => ?_)
          exact K_33 x2 x3 0 hP hD hS (lv_sub hl [1, 2, 3, 4, 0] rfl) hf
    exact LP FU x2 x3 hP hD hS hl h1
  have K_15 : ∀ {H : Heap} {locs : List Loc} {ls : Array Slot}, va_P Γ.1 vwCl (wd_X2_apart Γ q0 q1 q2 q3 d0 columns rows numbers figure p1_a) H → va_D A (wd_X2_apart Γ q0 q1 q2 q3 d0 columns rows numbers figure p1_a) → va_S A s.heap H locs → lv_has ls 6 [] → f_X2_apart_15 = some out → W p l e ({ frames := 2, cells := 0, slots := 0, locals := 50 } : Room) s m ([.ref q0, .ref q3] : List Value).toArray below meth c H locs 0 0 QQ (F0 m 15 ls []) := by
    intro H locs ls hP hD hS hl hf
    unfold f_X2_apart_15 at hf
    refine lv_bipush (v := (-9)) hx hb dX2_apart_15 (by decide) ?_
    subst hout; obtain rfl := Option.some.inj hf
    subst hQQ
    exact W.iret hx hb hr (fun t ht hW => ⟨⟨_, (), rfl, rfl, by rw [ht]; exact hP, hD⟩, hS.F ht⟩) hS.2.2 dX2_apart_17
  unfold f_X2_apart at hf
  refine lv_aload_n hx hb dX2_apart_0 rfl (lv_at hl 0 rfl) ?_
  obtain ⟨r_12, hq_13, hf⟩ := ob1_some hf
  refine vm_cVi (isC := [0, 2]) (wc := (wd_X2_cellsOfFigure Γ q0 q2 q1 d0 columns rows figure)) (w1 := (wd_X2_cellsOfFigure Γ q0 q2 q1 d0 columns rows figure)) (As := []) (rest := []) ⟨hx, hb, hml, hown, hts⟩ hE hP hD hS hA rfl rfl rfl (c_X2_cellsOfFigure l Γ _ q0 q2 q1 d0 columns rows figure r_12 hq_13) (cwV 0 hts gX2_apart_X2_cellsOfFigure rfl rfl rfl (by decide +kernel) ⟨Nat.le_of_ble_eq_true rfl, Nat.le_of_ble_eq_true rfl⟩) (va_recv (ci := 2) (q0 := 0) hK hP rfl rfl) rfl hl.1 rfl (Nat.le_of_ble_eq_true rfl) dX2_apart_1 ⟨Nat.zero_le _, Nat.zero_le _⟩ (fun H locs hP hD hS => ?_)
  have hP : va_P Γ.1 vwCl (wd_X2_apart Γ q0 q1 q2 q3 d0 columns rows numbers figure p1_a) H := hP
  have hD : va_D A (wd_X2_apart Γ q0 q1 q2 q3 d0 columns rows numbers figure p1_a) := hD
  refine lv_if_eq (tgt := 15) hx hb dX2_apart_4 (by decide) (fun hc_14 => ?_) (fun hc_14 => ?_)
  · have hf := vm_pos hc_14 hf
    exact K_15  hP hD hS (lv_sub hl [] rfl) hf
  · have hf := vm_neg hc_14 hf
    refine lv_aload_n hx hb dX2_apart_7 rfl (lv_at hl 0 rfl) ?_
    refine lv_aload_n hx hb dX2_apart_8 rfl (lv_at hl 1 rfl) ?_
    obtain ⟨r_15, hq_16, hf⟩ := ob1_some hf
    refine vm_cVi (isC := [0, 1, 3]) (wc := (wd_X2_stillCells Γ q0 q1 q3 q2 d0 columns rows numbers p1_a)) (w1 := (wd_X2_stillCells Γ q0 q1 q3 q2 d0 columns rows numbers p1_a)) (As := [.ref q3]) (rest := []) ⟨hx, hb, hml, hown, hts⟩ hE hP hD hS hA rfl rfl rfl (c_X2_stillCells l Γ _ q0 q1 q3 q2 d0 columns rows numbers p1_a r_15 hq_16) (cwV 1 hts gX2_apart_X2_stillCells rfl rfl rfl (by decide +kernel) ⟨Nat.le_of_ble_eq_true rfl, Nat.le_of_ble_eq_true rfl⟩) (va_recv (ci := 2) (q0 := 0) hK hP rfl rfl) rfl hl.1 rfl (Nat.le_of_ble_eq_true rfl) dX2_apart_9 ⟨Nat.zero_le _, Nat.zero_le _⟩ (fun H locs hP hD hS => ?_)
    have hP : va_P Γ.1 vwCl (wd_X2_apart Γ q0 q1 q2 q3 d0 columns rows numbers figure p1_a) H := hP
    have hD : va_D A (wd_X2_apart Γ q0 q1 q2 q3 d0 columns rows numbers figure p1_a) := hD
    refine lv_if_ne (tgt := 18) hx hb dX2_apart_12 (by decide) (fun hc_17 => ?_) (fun hc_17 => ?_)
    · have hf := vm_neg hc_17 hf
      refine lv_iconst (v := 0) hx hb dX2_apart_18 (by decide) ?_
      refine lv_istore_n (lv' := [(2, .int 0), (0, .ref q0), (1, .ref q3)]) hx hb dX2_apart_19 rfl hl (by decide) rfl (fun ls hl => ?_)
      refine lv_iconst (v := 0) hx hb dX2_apart_20 (by decide) ?_
      refine lv_istore_n (lv' := [(3, .int 0), (2, .int 0), (0, .ref q0), (1, .ref q3)]) hx hb dX2_apart_21 rfl hl (by decide) rfl (fun ls hl => ?_)
      exact K_22 0 0 hP hD hS (lv_sub hl [2, 3, 1, 0] rfl) hf
    · have hf := vm_pos hc_17 hf
      exact K_15  hP hD hS (lv_sub hl [] rfl) hf
