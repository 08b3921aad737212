def wd_X2_cells (Γ : GE) (q0 d0 d1 d2 : Nat) (columns : Int32) (rows : Int32) : va_W := [(q0, .inr (2, [.int columns, .int rows, .ref d0, .ref d1, .ref d2]))]
def f_X2_cells (columns : Int32) (rows : Int32) : Option Int32 := some (columns * rows)
set_option maxHeartbeats 4000000 in
set_option maxRecDepth 100000 in
theorem c_X2_cells (l : Launch) (Γ : GE) (sz : Nat) (q0 d0 d1 d2 : Nat) (columns : Int32) (rows : Int32) (ro : Int32) (hf : f_X2_cells columns rows = some ro) : MetI l yX2_cells wsX2_cells ({ frames := 0, cells := 0, slots := 0, locals := 0 } : Room) Γ [.ref q0] (wd_X2_cells Γ q0 d0 d1 d2 columns rows) (wd_X2_cells Γ q0 d0 d1 d2 columns rows) sz ro := by
  refine Met.ofW (cc := cX2_cells) (maxL := 1) (ret := (some .int)) (by decide) rfl ?_
  intro p e s m args below meth c s₁ B hml hv
  obtain ⟨rfl, hsz, hE, hP, hD⟩ := hv
  have hx := B.exec
  have hb := B.bytes
  have hr := B.returns
  have hts := atoms_spec (ws := wsX2_cells) B.pre
  have hown : s.vm.findClass RX2 = some m.cls := findClass_of_methodNamed B.named
  have hlocks := B.notSynchronized
  subst hsz
  generalize hAe : va_A (wd_X2_cells Γ q0 d0 d1 d2 columns rows) s.heap.size = A at hE hD ⊢
  have hA : ∀ q : Nat, s.heap.size ≤ q → A q := fun q h => by rw [← hAe]; exact Or.inr h
  clear hAe
  have hS : va_S A s.heap s.heap [] := va_S.rf
  have hK := hE.1
  have hl := lv_entry ([.ref q0]) (n := 1) (Nat.le_of_ble_eq_true rfl)
  rw [lg_entry_eq]
  generalize (lg_sl ([.ref q0]) ++ List.replicate (1 - (lg_sl ([.ref q0])).length) Slot.unset).toArray = ls at hl ⊢
  have hl : lv_has ls 1 [(0, .ref q0)] := hl
  have hi2 : ∀ w ∈ u_ws RX2 TX2 5, w ∈ wsX2_cells := fun w h => (List.mem_cons_of_mem _ (List.mem_append_right _ h))
  obtain ⟨out, hout⟩ : ∃ o, o = ro := ⟨_, rfl⟩
  rw [← hout] at hf
  obtain ⟨QQ, hQQ⟩ : ∃ Q, Q = MQ below (va_Qi (fun (r' : Int32) (_ : Unit) => r' = ro) (CQ Γ (wd_X2_cells Γ q0 d0 d1 d2 columns rows) A) A) (([.ref q0] : List Value).toArray) s 0 0 A := ⟨_, rfl⟩
  show W p l e ({ frames := 0, cells := 0, slots := 0, locals := 0 } : Room) s m (([.ref q0] : List Value).toArray) below meth c s.heap [] 0 0 (MQ below _ (([.ref q0] : List Value).toArray) s 0 0 A) (F0 m 0 ls [])
  rw [← hQQ]
  unfold f_X2_cells at hf
  refine lv_aload_n hx hb dX2_cells_0 rfl (lv_at hl 0 rfl) ?_
  refine va_get (D := Γ.1) (ci := 2) (v := .int columns) (C := RX2) (T := TX2) (N := 5) hx hb hts hi2 hown hK hP 0 rfl rfl 0 (by decide) (hts (.fieldLink RX2 24 "SandPlates$Plate" "columns" "I") (List.mem_of_getElem? (i := 1) rfl)) (fun _ h9 => h9) rfl dX2_cells_1 ?_
  refine lv_aload_n hx hb dX2_cells_4 rfl (lv_at hl 0 rfl) ?_
  refine va_get (D := Γ.1) (ci := 2) (v := .int rows) (C := RX2) (T := TX2) (N := 5) hx hb hts hi2 hown hK hP 0 rfl rfl 1 (by decide) (hts (.fieldLink RX2 28 "SandPlates$Plate" "rows" "I") (List.mem_of_getElem? (i := 2) rfl)) (fun _ h9 => h9) rfl dX2_cells_5 ?_
  refine lv_imul hx hb dX2_cells_8 ?_
  subst hout; cases hf
  subst hQQ
  exact W.iret (v := (columns * rows)) hx hb hr (fun t ht hW => ⟨⟨_, (), rfl, rfl, by rw [ht]; exact hP, hD⟩, hS.F ht⟩) hS.2.2 dX2_cells_9
def wd_X2_isStill (Γ : GE) (q0 q1 q2 d0 d1 : Nat) (columns : Int32) (rows : Int32) (numbers : Nat → Int32) (p1_a : Nat → Int32) : va_W := [(q0, .inr (2, [.int columns, .int rows, .ref q1, .ref d0, .ref d1])), (q1, .inl (Γ.2.1 0, 7, .inl numbers)), (q2, .inl (Γ.2.1 0, 36, .inl p1_a))]
def f_X2_isStill_17 (s0 : Int32) : Option Int32 := if s0 = 0 ∨ s0 = 1 then some s0 else none
def f_X2_isStill (numbers : Nat → Int32) (p1_a : Nat → Int32) (x2 : Int32) : Option Int32 := if inb x2 36 = true then if (numbers 5) < (p1_a (x2.toNatClampNeg)) then (f_X2_isStill_17 0) else (f_X2_isStill_17 1) else none
set_option maxHeartbeats 4000000 in
set_option maxRecDepth 100000 in
theorem c_X2_isStill (l : Launch) (Γ : GE) (sz : Nat) (q0 q1 q2 d0 d1 : Nat) (columns : Int32) (rows : Int32) (numbers : Nat → Int32) (p1_a : Nat → Int32) (x2 : Int32) (ro : Int32) (hf : f_X2_isStill numbers p1_a x2 = some ro) : MetI l yX2_isStill wsX2_isStill ({ frames := 0, cells := 0, slots := 0, locals := 0 } : Room) Γ [.ref q0, .ref q2, .int x2] (wd_X2_isStill Γ q0 q1 q2 d0 d1 columns rows numbers p1_a) (wd_X2_isStill Γ q0 q1 q2 d0 d1 columns rows numbers p1_a) sz ro := by
  refine Met.ofW (cc := cX2_isStill) (maxL := 3) (ret := (some .boolean)) (by decide) rfl ?_
  intro p e s m args below meth c s₁ B hml hv
  obtain ⟨rfl, hsz, hE, hP, hD⟩ := hv
  have hx := B.exec
  have hb := B.bytes
  have hr := B.returns
  have hts := atoms_spec (ws := wsX2_isStill) B.pre
  have hown : s.vm.findClass RX2 = some m.cls := findClass_of_methodNamed B.named
  have hlocks := B.notSynchronized
  subst hsz
  generalize hAe : va_A (wd_X2_isStill Γ q0 q1 q2 d0 d1 columns rows numbers p1_a) s.heap.size = A at hE hD ⊢
  have hA : ∀ q : Nat, s.heap.size ≤ q → A q := fun q h => by rw [← hAe]; exact Or.inr h
  clear hAe
  have hS : va_S A s.heap s.heap [] := va_S.rf
  have hK := hE.1
  have hl := lv_entry ([.ref q0, .ref q2, .int x2]) (n := 3) (Nat.le_of_ble_eq_true rfl)
  rw [lg_entry_eq]
  generalize (lg_sl ([.ref q0, .ref q2, .int x2]) ++ List.replicate (3 - (lg_sl ([.ref q0, .ref q2, .int x2])).length) Slot.unset).toArray = ls at hl ⊢
  have hl : lv_has ls 3 [(0, .ref q0), (1, .ref q2), (2, .int x2)] := hl
  have hi2 : ∀ w ∈ u_ws RX2 TX2 5, w ∈ wsX2_isStill := fun w h => (List.mem_cons_of_mem _ (List.mem_append_right _ h))
  obtain ⟨out, hout⟩ : ∃ o, o = ro := ⟨_, rfl⟩
  rw [← hout] at hf
  obtain ⟨QQ, hQQ⟩ : ∃ Q, Q = MQ below (va_Qi (fun (r' : Int32) (_ : Unit) => r' = ro) (CQ Γ (wd_X2_isStill Γ q0 q1 q2 d0 d1 columns rows numbers p1_a) A) A) (([.ref q0, .ref q2, .int x2] : List Value).toArray) s 0 0 A := ⟨_, rfl⟩
  show W p l e ({ frames := 0, cells := 0, slots := 0, locals := 0 } : Room) s m (([.ref q0, .ref q2, .int x2] : List Value).toArray) below meth c s.heap [] 0 0 (MQ below _ (([.ref q0, .ref q2, .int x2] : List Value).toArray) s 0 0 A) (F0 m 0 ls [])
  rw [← hQQ]
  have K_17 : ∀ (s0 : Int32) {H : Heap} {locs : List Loc} {ls : Array Slot}, va_P Γ.1 vwCl (wd_X2_isStill Γ q0 q1 q2 d0 d1 columns rows numbers p1_a) H → va_D A (wd_X2_isStill Γ q0 q1 q2 d0 d1 columns rows numbers p1_a) → va_S A s.heap H locs → lv_has ls 3 [] → f_X2_isStill_17 s0 = some out → W p l e ({ frames := 0, cells := 0, slots := 0, locals := 0 } : Room) s m ([.ref q0, .ref q2, .int x2] : List Value).toArray below meth c H locs 0 0 QQ (F0 m 17 ls [.int s0]) := by
    intro s0 H locs ls hP hD hS hl hf
    unfold f_X2_isStill_17 at hf
    obtain ⟨hc_1, hf⟩ := vm_ck hf
    subst hout; cases hf
    subst hQQ
    exact W.zret (v := s0) hx hb hr (vm_nz hc_1) (fun t ht hW => ⟨⟨_, (), rfl, rfl, by rw [ht]; exact hP, hD⟩, hS.F ht⟩) hS.2.2 dX2_isStill_17
  unfold f_X2_isStill at hf
  refine lv_aload_n hx hb dX2_isStill_0 rfl (lv_at hl 1 rfl) ?_
  refine lv_iload_n hx hb dX2_isStill_1 rfl (lv_at hl 2 rfl) ?_
  obtain ⟨hc_2, hf⟩ := vm_ck hf
  refine vm_iald hx hb hK hP 2 0 rfl rfl hc_2 (j := x2.toNatClampNeg) rfl dX2_isStill_2 ?_
  refine lv_aload_n hx hb dX2_isStill_3 rfl (lv_at hl 0 rfl) ?_
  refine va_get (D := Γ.1) (ci := 2) (v := .ref q1) (C := RX2) (T := TX2) (N := 5) hx hb hts hi2 hown hK hP 0 rfl rfl 2 (by decide) (hts (.fieldLink RX2 9 "SandPlates$Plate" "numbers" "[I") (List.mem_of_getElem? (i := 1) rfl)) (fun _ h9 => h9) rfl dX2_isStill_4 ?_
  refine lv_iconst (v := 5) hx hb dX2_isStill_7 (by decide) ?_
  refine vm_iald hx hb hK hP 1 0 rfl rfl (by decide +kernel) (j := 5) rfl dX2_isStill_8 ?_
  refine lv_icmp_gt (tgt := 16) hx hb dX2_isStill_9 (by decide) (fun hc_3 => ?_) (fun hc_3 => ?_)
  · have hf := vm_pos hc_3 hf
    refine lv_iconst (v := 0) hx hb dX2_isStill_16 (by decide) ?_
    exact K_17 0 hP hD hS (lv_sub hl [] rfl) hf
  · have hf := vm_neg hc_3 hf
    refine lv_iconst (v := 1) hx hb dX2_isStill_12 (by decide) ?_
    refine lv_goto (tgt := 17) hx hb dX2_isStill_13 (by decide) ?_
    exact K_17 1 hP hD hS (lv_sub hl [] rfl) hf
def wd_X2_likeness (Γ : GE) (q0 q1 q2 q3 d0 : Nat) (columns : Int32) (rows : Int32) (numbers : Nat → Int32) (figure : Nat → Int32) (p1_a : Nat → Int32) : va_W := [(q0, .inr (2, [.int columns, .int rows, .ref q1, .ref q2, .ref d0])), (q1, .inl (Γ.2.1 0, 7, .inl numbers)), (q2, .inl (Γ.2.1 0, 36, .inl figure)), (q3, .inl (Γ.2.1 0, 36, .inl p1_a))]
def f_X2_likeness_50 (x2 : Int32) : Option Int32 := some x2
def f_X2_likeness_42 (columns : Int32) (rows : Int32) (numbers : Nat → Int32) (figure : Nat → Int32) (p1_a : Nat → Int32) (x3 : Int32) (s0 : Int32) (s1 : Int32) (k : ((Int32 × Int32) → Option Int32)) : Option Int32 := k ((s0 + s1), (x3 + 1))
def f_X2_likeness_34 (columns : Int32) (rows : Int32) (numbers : Nat → Int32) (figure : Nat → Int32) (p1_a : Nat → Int32) (x3 : Int32) (s0 : Int32) (s1 : Int32) (s2 : Int32) (k : ((Int32 × Int32) → Option Int32)) : Option Int32 := if ¬ s1 = s2 then (f_X2_likeness_42 columns rows numbers figure p1_a x3 s0 0 k) else (f_X2_likeness_42 columns rows numbers figure p1_a x3 s0 1 k)
def f_X2_likeness_4b (columns : Int32) (rows : Int32) (numbers : Nat → Int32) (figure : Nat → Int32) (p1_a : Nat → Int32) (x2 : Int32) (x3 : Int32) (k : ((Int32 × Int32) → Option Int32)) : Option Int32 := ob1 (f_X2_cells columns rows) (fun r_2 => if r_2 ≤ x3 then (some x2) else (ob1 (f_X2_isStill numbers p1_a x3) (fun r_5 => if inb x3 36 = true then if ¬ (figure (x3.toNatClampNeg)) = 1 then (f_X2_likeness_34 columns rows numbers figure p1_a x3 x2 r_5 0 k) else (f_X2_likeness_34 columns rows numbers figure p1_a x3 x2 r_5 1 k) else none)))
def f_X2_likeness_4s (columns : Int32) (rows : Int32) (numbers : Nat → Int32) (figure : Nat → Int32) (p1_a : Nat → Int32) : (Int32 × Int32) → ((Int32 × Int32) → Option Int32) → Option Int32 := fun t k => f_X2_likeness_4b columns rows numbers figure p1_a t.1 t.2 k
def f_X2_likeness_4 (columns : Int32) (rows : Int32) (numbers : Nat → Int32) (figure : Nat → Int32) (p1_a : Nat → Int32) (x2 : Int32) (x3 : Int32) : Option Int32 := obx (vm_it (f_X2_likeness_4s columns rows numbers figure p1_a) FU (x2, x3)) (fun x2 => f_X2_likeness_50 x2)
def f_X2_likeness (columns : Int32) (rows : Int32) (numbers : Nat → Int32) (figure : Nat → Int32) (p1_a : Nat → Int32) : Option Int32 := f_X2_likeness_4 columns rows numbers figure p1_a 0 0
set_option maxHeartbeats 4000000 in
set_option maxRecDepth 100000 in
theorem c_X2_likeness (l : Launch) (Γ : GE) (sz : Nat) (q0 q1 q2 q3 d0 : Nat) (columns : Int32) (rows : Int32) (numbers : Nat → Int32) (figure : Nat → Int32) (p1_a : Nat → Int32) (ro : Int32) (hf : f_X2_likeness columns rows numbers figure p1_a = some ro) : MetI l yX2_likeness wsX2_likeness ({ frames := 1, cells := 0, slots := 0, locals := 22 } : Room) Γ [.ref q0, .ref q3] (wd_X2_likeness Γ q0 q1 q2 q3 d0 columns rows numbers figure p1_a) (wd_X2_likeness Γ q0 q1 q2 q3 d0 columns rows numbers figure p1_a) sz ro := by
  refine Met.ofW (cc := cX2_likeness) (maxL := 4) (ret := (some .int)) (by decide) rfl ?_
  intro p e s m args below meth c s₁ B hml hv
  obtain ⟨rfl, hsz, hE, hP, hD⟩ := hv
  have hx := B.exec
  have hb := B.bytes
  have hr := B.returns
  have hts := atoms_spec (ws := wsX2_likeness) B.pre
  have hown : s.vm.findClass RX2 = some m.cls := findClass_of_methodNamed B.named
  have hlocks := B.notSynchronized
  subst hsz
  generalize hAe : va_A (wd_X2_likeness Γ q0 q1 q2 q3 d0 columns rows numbers figure p1_a) s.heap.size = A at hE hD ⊢
  have hA : ∀ q : Nat, s.heap.size ≤ q → A q := fun q h => by rw [← hAe]; exact Or.inr h
  clear hAe
  have hS : va_S A s.heap s.heap [] := va_S.rf
  have hK := hE.1
  have hl := lv_entry ([.ref q0, .ref q3]) (n := 4) (Nat.le_of_ble_eq_true rfl)
  rw [lg_entry_eq]
  generalize (lg_sl ([.ref q0, .ref q3]) ++ List.replicate (4 - (lg_sl ([.ref q0, .ref q3])).length) Slot.unset).toArray = ls at hl ⊢
  have hl : lv_has ls 4 [(0, .ref q0), (1, .ref q3)] := hl
  have hi2 : ∀ w ∈ u_ws RX2 TX2 5, w ∈ wsX2_likeness := fun w h => (List.mem_cons_of_mem _ (List.mem_append_right _ h))
  obtain ⟨out, hout⟩ : ∃ o, o = ro := ⟨_, rfl⟩
  rw [← hout] at hf
  obtain ⟨QQ, hQQ⟩ : ∃ Q, Q = MQ below (va_Qi (fun (r' : Int32) (_ : Unit) => r' = ro) (CQ Γ (wd_X2_likeness Γ q0 q1 q2 q3 d0 columns rows numbers figure p1_a) A) A) (([.ref q0, .ref q3] : List Value).toArray) s 0 0 A := ⟨_, rfl⟩
  show W p l e ({ frames := 1, cells := 0, slots := 0, locals := 22 } : Room) s m (([.ref q0, .ref q3] : List Value).toArray) below meth c s.heap [] 0 0 (MQ below _ (([.ref q0, .ref q3] : List Value).toArray) s 0 0 A) (F0 m 0 ls [])
  rw [← hQQ]
  have K_50 : ∀ (x2 : Int32) {H : Heap} {locs : List Loc} {ls : Array Slot}, va_P Γ.1 vwCl (wd_X2_likeness Γ q0 q1 q2 q3 d0 columns rows numbers figure p1_a) H → va_D A (wd_X2_likeness Γ q0 q1 q2 q3 d0 columns rows numbers figure p1_a) → va_S A s.heap H locs → lv_has ls 4 [(2, .int x2)] → f_X2_likeness_50 x2 = some out → W p l e ({ frames := 1, cells := 0, slots := 0, locals := 22 } : Room) s m ([.ref q0, .ref q3] : List Value).toArray below meth c H locs 0 0 QQ (F0 m 50 ls []) := by
    intro x2 H locs ls hP hD hS hl hf
    unfold f_X2_likeness_50 at hf
    refine lv_iload_n hx hb dX2_likeness_50 rfl (lv_at hl 0 rfl) ?_
    subst hout; cases hf
    subst hQQ
    exact W.iret (v := x2) hx hb hr (fun t ht hW => ⟨⟨_, (), rfl, rfl, by rw [ht]; exact hP, hD⟩, hS.F ht⟩) hS.2.2 dX2_likeness_51
  have K_4 : ∀ (x2 : Int32) (x3 : Int32) {H : Heap} {locs : List Loc} {ls : Array Slot}, va_P Γ.1 vwCl (wd_X2_likeness Γ q0 q1 q2 q3 d0 columns rows numbers figure p1_a) H → va_D A (wd_X2_likeness Γ q0 q1 q2 q3 d0 columns rows numbers figure p1_a) → va_S A s.heap H locs → lv_has ls 4 [(0, .ref q0), (1, .ref q3), (2, .int x2), (3, .int x3)] → f_X2_likeness_4 columns rows numbers figure p1_a x2 x3 = some out → W p l e ({ frames := 1, cells := 0, slots := 0, locals := 22 } : Room) s m ([.ref q0, .ref q3] : List Value).toArray below meth c H locs 0 0 QQ (F0 m 4 ls []) := by
    intro x2 x3 H locs ls hP hD hS hl hf
    unfold f_X2_likeness_4 at hf
    obtain ⟨ex4, h1, hX4⟩ := obx_some hf
    have LP : ∀ (n : Nat) (x2 : Int32) (x3 : Int32)  {H : Heap} {locs : List Loc} {ls : Array Slot}, va_P Γ.1 vwCl (wd_X2_likeness Γ q0 q1 q2 q3 d0 columns rows numbers figure p1_a) H → va_D A (wd_X2_likeness Γ q0 q1 q2 q3 d0 columns rows numbers figure p1_a) → va_S A s.heap H locs → lv_has ls 4 [(0, .ref q0), (1, .ref q3), (2, .int x2), (3, .int x3)] → vm_it (f_X2_likeness_4s columns rows numbers figure p1_a) n (x2, x3) = some ex4 → W p l e ({ frames := 1, cells := 0, slots := 0, locals := 22 } : Room) s m ([.ref q0, .ref q3] : List Value).toArray below meth c H locs 0 0 QQ (F0 m 4 ls []) := by
      clear hP hD hS hl hf h1
      intro n
      induction n with
      | zero => intro x2 x3 H locs ls hP hD hS hl hf; exact (vm_it_0 hf).elim
      | succ n ih =>
        intro x2 x3 H locs ls hP hD hS hl hf
        have hf : f_X2_likeness_4b columns rows numbers figure p1_a x2 x3 (vm_it (f_X2_likeness_4s columns rows numbers figure p1_a) n) = some ex4 := hf
        have K_42 : ∀ (x3 : Int32) (s0 : Int32) (s1 : Int32) {H : Heap} {locs : List Loc} {ls : Array Slot}, va_P Γ.1 vwCl (wd_X2_likeness Γ q0 q1 q2 q3 d0 columns rows numbers figure p1_a) H → va_D A (wd_X2_likeness Γ q0 q1 q2 q3 d0 columns rows numbers figure p1_a) → va_S A s.heap H locs → lv_has ls 4 [(0, .ref q0), (1, .ref q3), (3, .int x3)] → f_X2_likeness_42 columns rows numbers figure p1_a x3 s0 s1 (vm_it (f_X2_likeness_4s columns rows numbers figure p1_a) n) = some ex4 → W p l e ({ frames := 1, cells := 0, slots := 0, locals := 22 } : Room) s m ([.ref q0, .ref q3] : List Value).toArray below meth c H locs 0 0 QQ (F0 m 42 ls [.int s1, .int s0]) := by
          intro x3 s0 s1 H locs ls hP hD hS hl hf
          unfold f_X2_likeness_42 at hf
          refine lv_iadd hx hb dX2_likeness_42 ?_
          refine lv_istore_n (lv' := [(2, .int (s0 + s1)), (0, .ref q0), (1, .ref q3), (3, .int x3)]) hx hb dX2_likeness_43 rfl hl (by decide) rfl (fun ls hl => ?_)
          refine lv_iinc (v := (x3 + 1)) (lv' := [(3, .int (x3 + 1)), (2, .int (s0 + s1)), (0, .ref q0), (1, .ref q3)]) hx hb dX2_likeness_44 hl (k := 3) rfl rfl (by decide) rfl (fun ls hl => ?_)
          refine lv_goto (tgt := 4) hx hb dX2_likeness_47 (by decide) ?_
          exact ih (s0 + s1) (x3 + 1) hP hD hS (lv_sub hl [2, 3, 1, 0] rfl) hf
        have K_34 : ∀ (x3 : Int32) (s0 : Int32) (s1 : Int32) (s2 : Int32) {H : Heap} {locs : List Loc} {ls : Array Slot}, va_P Γ.1 vwCl (wd_X2_likeness Γ q0 q1 q2 q3 d0 columns rows numbers figure p1_a) H → va_D A (wd_X2_likeness Γ q0 q1 q2 q3 d0 columns rows numbers figure p1_a) → va_S A s.heap H locs → lv_has ls 4 [(0, .ref q0), (1, .ref q3), (3, .int x3)] → f_X2_likeness_34 columns rows numbers figure p1_a x3 s0 s1 s2 (vm_it (f_X2_likeness_4s columns rows numbers figure p1_a) n) = some ex4 → W p l e ({ frames := 1, cells := 0, slots := 0, locals := 22 } : Room) s m ([.ref q0, .ref q3] : List Value).toArray below meth c H locs 0 0 QQ (F0 m 34 ls [.int s2, .int s1, .int s0]) := by
          intro x3 s0 s1 s2 H locs ls hP hD hS hl hf
          unfold f_X2_likeness_34 at hf
          refine lv_icmp_ne (tgt := 41) hx hb dX2_likeness_34 (by decide) (fun hc_1 => ?_) (fun hc_1 => ?_)
          · have hf := vm_pos hc_1 hf
            refine lv_iconst (v := 0) hx hb dX2_likeness_41 (by decide) ?_
            exact K_42 x3 s0 0 hP hD hS (lv_sub hl [0, 1, 2] rfl) hf
          · have hf := vm_neg hc_1 hf
            refine lv_iconst (v := 1) hx hb dX2_likeness_37 (by decide) ?_
            refine lv_goto (tgt := 42) hx hb dX2_likeness_38 (by decide) ?_
            exact K_42 x3 s0 1 hP hD hS (lv_sub hl [0, 1, 2] rfl) hf
        unfold f_X2_likeness_4b at hf
        refine lv_iload_n hx hb dX2_likeness_4 rfl (lv_at hl 3 rfl) ?_
        refine lv_aload_n hx hb dX2_likeness_5 rfl (lv_at hl 0 rfl) ?_
        obtain ⟨r_2, hq_3, hf⟩ := ob1_some hf
        refine vm_cVi (isC := [0]) (wc := (wd_X2_cells Γ q0 q1 q2 d0 columns rows)) (w1 := (wd_X2_cells Γ q0 q1 q2 d0 columns rows)) (As := []) (rest := [.int x3]) ⟨hx, hb, hml, hown, hts⟩ hE hP hD hS hA rfl rfl rfl (c_X2_cells l Γ _ q0 q1 q2 d0 columns rows r_2 hq_3) (cwV 0 hts gX2_likeness_X2_cells rfl rfl rfl (by decide +kernel) ⟨Nat.le_of_ble_eq_true rfl, Nat.le_of_ble_eq_true rfl⟩) (va_recv (ci := 2) (q0 := 0) hK hP rfl rfl) rfl hl.1 rfl (Nat.le_of_ble_eq_true rfl) dX2_likeness_6 ⟨Nat.zero_le _, Nat.zero_le _⟩ (fun H locs hP hD hS => ?_)
        have hP : va_P Γ.1 vwCl (wd_X2_likeness Γ q0 q1 q2 q3 d0 columns rows numbers figure p1_a) H := hP
        have hD : va_D A (wd_X2_likeness Γ q0 q1 q2 q3 d0 columns rows numbers figure p1_a) := hD
        refine lv_icmp_ge (tgt := 50) hx hb dX2_likeness_9 (by decide) (fun hc_4 => ?_) (fun hc_4 => ?_)
        · have hf := vm_pos hc_4 hf
          have hX := vm_ex hf hX4
          exact K_50 x2 hP hD hS (lv_sub hl [2] rfl) hX
        · have hf := vm_neg hc_4 hf
          refine lv_iload_n hx hb dX2_likeness_12 rfl (lv_at hl 2 rfl) ?_
          refine lv_aload_n hx hb dX2_likeness_13 rfl (lv_at hl 0 rfl) ?_
          refine lv_aload_n hx hb dX2_likeness_14 rfl (lv_at hl 1 rfl) ?_
          refine lv_iload_n hx hb dX2_likeness_15 rfl (lv_at hl 3 rfl) ?_
          obtain ⟨r_5, hq_6, hf⟩ := ob1_some hf
          refine vm_cVi (isC := [0, 1, 3]) (wc := (wd_X2_isStill Γ q0 q1 q3 q2 d0 columns rows numbers p1_a)) (w1 := (wd_X2_isStill Γ q0 q1 q3 q2 d0 columns rows numbers p1_a)) (As := [.ref q3, .int x3]) (rest := [.int x2]) ⟨hx, hb, hml, hown, hts⟩ hE hP hD hS hA rfl rfl rfl (c_X2_isStill l Γ _ q0 q1 q3 q2 d0 columns rows numbers p1_a x3 r_5 hq_6) (cwV 2 hts gX2_likeness_X2_isStill rfl rfl rfl (by decide +kernel) ⟨Nat.le_of_ble_eq_true rfl, Nat.le_of_ble_eq_true rfl⟩) (va_recv (ci := 2) (q0 := 0) hK hP rfl rfl) rfl hl.1 rfl (Nat.le_of_ble_eq_true rfl) dX2_likeness_16 ⟨Nat.zero_le _, Nat.zero_le _⟩ (fun H locs hP hD hS => ?_)
          have hP : va_P Γ.1 vwCl (wd_X2_likeness Γ q0 q1 q2 q3 d0 columns rows numbers figure p1_a) H := hP
          have hD : va_D A (wd_X2_likeness Γ q0 q1 q2 q3 d0 columns rows numbers figure p1_a) := hD
          refine lv_aload_n hx hb dX2_likeness_19 rfl (lv_at hl 0 rfl) ?_
          refine va_get (D := Γ.1) (ci := 2) (v := .ref q2) (C := RX2) (T := TX2) (N := 5) hx hb hts hi2 hown hK hP 0 rfl rfl 3 (by decide) (hts (.fieldLink RX2 15 "SandPlates$Plate" "figure" "[I") (List.mem_of_getElem? (i := 1) rfl)) (fun _ h9 => h9) rfl dX2_likeness_20 ?_
          refine lv_iload_n hx hb dX2_likeness_23 rfl (lv_at hl 3 rfl) ?_
          obtain ⟨hc_7, hf⟩ := vm_ck hf
          refine vm_iald hx hb hK hP 2 0 rfl rfl hc_7 (j := x3.toNatClampNeg) rfl dX2_likeness_24 ?_
          refine lv_iconst (v := 1) hx hb dX2_likeness_25 (by decide) ?_
          refine lv_icmp_ne (tgt := 33) hx hb dX2_likeness_26 (by decide) (fun hc_8 => ?_) (fun hc_8 => ?_)
          · have hf := vm_pos hc_8 hf
            refine lv_iconst (v := 0) hx hb dX2_likeness_33 (by decide) ?_
            exact K_34 x3 x2 r_5 0 hP hD hS (lv_sub hl [0, 1, 3] rfl) hf
          · have hf := vm_neg hc_8 hf
            refine lv_iconst (v := 1) hx hb dX2_likeness_29 (by decide) ?_
            refine lv_goto (tgt := 34) hx hb dX2_likeness_30 (by decide) ?_
            exact K_34 x3 x2 r_5 1 hP hD hS (lv_sub hl [0, 1, 3] rfl) hf
    exact LP FU x2 x3 hP hD hS hl h1
  unfold f_X2_likeness at hf
  refine lv_iconst (v := 0) hx hb dX2_likeness_0 (by decide) ?_
  refine lv_istore_n (lv' := [(2, .int 0), (0, .ref q0), (1, .ref q3)]) hx hb dX2_likeness_1 rfl hl (by decide) rfl (fun ls hl => ?_)
  refine lv_iconst (v := 0) hx hb dX2_likeness_2 (by decide) ?_
  refine lv_istore_n (lv' := [(3, .int 0), (2, .int 0), (0, .ref q0), (1, .ref q3)]) hx hb dX2_likeness_3 rfl hl (by decide) rfl (fun ls hl => ?_)
  exact K_4 0 0 hP hD hS (lv_sub hl [2, 3, 1, 0] rfl) hf
