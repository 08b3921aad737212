def wd_X6_add (Γ : GE) (q0 q1 : Nat) (length : Int32) (kind : Int32) (first : Int32) (fin : Int32) (letters : Nat → Int32) : va_W := [(q0, .inr (6, [.ref q1, .int length, .int kind, .int first, .int fin])), (q1, .inl (Γ.2.1 0, 120, .inl letters))]
def f_X6_add (length : Int32) (letters : Nat → Int32) (x1 : Int32) : Option (Int32 × Int32 × (Nat → Int32)) := if length < 120 then (if inb length 120 = true then some (1, (length + 1), (upd letters (length.toNatClampNeg) x1)) else none) else (some (0, length, letters))
set_option maxHeartbeats 4000000 in
set_option maxRecDepth 100000 in
theorem c_X6_add (l : Launch) (Γ : GE) (sz : Nat) (q0 q1 : Nat) (length : Int32) (kind : Int32) (first : Int32) (fin : Int32) (letters : Nat → Int32) (x1 : Int32) (ro : Int32) (o_length : Int32) (o_letters : Nat → Int32) (hf : f_X6_add length letters x1 = some (ro, o_length, o_letters)) : MetI l yX6_add wsX6_add ({ frames := 0, cells := 0, slots := 0, locals := 0 } : Room) Γ [.ref q0, .int x1] (wd_X6_add Γ q0 q1 length kind first fin letters) (wd_X6_add Γ q0 q1 o_length kind first fin o_letters) sz ro := by
  refine Met.ofW (cc := cX6_add) (maxL := 2) (ret := (some .boolean)) (by decide) rfl ?_
  intro p e s m args below meth c s₁ B hml hv
  obtain ⟨rfl, hsz, hE, hP, hD⟩ := hv
  have hx := B.exec
  have hb := B.bytes
  have hr := B.returns
  have hts := atoms_spec (ws := wsX6_add) B.pre
  have hown : s.vm.findClass RX6 = some m.cls := findClass_of_methodNamed B.named
  have hlocks := B.notSynchronized
  subst hsz
  generalize hAe : va_A (wd_X6_add Γ q0 q1 length kind first fin letters) s.heap.size = A at hE hD ⊢
  have hA : ∀ q : Nat, s.heap.size ≤ q → A q := fun q h => by rw [← hAe]; exact Or.inr h
  clear hAe
  have hS : va_S A s.heap s.heap [] := va_S.rf
  have hK := hE.1
  have hl := lv_entry ([.ref q0, .int x1]) (n := 2) (Nat.le_of_ble_eq_true rfl)
  rw [lg_entry_eq]
  generalize (lg_sl ([.ref q0, .int x1]) ++ List.replicate (2 - (lg_sl ([.ref q0, .int x1])).length) Slot.unset).toArray = ls at hl ⊢
  have hl : lv_has ls 2 [(0, .ref q0), (1, .int x1)] := hl
  have hi6 : ∀ w ∈ u_ws RX6 TX6 5, w ∈ wsX6_add := fun w h => (List.mem_cons_of_mem _ (List.mem_append_right _ h))
  obtain ⟨out, hout⟩ : ∃ o, o = (ro, o_length, o_letters) := ⟨_, rfl⟩
  rw [← hout] at hf
  obtain ⟨QQ, hQQ⟩ : ∃ Q, Q = MQ below (va_Qi (fun (r' : Int32) (_ : Unit) => r' = ro) (CQ Γ (wd_X6_add Γ q0 q1 o_length kind first fin o_letters) A) A) (([.ref q0, .int x1] : List Value).toArray) s 0 0 A := ⟨_, rfl⟩
  show W p l e ({ frames := 0, cells := 0, slots := 0, locals := 0 } : Room) s m (([.ref q0, .int x1] : List Value).toArray) below meth c s.heap [] 0 0 (MQ below _ (([.ref q0, .int x1] : List Value).toArray) s 0 0 A) (F0 m 0 ls [])
  rw [← hQQ]
  unfold f_X6_add at hf
  refine lv_aload_n hx hb dX6_add_0 rfl (lv_at hl 0 rfl) ?_
  refine va_get (D := Γ.1) (ci := 6) (v := .int length) (C := RX6) (T := TX6) (N := 5) hx hb hts hi6 hown hK hP 0 rfl rfl 1 (by decide) (hts (.fieldLink RX6 15 "SandPlates$Text" "length" "I") (List.mem_of_getElem? (i := 1) rfl)) (fun _ h9 => h9) rfl dX6_add_1 ?_
  refine lv_bipush (v := 120) hx hb dX6_add_4 (by decide) ?_
  refine lv_icmp_lt (tgt := 11) hx hb dX6_add_6 (by decide) (fun hc_1 => ?_) (fun hc_1 => ?_)
  · have hf := vm_pos hc_1 hf
    refine lv_aload_n hx hb dX6_add_11 rfl (lv_at hl 0 rfl) ?_
    refine va_get (D := Γ.1) (ci := 6) (v := .ref q1) (C := RX6) (T := TX6) (N := 5) hx hb hts hi6 hown hK hP 0 rfl rfl 0 (by decide) (hts (.fieldLink RX6 9 "SandPlates$Text" "letters" "[I") (List.mem_of_getElem? (i := 2) rfl)) (fun _ h9 => h9) rfl dX6_add_12 ?_
    refine lv_aload_n hx hb dX6_add_15 rfl (lv_at hl 0 rfl) ?_
    refine va_get (D := Γ.1) (ci := 6) (v := .int length) (C := RX6) (T := TX6) (N := 5) hx hb hts hi6 hown hK hP 0 rfl rfl 1 (by decide) (hts (.fieldLink RX6 15 "SandPlates$Text" "length" "I") (List.mem_of_getElem? (i := 1) rfl)) (fun _ h9 => h9) rfl dX6_add_16 ?_
    refine lv_iload_n hx hb dX6_add_19 rfl (lv_at hl 1 rfl) ?_
    obtain ⟨hc_2, hf⟩ := vm_ck hf
    refine vm_iast hx hb hK hP hD hS 1 0 rfl rfl hc_2 (j := (length.toNatClampNeg)) rfl dX6_add_20 (fun H locs hP hD hS => ?_)
    have hP : va_P Γ.1 vwCl (wd_X6_add Γ q0 q1 length kind first fin (upd letters (length.toNatClampNeg) x1)) H := hP
    have hD : va_D A (wd_X6_add Γ q0 q1 length kind first fin (upd letters (length.toNatClampNeg) x1)) := hD
    refine lv_aload_n hx hb dX6_add_21 rfl (lv_at hl 0 rfl) ?_
    refine lv_dup hx hb dX6_add_22 rfl ?_
    refine va_get (D := Γ.1) (ci := 6) (v := .int length) (C := RX6) (T := TX6) (N := 5) hx hb hts hi6 hown hK hP 0 rfl rfl 1 (by decide) (hts (.fieldLink RX6 15 "SandPlates$Text" "length" "I") (List.mem_of_getElem? (i := 1) rfl)) (fun _ h9 => h9) rfl dX6_add_23 ?_
    refine lv_iconst (v := 1) hx hb dX6_add_26 (by decide) ?_
    refine lv_iadd hx hb dX6_add_27 ?_
    refine va_put (D := Γ.1) (ci := 6) (v := .int (length + 1)) (ty := .int) (C := RX6) (T := TX6) (N := 5) hx hb hts hi6 tyX6 tyX6_ok nmX6 hown hK hP hD hS 0 rfl rfl 1 (by decide) (hts (.fieldLink RX6 15 "SandPlates$Text" "length" "I") (List.mem_of_getElem? (i := 1) rfl)) (fun _ h9 => h9) rfl (by decide +kernel) rfl rfl (Nat.le_of_ble_eq_true rfl) dX6_add_28 (fun H locs hP hD hS => ?_)
    have hP : va_P Γ.1 vwCl (wd_X6_add Γ q0 q1 (length + 1) kind first fin (upd letters (length.toNatClampNeg) x1)) H := hP
    have hD : va_D A (wd_X6_add Γ q0 q1 (length + 1) kind first fin (upd letters (length.toNatClampNeg) x1)) := hD
    refine lv_iconst (v := 1) hx hb dX6_add_31 (by decide) ?_
    subst hout; obtain ⟨rfl, rfl, rfl⟩ := rt3 hf
    subst hQQ
    exact W.zret hx hb hr rfl (fun t ht hW => ⟨⟨_, (), rfl, rfl, by rw [ht]; exact hP, hD⟩, hS.F ht⟩) hS.2.2 dX6_add_32
  · have hf := vm_neg hc_1 hf
    refine lv_iconst (v := 0) hx hb dX6_add_9 (by decide) ?_
    subst hout; obtain ⟨rfl, rfl, rfl⟩ := rt3 hf
    subst hQQ
    exact W.zret hx hb hr rfl (fun t ht hW => ⟨⟨_, (), rfl, rfl, by rw [ht]; exact hP, hD⟩, hS.F ht⟩) hS.2.2 dX6_add_10
def wd_X6_rewind (Γ : GE) (q0 d0 : Nat) (length : Int32) (kind : Int32) (first : Int32) (fin : Int32) : va_W := [(q0, .inr (6, [.ref d0, .int length, .int kind, .int first, .int fin]))]
def f_X6_rewind  : Option Int32 := some 0
set_option maxHeartbeats 4000000 in
set_option maxRecDepth 100000 in
theorem c_X6_rewind (l : Launch) (Γ : GE) (sz : Nat) (q0 d0 : Nat) (length : Int32) (kind : Int32) (first : Int32) (fin : Int32) (o_fin : Int32) (hf : f_X6_rewind = some o_fin) : MetV l yX6_rewind wsX6_rewind ({ frames := 0, cells := 0, slots := 0, locals := 0 } : Room) Γ [.ref q0] (wd_X6_rewind Γ q0 d0 length kind first fin) (wd_X6_rewind Γ q0 d0 length kind first o_fin) sz := by
  refine Met.ofW (cc := cX6_rewind) (maxL := 1) (ret := none) (by decide) rfl ?_
  intro p e s m args below meth c s₁ B hml hv
  obtain ⟨rfl, hsz, hE, hP, hD⟩ := hv
  have hx := B.exec
  have hb := B.bytes
  have hr := B.returns
  have hts := atoms_spec (ws := wsX6_rewind) B.pre
  have hown : s.vm.findClass RX6 = some m.cls := findClass_of_methodNamed B.named
  have hlocks := B.notSynchronized
  subst hsz
  generalize hAe : va_A (wd_X6_rewind Γ q0 d0 length kind first fin) s.heap.size = A at hE hD ⊢
  have hA : ∀ q : Nat, s.heap.size ≤ q → A q := fun q h => by rw [← hAe]; exact Or.inr h
  clear hAe
  have hS : va_S A s.heap s.heap [] := va_S.rf
  have hK := hE.1
  have hl := lv_entry ([.ref q0]) (n := 1) (Nat.le_of_ble_eq_true rfl)
  rw [lg_entry_eq]
  generalize (lg_sl ([.ref q0]) ++ List.replicate (1 - (lg_sl ([.ref q0])).length) Slot.unset).toArray = ls at hl ⊢
  have hl : lv_has ls 1 [(0, .ref q0)] := hl
  have hi6 : ∀ w ∈ u_ws RX6 TX6 5, w ∈ wsX6_rewind := fun w h => (List.mem_cons_of_mem _ (List.mem_append_right _ h))
  obtain ⟨out, hout⟩ : ∃ o, o = o_fin := ⟨_, rfl⟩
  rw [← hout] at hf
  obtain ⟨QQ, hQQ⟩ : ∃ Q, Q = MQ below (va_Qv (fun _ : Unit => True) (CQ Γ (wd_X6_rewind Γ q0 d0 length kind first o_fin) A) A) (([.ref q0] : List Value).toArray) s 0 0 A := ⟨_, rfl⟩
  show W p l e ({ frames := 0, cells := 0, slots := 0, locals := 0 } : Room) s m (([.ref q0] : List Value).toArray) below meth c s.heap [] 0 0 (MQ below _ (([.ref q0] : List Value).toArray) s 0 0 A) (F0 m 0 ls [])
  rw [← hQQ]
  unfold f_X6_rewind at hf
  refine lv_aload_n hx hb dX6_rewind_0 rfl (lv_at hl 0 rfl) ?_
  refine lv_iconst (v := 0) hx hb dX6_rewind_1 (by decide) ?_
  refine va_put (D := Γ.1) (ci := 6) (v := .int 0) (ty := .int) (C := RX6) (T := TX6) (N := 5) hx hb hts hi6 tyX6 tyX6_ok nmX6 hown hK hP hD hS 0 rfl rfl 4 (by decide) (hts (.fieldLink RX6 19 "SandPlates$Text" "end" "I") (List.mem_of_getElem? (i := 1) rfl)) (fun _ h9 => h9) rfl (by decide +kernel) rfl rfl (Nat.le_of_ble_eq_true rfl) dX6_rewind_2 (fun H locs hP hD hS => ?_)
  have hP : va_P Γ.1 vwCl (wd_X6_rewind Γ q0 d0 length kind first 0) H := hP
  have hD : va_D A (wd_X6_rewind Γ q0 d0 length kind first 0) := hD
  subst hout; obtain rfl := Option.some.inj hf
  subst hQQ
  exact W.vret hx hb hr (fun t ht hW => ⟨⟨(), rfl, trivial, by rw [ht]; exact hP, hD⟩, hS.F ht⟩) hS.2.2 dX6_rewind_5
def wd_X6_kindOf (Γ : GE) : va_W := []
def f_X6_kindOf_39 (s0 : Int32) : Option Int32 := some s0
def f_X6_kindOf_28 (x0 : Int32) : Option Int32 := if x0 = 59 then (f_X6_kindOf_39 3) else (f_X6_kindOf_39 4)
def f_X6_kindOf_14 (x0 : Int32) : Option Int32 := if x0 < 48 then (f_X6_kindOf_28 x0) else (if 57 < x0 then (f_X6_kindOf_28 x0) else (some 2))
def f_X6_kindOf (x0 : Int32) : Option Int32 := if x0 < 97 then (f_X6_kindOf_14 x0) else (if 122 < x0 then (f_X6_kindOf_14 x0) else (some 1))
set_option maxHeartbeats 4000000 in
set_option maxRecDepth 100000 in
theorem c_X6_kindOf (l : Launch) (Γ : GE) (sz : Nat) (x0 : Int32) (ro : Int32) (hf : f_X6_kindOf x0 = some ro) : MetI l yX6_kindOf wsX6_kindOf ({ frames := 0, cells := 0, slots := 0, locals := 0 } : Room) Γ [.int x0] (wd_X6_kindOf Γ) (wd_X6_kindOf Γ) sz ro := by
  refine Met.ofW (cc := cX6_kindOf) (maxL := 1) (ret := (some .int)) (by decide) rfl ?_
  intro p e s m args below meth c s₁ B hml hv
  obtain ⟨rfl, hsz, hE, hP, hD⟩ := hv
  have hx := B.exec
  have hb := B.bytes
  have hr := B.returns
  have hts := atoms_spec (ws := wsX6_kindOf) B.pre
  have hown : s.vm.findClass RX6 = some m.cls := findClass_of_methodNamed B.named
  have hlocks := B.notSynchronized
  subst hsz
  generalize hAe : va_A (wd_X6_kindOf Γ) s.heap.size = A at hE hD ⊢
  have hA : ∀ q : Nat, s.heap.size ≤ q → A q := fun q h => by rw [← hAe]; exact Or.inr h
  clear hAe
  have hS : va_S A s.heap s.heap [] := va_S.rf
  have hK := hE.1
  have hl := lv_entry ([.int x0]) (n := 1) (Nat.le_of_ble_eq_true rfl)
  rw [lg_entry_eq]
  generalize (lg_sl ([.int x0]) ++ List.replicate (1 - (lg_sl ([.int x0])).length) Slot.unset).toArray = ls at hl ⊢
  have hl : lv_has ls 1 [(0, .int x0)] := hl
  obtain ⟨out, hout⟩ : ∃ o, o = ro := ⟨_, rfl⟩
  rw [← hout] at hf
  obtain ⟨QQ, hQQ⟩ : ∃ Q, Q = MQ below (va_Qi (fun (r' : Int32) (_ : Unit) => r' = ro) (CQ Γ (wd_X6_kindOf Γ) A) A) (([.int x0] : List Value).toArray) s 0 0 A := ⟨_, rfl⟩
  show W p l e ({ frames := 0, cells := 0, slots := 0, locals := 0 } : Room) s m (([.int x0] : List Value).toArray) below meth c s.heap [] 0 0 (MQ below _ (([.int x0] : List Value).toArray) s 0 0 A) (F0 m 0 ls [])
  rw [← hQQ]
  have K_39 : ∀ (s0 : Int32) {H : Heap} {locs : List Loc} {ls : Array Slot}, va_P Γ.1 vwCl (wd_X6_kindOf Γ) H → va_D A (wd_X6_kindOf Γ) → va_S A s.heap H locs → lv_has ls 1 [] → f_X6_kindOf_39 s0 = some out → W p l e ({ frames := 0, cells := 0, slots := 0, locals := 0 } : Room) s m ([.int x0] : List Value).toArray below meth c H locs 0 0 QQ (F0 m 39 ls [.int s0]) := by
    intro s0 H locs ls hP hD hS hl hf
    unfold f_X6_kindOf_39 at hf
    subst hout; obtain rfl := Option.some.inj hf
    subst hQQ
    exact W.iret hx hb hr (fun t ht hW => ⟨⟨_, (), rfl, rfl, by rw [ht]; exact hP, hD⟩, hS.F ht⟩) hS.2.2 dX6_kindOf_39
  have K_28 : ∀ {H : Heap} {locs : List Loc} {ls : Array Slot}, va_P Γ.1 vwCl (wd_X6_kindOf Γ) H → va_D A (wd_X6_kindOf Γ) → va_S A s.heap H locs → lv_has ls 1 [(0, .int x0)] → f_X6_kindOf_28 x0 = some out → W p l e ({ frames := 0, cells := 0, slots := 0, locals := 0 } : Room) s m ([.int x0] : List Value).toArray below meth c H locs 0 0 QQ (F0 m 28 ls []) := by
    intro H locs ls hP hD hS hl hf
    unfold f_X6_kindOf_28 at hf
    refine lv_iload_n hx hb dX6_kindOf_28 rfl (lv_at hl 0 rfl) ?_
    refine lv_bipush (v := 59) hx hb dX6_kindOf_29 (by decide) ?_
    refine lv_icmp_ne (tgt := 38) hx hb dX6_kindOf_31 (by decide) (fun hc_1 => ?_) (fun hc_1 => ?_)
    · have hf := vm_neg hc_1 hf
      refine lv_iconst (v := 4) hx hb dX6_kindOf_38 (by decide) ?_
      exact K_39 4 hP hD hS (lv_sub hl [] rfl) hf
    · have hf := vm_pos hc_1 hf
      refine lv_iconst (v := 3) hx hb dX6_kindOf_34 (by decide) ?_
      refine lv_goto (tgt := 39) hx hb dX6_kindOf_35 (by decide) ?_
      exact K_39 3 hP hD hS (lv_sub hl [] rfl) hf
  have K_14 : ∀ {H : Heap} {locs : List Loc} {ls : Array Slot}, va_P Γ.1 vwCl (wd_X6_kindOf Γ) H → va_D A (wd_X6_kindOf Γ) → va_S A s.heap H locs → lv_has ls 1 [(0, .int x0)] → f_X6_kindOf_14 x0 = some out → W p l e ({ frames := 0, cells := 0, slots := 0, locals := 0 } : Room) s m ([.int x0] : List Value).toArray below meth c H locs 0 0 QQ (F0 m 14 ls []) := by
    intro H locs ls hP hD hS hl hf
    unfold f_X6_kindOf_14 at hf
    refine lv_iload_n hx hb dX6_kindOf_14 rfl (lv_at hl 0 rfl) ?_
    refine lv_bipush (v := 48) hx hb dX6_kindOf_15 (by decide) ?_
    refine lv_icmp_lt (tgt := 28) hx hb dX6_kindOf_17 (by decide) (fun hc_2 => ?_) (fun hc_2 => ?_)
    · have hf := vm_pos hc_2 hf
      exact K_28  hP hD hS (lv_sub hl [0] rfl) hf
    · have hf := vm_neg hc_2 hf
      refine lv_iload_n hx hb dX6_kindOf_20 rfl (lv_at hl 0 rfl) ?_
      refine lv_bipush (v := 57) hx hb dX6_kindOf_21 (by decide) ?_
      refine lv_icmp_gt (tgt := 28) hx hb dX6_kindOf_23 (by decide) (fun hc_3 => ?_) (fun hc_3 => ?_)
      · have hf := vm_pos hc_3 hf
        exact K_28  hP hD hS (lv_sub hl [0] rfl) hf
      · have hf := vm_neg hc_3 hf
        refine lv_iconst (v := 2) hx hb dX6_kindOf_26 (by decide) ?_
        subst hout; obtain rfl := Option.some.inj hf
        subst hQQ
        exact W.iret hx hb hr (fun t ht hW => ⟨⟨_, (), rfl, rfl, by rw [ht]; exact hP, hD⟩, hS.F ht⟩) hS.2.2 dX6_kindOf_27
  unfold f_X6_kindOf at hf
  refine lv_iload_n hx hb dX6_kindOf_0 rfl (lv_at hl 0 rfl) ?_
  refine lv_bipush (v := 97) hx hb dX6_kindOf_1 (by decide) ?_
  refine lv_icmp_lt (tgt := 14) hx hb dX6_kindOf_3 (by decide) (fun hc_4 => ?_) (fun hc_4 => ?_)
  · have hf := vm_pos hc_4 hf
    exact K_14  hP hD hS (lv_sub hl [0] rfl) hf
  · have hf := vm_neg hc_4 hf
    refine lv_iload_n hx hb dX6_kindOf_6 rfl (lv_at hl 0 rfl) ?_
    refine lv_bipush (v := 122) hx hb dX6_kindOf_7 (by decide) ?_
    refine lv_icmp_gt (tgt := 14) hx hb dX6_kindOf_9 (by decide) (fun hc_5 => ?_) (fun hc_5 => ?_)
    · have hf := vm_pos hc_5 hf
      exact K_14  hP hD hS (lv_sub hl [0] rfl) hf
    · have hf := vm_neg hc_5 hf
      refine lv_iconst (v := 1) hx hb dX6_kindOf_12 (by decide) ?_
      subst hout; obtain rfl := Option.some.inj hf
      subst hQQ
      exact W.iret hx hb hr (fun t ht hW => ⟨⟨_, (), rfl, rfl, by rw [ht]; exact hP, hD⟩, hS.F ht⟩) hS.2.2 dX6_kindOf_13
def wd_X6_advance (Γ : GE) (q0 q1 : Nat) (length : Int32) (kind : Int32) (first : Int32) (fin : Int32) (letters : Nat → Int32) : va_W := [(q0, .inr (6, [.ref q1, .int length, .int kind, .int first, .int fin])), (q1, .inl (Γ.2.1 0, 120, .inl letters))]
def f_X6_advance_158 (kind : Int32) (first : Int32) (fin : Int32) : Option (Int32 × Int32 × Int32) := some (kind, first, fin)
def f_X6_advance_111b (length : Int32) (kind : Int32) (first : Int32) (letters : Nat → Int32) (x1 : Int32) (fin : Int32) (k : (Int32 → Option Int32)) : Option Int32 := if x1 = 0 then (some fin) else (if length ≤ fin then (some fin) else (if inb fin 120 = true then ob1 (f_X6_kindOf (letters (fin.toNatClampNeg))) (fun r_4 => if r_4 = kind then (k (fin + 1)) else (some fin)) else none))
def f_X6_advance_111s (length : Int32) (kind : Int32) (first : Int32) (letters : Nat → Int32) (x1 : Int32) : Int32 → (Int32 → Option Int32) → Option Int32 := fun t k => f_X6_advance_111b length kind first letters x1 t k
def f_X6_advance_111 (length : Int32) (kind : Int32) (first : Int32) (fin : Int32) (letters : Nat → Int32) (x1 : Int32) : Option (Int32 × Int32 × Int32) := obx (vm_it (f_X6_advance_111s length kind first letters x1) FU fin) (fun fin => f_X6_advance_158 kind first fin)
def f_X6_advance_110 (length : Int32) (kind : Int32) (first : Int32) (fin : Int32) (letters : Nat → Int32) (s0 : Int32) : Option (Int32 × Int32 × Int32) := f_X6_advance_111 length kind first fin letters s0
def f_X6_advance_105 (length : Int32) (kind : Int32) (first : Int32) (fin : Int32) (letters : Nat → Int32) : Option (Int32 × Int32 × Int32) := f_X6_advance_110 length kind first fin letters 1
def f_X6_advance_38 (length : Int32) (fin : Int32) (letters : Nat → Int32) : Option (Int32 × Int32 × Int32) := if fin < length then (if inb fin 120 = true then ob1 (f_X6_kindOf (letters (fin.toNatClampNeg))) (fun r_9 => if r_9 = 1 then (f_X6_advance_105 length r_9 fin (fin + 1) letters) else (if r_9 = 2 then (f_X6_advance_105 length r_9 fin (fin + 1) letters) else (f_X6_advance_110 length r_9 fin (fin + 1) letters 0))) else none) else (some (0, fin, fin))
def f_X6_advance_0b (length : Int32) (letters : Nat → Int32) (fin : Int32) (k : (Int32 → Option Int32)) : Option Int32 := if length ≤ fin then (some fin) else (if inb fin 120 = true then if (letters (fin.toNatClampNeg)) = 32 then (k (fin + 1)) else (some fin) else none)
def f_X6_advance_0s (length : Int32) (letters : Nat → Int32) : Int32 → (Int32 → Option Int32) → Option Int32 := fun t k => f_X6_advance_0b length letters t k
def f_X6_advance_0 (length : Int32) (fin : Int32) (letters : Nat → Int32) : Option (Int32 × Int32 × Int32) := obx (vm_it (f_X6_advance_0s length letters) FU fin) (fun fin => f_X6_advance_38 length fin letters)
def f_X6_advance (length : Int32) (fin : Int32) (letters : Nat → Int32) : Option (Int32 × Int32 × Int32) := f_X6_advance_0 length fin letters
set_option maxHeartbeats 4000000 in
set_option maxRecDepth 100000 in
theorem c_X6_advance (l : Launch) (Γ : GE) (sz : Nat) (q0 q1 : Nat) (length : Int32) (kind : Int32) (first : Int32) (fin : Int32) (letters : Nat → Int32) (o_kind : Int32) (o_first : Int32) (o_fin : Int32) (hf : f_X6_advance length fin letters = some (o_kind, o_first, o_fin)) : MetV l yX6_advance wsX6_advance ({ frames := 1, cells := 0, slots := 0, locals := 20 } : Room) Γ [.ref q0] (wd_X6_advance Γ q0 q1 length kind first fin letters) (wd_X6_advance Γ q0 q1 length o_kind o_first o_fin letters) sz := by
  refine Met.ofW (cc := cX6_advance) (maxL := 2) (ret := none) (by decide) rfl ?_
  intro p e s m args below meth c s₁ B hml hv
  obtain ⟨rfl, hsz, hE, hP, hD⟩ := hv
  have hx := B.exec
  have hb := B.bytes
  have hr := B.returns
  have hts := atoms_spec (ws := wsX6_advance) B.pre
  have hown : s.vm.findClass RX6 = some m.cls := findClass_of_methodNamed B.named
  have hlocks := B.notSynchronized
  subst hsz
  generalize hAe : va_A (wd_X6_advance Γ q0 q1 length kind first fin letters) s.heap.size = A at hE hD ⊢
  have hA : ∀ q : Nat, s.heap.size ≤ q → A q := fun q h => by rw [← hAe]; exact Or.inr h
  clear hAe
  have hS : va_S A s.heap s.heap [] := va_S.rf
  have hK := hE.1
  have hl := lv_entry ([.ref q0]) (n := 2) (Nat.le_of_ble_eq_true rfl)
  rw [lg_entry_eq]
  generalize (lg_sl ([.ref q0]) ++ List.replicate (2 - (lg_sl ([.ref q0])).length) Slot.unset).toArray = ls at hl ⊢
  have hl : lv_has ls 2 [(0, .ref q0)] := hl
  have hi6 : ∀ w ∈ u_ws RX6 TX6 5, w ∈ wsX6_advance := fun w h => (List.mem_cons_of_mem _ (List.mem_append_right _ h))
  obtain ⟨out, hout⟩ : ∃ o, o = (o_kind, o_first, o_fin) := ⟨_, rfl⟩
  rw [← hout] at hf
  obtain ⟨QQ, hQQ⟩ : ∃ Q, Q = MQ below (va_Qv (fun _ : Unit => True) (CQ Γ (wd_X6_advance Γ q0 q1 length o_kind o_first o_fin letters) A) A) (([.ref q0] : List Value).toArray) s 0 0 A := ⟨_, rfl⟩
  show W p l e ({ frames := 1, cells := 0, slots := 0, locals := 20 } : Room) s m (([.ref q0] : List Value).toArray) below meth c s.heap [] 0 0 (MQ below _ (([.ref q0] : List Value).toArray) s 0 0 A) (F0 m 0 ls [])
  rw [← hQQ]
  have K_158 : ∀ (kind : Int32) (first : Int32) (fin : Int32) {H : Heap} {locs : List Loc} {ls : Array Slot}, va_P Γ.1 vwCl (wd_X6_advance Γ q0 q1 length kind first fin letters) H → va_D A (wd_X6_advance Γ q0 q1 length kind first fin letters) → va_S A s.heap H locs → lv_has ls 2 [] → f_X6_advance_158 kind first fin = some out → W p l e ({ frames := 1, cells := 0, slots := 0, locals := 20 } : Room) s m ([.ref q0] : List Value).toArray below meth c H locs 0 0 QQ (F0 m 158 ls []) := by
    intro kind first fin H locs ls hP hD hS hl hf
    unfold f_X6_advance_158 at hf
    subst hout; obtain ⟨rfl, rfl, rfl⟩ := rt3 hf
    subst hQQ
    exact W.vret hx hb hr (fun t ht hW => ⟨⟨(), rfl, trivial, by rw [ht]; exact hP, hD⟩, hS.F ht⟩) hS.2.2 dX6_advance_158
  have K_111 : ∀ (kind : Int32) (first : Int32) (fin : Int32) (x1 : Int32) {H : Heap} {locs : List Loc} {ls : Array Slot}, va_P Γ.1 vwCl (wd_X6_advance Γ q0 q1 length kind first fin letters) H → va_D A (wd_X6_advance Γ q0 q1 length kind first fin letters) → va_S A s.heap H locs → lv_has ls 2 [(0, .ref q0), (1, .int x1)] → f_X6_advance_111 length kind first fin letters x1 = some out → W p l e ({ frames := 1, cells := 0, slots := 0, locals := 20 } : Room) s m ([.ref q0] : List Value).toArray below meth c H locs 0 0 QQ (F0 m 111 ls []) := by
    intro kind first fin x1 H locs ls hP hD hS hl hf
    unfold f_X6_advance_111 at hf
    obtain ⟨ex111, h1, hX111⟩ := obx_some hf
    have LP : ∀ (n : Nat) (fin : Int32)  {H : Heap} {locs : List Loc} {ls : Array Slot}, va_P Γ.1 vwCl (wd_X6_advance Γ q0 q1 length kind first fin letters) H → va_D A (wd_X6_advance Γ q0 q1 length kind first fin letters) → va_S A s.heap H locs → lv_has ls 2 [(0, .ref q0), (1, .int x1)] → vm_it (f_X6_advance_111s length kind first letters x1) n fin = some ex111 → W p l e ({ frames := 1, cells := 0, slots := 0, locals := 20 } : Room) s m ([.ref q0] : List Value).toArray below meth c H locs 0 0 QQ (F0 m 111 ls []) := by
      clear hP hD hS hl hf h1
      intro n
      induction n with
      | zero => intro fin H locs ls hP hD hS hl hf; exact (vm_it_0 hf).elim
      | succ n ih =>
        intro fin H locs ls hP hD hS hl hf
        have hf : f_X6_advance_111b length kind first letters x1 fin (vm_it (f_X6_advance_111s length kind first letters x1) n) = some ex111 := hf
        unfold f_X6_advance_111b at hf
        refine lv_iload_n hx hb dX6_advance_111 rfl (lv_at hl 1 rfl) ?_
        refine lv_if_eq (tgt := 158) hx hb dX6_advance_112 (by decide) (fun hc_1 => ?_) (fun hc_1 => ?_)
        · have hf := vm_pos hc_1 hf
          have hX := hX111
          rw [← Option.some.inj hf] at hX
          exact K_158 kind first fin hP hD hS (lv_sub hl [] rfl) hX
        · have hf := vm_neg hc_1 hf
          refine lv_aload_n hx hb dX6_advance_115 rfl (lv_at hl 0 rfl) ?_
          refine va_get (D := Γ.1) (ci := 6) (v := .int fin) (C := RX6) (T := TX6) (N := 5) hx hb hts hi6 hown hK hP 0 rfl rfl 4 (by decide) (hts (.fieldLink RX6 19 "SandPlates$Text" "end" "I") (List.mem_of_getElem? (i := 1) rfl)) (fun _ h9 => h9) rfl dX6_advance_116 ?_
          refine lv_aload_n hx hb dX6_advance_119 rfl (lv_at hl 0 rfl) ?_
          refine va_get (D := Γ.1) (ci := 6) (v := .int length) (C := RX6) (T := TX6) (N := 5) hx hb hts hi6 hown hK hP 0 rfl rfl 1 (by decide) (hts (.fieldLink RX6 15 "SandPlates$Text" "length" "I") (List.mem_of_getElem? (i := 2) rfl)) (fun _ h9 => h9) rfl dX6_advance_120 ?_
          refine lv_icmp_ge (tgt := 158) hx hb dX6_advance_123 (by decide) (fun hc_2 => ?_) (fun hc_2 => ?_)
          · have hf := vm_pos hc_2 hf
            have hX := hX111
            rw [← Option.some.inj hf] at hX
            exact K_158 kind first fin hP hD hS (lv_sub hl [] rfl) hX
          · have hf := vm_neg hc_2 hf
            refine lv_aload_n hx hb dX6_advance_126 rfl (lv_at hl 0 rfl) ?_
            refine va_get (D := Γ.1) (ci := 6) (v := .ref q1) (C := RX6) (T := TX6) (N := 5) hx hb hts hi6 hown hK hP 0 rfl rfl 0 (by decide) (hts (.fieldLink RX6 9 "SandPlates$Text" "letters" "[I") (List.mem_of_getElem? (i := 3) rfl)) (fun _ h9 => h9) rfl dX6_advance_127 ?_
            refine lv_aload_n hx hb dX6_advance_130 rfl (lv_at hl 0 rfl) ?_
            refine va_get (D := Γ.1) (ci := 6) (v := .int fin) (C := RX6) (T := TX6) (N := 5) hx hb hts hi6 hown hK hP 0 rfl rfl 4 (by decide) (hts (.fieldLink RX6 19 "SandPlates$Text" "end" "I") (List.mem_of_getElem? (i := 1) rfl)) (fun _ h9 => h9) rfl dX6_advance_131 ?_
            obtain ⟨hc_3, hf⟩ := vm_ck hf
            refine vm_iald hx hb hK hP 1 0 rfl rfl hc_3 (j := fin.toNatClampNeg) rfl dX6_advance_134 ?_
            obtain ⟨r_4, hq_5, hf⟩ := ob1_some hf
            refine vm_cSi (isC := []) (wc := (wd_X6_kindOf Γ)) (w1 := (wd_X6_kindOf Γ)) (As := [.int (letters (fin.toNatClampNeg))]) (rest := []) ⟨hx, hb, hml, hown, hts⟩ hE hP hD hS hA rfl rfl rfl (c_X6_kindOf l Γ _ (letters (fin.toNatClampNeg)) r_4 hq_5) (va_cwS 1 hts gX6_advance_X6_kindOf rfl rfl rfl (by decide +kernel) ⟨Nat.le_of_ble_eq_true rfl, Nat.le_of_ble_eq_true rfl⟩) rfl hl.1 rfl (Nat.le_of_ble_eq_true rfl) dX6_advance_135 ⟨Nat.zero_le _, Nat.zero_le _⟩ (fun H locs hP hD hS => ?_)
            have hP : va_P Γ.1 vwCl (wd_X6_advance Γ q0 q1 length kind first fin letters) H := hP
            have hD : va_D A (wd_X6_advance Γ q0 q1 length kind first fin letters) := hD
            refine lv_aload_n hx hb dX6_advance_138 rfl (lv_at hl 0 rfl) ?_
            refine va_get (D := Γ.1) (ci := 6) (v := .int kind) (C := RX6) (T := TX6) (N := 5) hx hb hts hi6 hown hK hP 0 rfl rfl 2 (by decide) (hts (.fieldLink RX6 25 "SandPlates$Text" "kind" "I") (List.mem_of_getElem? (i := 5) rfl)) (fun _ h9 => h9) rfl dX6_advance_139 ?_
            refine lv_icmp_ne (tgt := 158) hx hb dX6_advance_142 (by decide) (fun hc_6 => ?_) (fun hc_6 => ?_)
            · have hf := vm_neg hc_6 hf
              have hX := hX111
              rw [← Option.some.inj hf] at hX
              exact K_158 kind first fin hP hD hS (lv_sub hl [] rfl) hX
            · have hf := vm_pos hc_6 hf
              refine lv_aload_n hx hb dX6_advance_145 rfl (lv_at hl 0 rfl) ?_
              refine lv_dup hx hb dX6_advance_146 rfl ?_
              refine va_get (D := Γ.1) (ci := 6) (v := .int fin) (C := RX6) (T := TX6) (N := 5) hx hb hts hi6 hown hK hP 0 rfl rfl 4 (by decide) (hts (.fieldLink RX6 19 "SandPlates$Text" "end" "I") (List.mem_of_getElem? (i := 1) rfl)) (fun _ h9 => h9) rfl dX6_advance_147 ?_
              refine lv_iconst (v := 1) hx hb dX6_advance_150 (by decide) ?_
              refine lv_iadd hx hb dX6_advance_151 ?_
              refine va_put (D := Γ.1) (ci := 6) (v := .int (fin + 1)) (ty := .int) (C := RX6) (T := TX6) (N := 5) hx hb hts hi6 tyX6 tyX6_ok nmX6 hown hK hP hD hS 0 rfl rfl 4 (by decide) (hts (.fieldLink RX6 19 "SandPlates$Text" "end" "I") (List.mem_of_getElem? (i := 1) rfl)) (fun _ h9 => h9) rfl (by decide +kernel) rfl rfl (Nat.le_of_ble_eq_true rfl) dX6_advance_152 (fun H locs hP hD hS => ?_)
              have hP : va_P Γ.1 vwCl (wd_X6_advance Γ q0 q1 length kind first (fin + 1) letters) H := hP
              have hD : va_D A (wd_X6_advance Γ q0 q1 length kind first (fin + 1) letters) := hD
              refine lv_goto (tgt := 111) hx hb dX6_advance_155 (by decide) ?_
              exact ih (fin + 1) hP hD hS (lv_sub hl [0, 1] rfl) hf
    exact LP FU fin hP hD hS hl h1
  have K_110 : ∀ (kind : Int32) (first : Int32) (fin : Int32) (s0 : Int32) {H : Heap} {locs : List Loc} {ls : Array Slot}, va_P Γ.1 vwCl (wd_X6_advance Γ q0 q1 length kind first fin letters) H → va_D A (wd_X6_advance Γ q0 q1 length kind first fin letters) → va_S A s.heap H locs → lv_has ls 2 [(0, .ref q0)] → f_X6_advance_110 length kind first fin letters s0 = some out → W p l e ({ frames := 1, cells := 0, slots := 0, locals := 20 } : Room) s m ([.ref q0] : List Value).toArray below meth c H locs 0 0 QQ (F0 m 110 ls [.int s0]) := by
    intro kind first fin s0 H locs ls hP hD hS hl hf
    unfold f_X6_advance_110 at hf
    refine lv_istore_n (lv' := [(1, .int s0), (0, .ref q0)]) hx hb dX6_advance_110 rfl hl (by decide) rfl (fun ls hl => ?_)
    exact K_111 kind first fin s0 hP hD hS (lv_sub hl [1, 0] rfl) hf
  have K_105 : ∀ (kind : Int32) (first : Int32) (fin : Int32) {H : Heap} {locs : List Loc} {ls : Array Slot}, va_P Γ.1 vwCl (wd_X6_advance Γ q0 q1 length kind first fin letters) H → va_D A (wd_X6_advance Γ q0 q1 length kind first fin letters) → va_S A s.heap H locs → lv_has ls 2 [(0, .ref q0)] → f_X6_advance_105 length kind first fin letters = some out → W p l e ({ frames := 1, cells := 0, slots := 0, locals := 20 } : Room) s m ([.ref q0] : List Value).toArray below meth c H locs 0 0 QQ (F0 m 105 ls []) := by
    intro kind first fin H locs ls hP hD hS hl hf
    unfold f_X6_advance_105 at hf
    refine lv_iconst (v := 1) hx hb dX6_advance_105 (by decide) ?_
    refine lv_goto (tgt := 110) hx hb dX6_advance_106 (by decide) ?_
    exact K_110 kind first fin 1 hP hD hS (lv_sub hl [0] rfl) hf
  have K_38 : ∀ (fin : Int32) {kind : Int32} {first : Int32} {H : Heap} {locs : List Loc} {ls : Array Slot}, va_P Γ.1 vwCl (wd_X6_advance Γ q0 q1 length kind first fin letters) H → va_D A (wd_X6_advance Γ q0 q1 length kind first fin letters) → va_S A s.heap H locs → lv_has ls 2 [(0, .ref q0)] → f_X6_advance_38 length fin letters = some out → W p l e ({ frames := 1, cells := 0, slots := 0, locals := 20 } : Room) s m ([.ref q0] : List Value).toArray below meth c H locs 0 0 QQ (F0 m 38 ls []) := by
    intro fin kind first H locs ls hP hD hS hl hf
    unfold f_X6_advance_38 at hf
    refine lv_aload_n hx hb dX6_advance_38 rfl (lv_at hl 0 rfl) ?_
    refine lv_aload_n hx hb dX6_advance_39 rfl (lv_at hl 0 rfl) ?_
    refine va_get (D := Γ.1) (ci := 6) (v := .int fin) (C := RX6) (T := TX6) (N := 5) hx hb hts hi6 hown hK hP 0 rfl rfl 4 (by decide) (hts (.fieldLink RX6 19 "SandPlates$Text" "end" "I") (List.mem_of_getElem? (i := 1) rfl)) (fun _ h9 => h9) rfl dX6_advance_40 ?_
    refine va_put (D := Γ.1) (ci := 6) (v := .int fin) (ty := .int) (C := RX6) (T := TX6) (N := 5) hx hb hts hi6 tyX6 tyX6_ok nmX6 hown hK hP hD hS 0 rfl rfl 3 (by decide) (hts (.fieldLink RX6 22 "SandPlates$Text" "first" "I") (List.mem_of_getElem? (i := 4) rfl)) (fun _ h9 => h9) rfl (by decide +kernel) rfl rfl (Nat.le_of_ble_eq_true rfl) dX6_advance_43 (fun H locs hP hD hS => ?_)
    have hP : va_P Γ.1 vwCl (wd_X6_advance Γ q0 q1 length kind fin fin letters) H := hP
    have hD : va_D A (wd_X6_advance Γ q0 q1 length kind fin fin letters) := hD
    refine lv_aload_n hx hb dX6_advance_46 rfl (lv_at hl 0 rfl) ?_
    refine va_get (D := Γ.1) (ci := 6) (v := .int fin) (C := RX6) (T := TX6) (N := 5) hx hb hts hi6 hown hK hP 0 rfl rfl 3 (by decide) (hts (.fieldLink RX6 22 "SandPlates$Text" "first" "I") (List.mem_of_getElem? (i := 4) rfl)) (fun _ h9 => h9) rfl dX6_advance_47 ?_
    refine lv_aload_n hx hb dX6_advance_50 rfl (lv_at hl 0 rfl) ?_
    refine va_get (D := Γ.1) (ci := 6) (v := .int length) (C := RX6) (T := TX6) (N := 5) hx hb hts hi6 hown hK hP 0 rfl rfl 1 (by decide) (hts (.fieldLink RX6 15 "SandPlates$Text" "length" "I") (List.mem_of_getElem? (i := 2) rfl)) (fun _ h9 => h9) rfl dX6_advance_51 ?_
    refine lv_icmp_lt (tgt := 63) hx hb dX6_advance_54 (by decide) (fun hc_7 => ?_) (fun hc_7 => ?_)
    · have hf := vm_pos hc_7 hf
      refine lv_aload_n hx hb dX6_advance_63 rfl (lv_at hl 0 rfl) ?_
      refine lv_aload_n hx hb dX6_advance_64 rfl (lv_at hl 0 rfl) ?_
      refine va_get (D := Γ.1) (ci := 6) (v := .ref q1) (C := RX6) (T := TX6) (N := 5) hx hb hts hi6 hown hK hP 0 rfl rfl 0 (by decide) (hts (.fieldLink RX6 9 "SandPlates$Text" "letters" "[I") (List.mem_of_getElem? (i := 3) rfl)) (fun _ h9 => h9) rfl dX6_advance_65 ?_
      refine lv_aload_n hx hb dX6_advance_68 rfl (lv_at hl 0 rfl) ?_
      refine va_get (D := Γ.1) (ci := 6) (v := .int fin) (C := RX6) (T := TX6) (N := 5) hx hb hts hi6 hown hK hP 0 rfl rfl 3 (by decide) (hts (.fieldLink RX6 22 "SandPlates$Text" "first" "I") (List.mem_of_getElem? (i := 4) rfl)) (fun _ h9 => h9) rfl dX6_advance_69 ?_
      obtain ⟨hc_8, hf⟩ := vm_ck hf
      refine vm_iald hx hb hK hP 1 0 rfl rfl hc_8 (j := fin.toNatClampNeg) rfl dX6_advance_72 ?_
      obtain ⟨r_9, hq_10, hf⟩ := ob1_some hf
      refine vm_cSi (isC := []) (wc := (wd_X6_kindOf Γ)) (w1 := (wd_X6_kindOf Γ)) (As := [.int (letters (fin.toNatClampNeg))]) (rest := [.ref q0]) ⟨hx, hb, hml, hown, hts⟩ hE hP hD hS hA rfl rfl rfl (c_X6_kindOf l Γ _ (letters (fin.toNatClampNeg)) r_9 hq_10) (va_cwS 1 hts gX6_advance_X6_kindOf rfl rfl rfl (by decide +kernel) ⟨Nat.le_of_ble_eq_true rfl, Nat.le_of_ble_eq_true rfl⟩) rfl hl.1 rfl (Nat.le_of_ble_eq_true rfl) dX6_advance_73 ⟨Nat.zero_le _, Nat.zero_le _⟩ (fun H locs hP hD hS => ?_)
      have hP : va_P Γ.1 vwCl (wd_X6_advance Γ q0 q1 length kind fin fin letters) H := hP
      have hD : va_D A (wd_X6_advance Γ q0 q1 length kind fin fin letters) := hD
      refine va_put (D := Γ.1) (ci := 6) (v := .int r_9) (ty := .int) (C := RX6) (T := TX6) (N := 5) hx hb hts hi6 tyX6 tyX6_ok nmX6 hown hK hP hD hS 0 rfl rfl 2 (by decide) (hts (.fieldLink RX6 25 "SandPlates$Text" "kind" "I") (List.mem_of_getElem? (i := 5) rfl)) (fun _ h9 => h9) rfl (by decide +kernel) rfl rfl (Nat.le_of_ble_eq_true rfl) dX6_advance_76 (fun H locs hP hD hS => ?_)
      have hP : va_P Γ.1 vwCl (wd_X6_advance Γ q0 q1 length r_9 fin fin letters) H := hP
      have hD : va_D A (wd_X6_advance Γ q0 q1 length r_9 fin fin letters) := hD
      refine lv_aload_n hx hb dX6_advance_79 rfl (lv_at hl 0 rfl) ?_
      refine lv_dup hx hb dX6_advance_80 rfl ?_
      refine va_get (D := Γ.1) (ci := 6) (v := .int fin) (C := RX6) (T := TX6) (N := 5) hx hb hts hi6 hown hK hP 0 rfl rfl 4 (by decide) (hts (.fieldLink RX6 19 "SandPlates$Text" "end" "I") (List.mem_of_getElem? (i := 1) rfl)) (fun _ h9 => h9) rfl dX6_advance_81 ?_
      refine lv_iconst (v := 1) hx hb dX6_advance_84 (by decide) ?_
      refine lv_iadd hx hb dX6_advance_85 ?_
      refine va_put (D := Γ.1) (ci := 6) (v := .int (fin + 1)) (ty := .int) (C := RX6) (T := TX6) (N := 5) hx hb hts hi6 tyX6 tyX6_ok nmX6 hown hK hP hD hS 0 rfl rfl 4 (by decide) (hts (.fieldLink RX6 19 "SandPlates$Text" "end" "I") (List.mem_of_getElem? (i := 1) rfl)) (fun _ h9 => h9) rfl (by decide +kernel) rfl rfl (Nat.le_of_ble_eq_true rfl) dX6_advance_86 (fun H locs hP hD hS => ?_)
      have hP : va_P Γ.1 vwCl (wd_X6_advance Γ q0 q1 length r_9 fin (fin + 1) letters) H := hP
      have hD : va_D A (wd_X6_advance Γ q0 q1 length r_9 fin (fin + 1) letters) := hD
      refine lv_aload_n hx hb dX6_advance_89 rfl (lv_at hl 0 rfl) ?_
      refine va_get (D := Γ.1) (ci := 6) (v := .int r_9) (C := RX6) (T := TX6) (N := 5) hx hb hts hi6 hown hK hP 0 rfl rfl 2 (by decide) (hts (.fieldLink RX6 25 "SandPlates$Text" "kind" "I") (List.mem_of_getElem? (i := 5) rfl)) (fun _ h9 => h9) rfl dX6_advance_90 ?_
      refine lv_iconst (v := 1) hx hb dX6_advance_93 (by decide) ?_
      refine lv_icmp_eq (tgt := 105) hx hb dX6_advance_94 (by decide) (fun hc_11 => ?_) (fun hc_11 => ?_)
      · have hf := vm_pos hc_11 hf
        exact K_105 r_9 fin (fin + 1) hP hD hS (lv_sub hl [0] rfl) hf
      · have hf := vm_neg hc_11 hf
        refine lv_aload_n hx hb dX6_advance_97 rfl (lv_at hl 0 rfl) ?_
        refine va_get (D := Γ.1) (ci := 6) (v := .int r_9) (C := RX6) (T := TX6) (N := 5) hx hb hts hi6 hown hK hP 0 rfl rfl 2 (by decide) (hts (.fieldLink RX6 25 "SandPlates$Text" "kind" "I") (List.mem_of_getElem? (i := 5) rfl)) (fun _ h9 => h9) rfl dX6_advance_98 ?_
        refine lv_iconst (v := 2) hx hb dX6_advance_101 (by decide) ?_
        refine lv_icmp_ne (tgt := 109) hx hb dX6_advance_102 (by decide) (fun hc_12 => ?_) (fun hc_12 => ?_)
        · have hf := vm_neg hc_12 hf
          refine lv_iconst (v := 0) hx hb dX6_advance_109 (by decide) ?_
          exact K_110 r_9 fin (fin + 1) 0 hP hD hS (lv_sub hl [0] rfl) hf
        · have hf := vm_pos hc_12 hf
          exact K_105 r_9 fin (fin + 1) hP hD hS (lv_sub hl [0] rfl) hf
    · have hf := vm_neg hc_7 hf
      refine lv_aload_n hx hb dX6_advance_57 rfl (lv_at hl 0 rfl) ?_
      refine lv_iconst (v := 0) hx hb dX6_advance_58 (by decide) ?_
      refine va_put (D := Γ.1) (ci := 6) (v := .int 0) (ty := .int) (C := RX6) (T := TX6) (N := 5) hx hb hts hi6 tyX6 tyX6_ok nmX6 hown hK hP hD hS 0 rfl rfl 2 (by decide) (hts (.fieldLink RX6 25 "SandPlates$Text" "kind" "I") (List.mem_of_getElem? (i := 5) rfl)) (fun _ h9 => h9) rfl (by decide +kernel) rfl rfl (Nat.le_of_ble_eq_true rfl) dX6_advance_59 (fun H locs hP hD hS => ?_)
      have hP : va_P Γ.1 vwCl (wd_X6_advance Γ q0 q1 length 0 fin fin letters) H := hP
      have hD : va_D A (wd_X6_advance Γ q0 q1 length 0 fin fin letters) := hD
      subst hout; obtain ⟨rfl, rfl, rfl⟩ := rt3 hf
      subst hQQ
      exact W.vret hx hb hr (fun t ht hW => ⟨⟨(), rfl, trivial, by rw [ht]; exact hP, hD⟩, hS.F ht⟩) hS.2.2 dX6_advance_62
  have K_0 : ∀ (fin : Int32) {kind : Int32} {first : Int32} {H : Heap} {locs : List Loc} {ls : Array Slot}, va_P Γ.1 vwCl (wd_X6_advance Γ q0 q1 length kind first fin letters) H → va_D A (wd_X6_advance Γ q0 q1 length kind first fin letters) → va_S A s.heap H locs → lv_has ls 2 [(0, .ref q0)] → f_X6_advance_0 length fin letters = some out → W p l e ({ frames := 1, cells := 0, slots := 0, locals := 20 } : Room) s m ([.ref q0] : List Value).toArray below meth c H locs 0 0 QQ (F0 m 0 ls []) := by
    intro fin kind first H locs ls hP hD hS hl hf
    unfold f_X6_advance_0 at hf
    obtain ⟨ex0, h1, hX0⟩ := obx_some hf
    have LP : ∀ (n : Nat) (fin : Int32)  {H : Heap} {locs : List Loc} {ls : Array Slot}, va_P Γ.1 vwCl (wd_X6_advance Γ q0 q1 length kind first fin letters) H → va_D A (wd_X6_advance Γ q0 q1 length kind first fin letters) → va_S A s.heap H locs → lv_has ls 2 [(0, .ref q0)] → vm_it (f_X6_advance_0s length letters) n fin = some ex0 → W p l e ({ frames := 1, cells := 0, slots := 0, locals := 20 } : Room) s m ([.ref q0] : List Value).toArray below meth c H locs 0 0 QQ (F0 m 0 ls []) := by
      clear hP hD hS hl hf h1
      intro n
      induction n with
      | zero => intro fin H locs ls hP hD hS hl hf; exact (vm_it_0 hf).elim
      | succ n ih =>
        intro fin H locs ls hP hD hS hl hf
        have hf : f_X6_advance_0b length letters fin (vm_it (f_X6_advance_0s length letters) n) = some ex0 := hf
        unfold f_X6_advance_0b at hf
        refine lv_aload_n hx hb dX6_advance_0 rfl (lv_at hl 0 rfl) ?_
        refine va_get (D := Γ.1) (ci := 6) (v := .int fin) (C := RX6) (T := TX6) (N := 5) hx hb hts hi6 hown hK hP 0 rfl rfl 4 (by decide) (hts (.fieldLink RX6 19 "SandPlates$Text" "end" "I") (List.mem_of_getElem? (i := 1) rfl)) (fun _ h9 => h9) rfl dX6_advance_1 ?_
        refine lv_aload_n hx hb dX6_advance_4 rfl (lv_at hl 0 rfl) ?_
        refine va_get (D := Γ.1) (ci := 6) (v := .int length) (C := RX6) (T := TX6) (N := 5) hx hb hts hi6 hown hK hP 0 rfl rfl 1 (by decide) (hts (.fieldLink RX6 15 "SandPlates$Text" "length" "I") (List.mem_of_getElem? (i := 2) rfl)) (fun _ h9 => h9) rfl dX6_advance_5 ?_
        refine lv_icmp_ge (tgt := 38) hx hb dX6_advance_8 (by decide) (fun hc_13 => ?_) (fun hc_13 => ?_)
        · have hf := vm_pos hc_13 hf
          have hX := hX0
          rw [← Option.some.inj hf] at hX
          exact K_38 fin hP hD hS (lv_sub hl [0] rfl) hX
        · have hf := vm_neg hc_13 hf
          refine lv_aload_n hx hb dX6_advance_11 rfl (lv_at hl 0 rfl) ?_
          refine va_get (D := Γ.1) (ci := 6) (v := .ref q1) (C := RX6) (T := TX6) (N := 5) hx hb hts hi6 hown hK hP 0 rfl rfl 0 (by decide) (hts (.fieldLink RX6 9 "SandPlates$Text" "letters" "[I") (List.mem_of_getElem? (i := 3) rfl)) (fun _ h9 => h9) rfl dX6_advance_12 ?_
          refine lv_aload_n hx hb dX6_advance_15 rfl (lv_at hl 0 rfl) ?_
          refine va_get (D := Γ.1) (ci := 6) (v := .int fin) (C := RX6) (T := TX6) (N := 5) hx hb hts hi6 hown hK hP 0 rfl rfl 4 (by decide) (hts (.fieldLink RX6 19 "SandPlates$Text" "end" "I") (List.mem_of_getElem? (i := 1) rfl)) (fun _ h9 => h9) rfl dX6_advance_16 ?_
          obtain ⟨hc_14, hf⟩ := vm_ck hf
          refine vm_iald hx hb hK hP 1 0 rfl rfl hc_14 (j := fin.toNatClampNeg) rfl dX6_advance_19 ?_
          refine lv_bipush (v := 32) hx hb dX6_advance_20 (by decide) ?_
          refine lv_icmp_ne (tgt := 38) hx hb dX6_advance_22 (by decide) (fun hc_15 => ?_) (fun hc_15 => ?_)
          · have hf := vm_neg hc_15 hf
            have hX := hX0
            rw [← Option.some.inj hf] at hX
            exact K_38 fin hP hD hS (lv_sub hl [0] rfl) hX
          · have hf := vm_pos hc_15 hf
            refine lv_aload_n hx hb dX6_advance_25 rfl (lv_at hl 0 rfl) ?_
            refine lv_dup hx hb dX6_advance_26 rfl ?_
            refine va_get (D := Γ.1) (ci := 6) (v := .int fin) (C := RX6) (T := TX6) (N := 5) hx hb hts hi6 hown hK hP 0 rfl rfl 4 (by decide) (hts (.fieldLink RX6 19 "SandPlates$Text" "end" "I") (List.mem_of_getElem? (i := 1) rfl)) (fun _ h9 => h9) rfl dX6_advance_27 ?_
            refine lv_iconst (v := 1) hx hb dX6_advance_30 (by decide) ?_
            refine lv_iadd hx hb dX6_advance_31 ?_
            refine va_put (D := Γ.1) (ci := 6) (v := .int (fin + 1)) (ty := .int) (C := RX6) (T := TX6) (N := 5) hx hb hts hi6 tyX6 tyX6_ok nmX6 hown hK hP hD hS 0 rfl rfl 4 (by decide) (hts (.fieldLink RX6 19 "SandPlates$Text" "end" "I") (List.mem_of_getElem? (i := 1) rfl)) (fun _ h9 => h9) rfl (by decide +kernel) rfl rfl (Nat.le_of_ble_eq_true rfl) dX6_advance_32 (fun H locs hP hD hS => ?_)
            have hP : va_P Γ.1 vwCl (wd_X6_advance Γ q0 q1 length kind first (fin + 1) letters) H := hP
            have hD : va_D A (wd_X6_advance Γ q0 q1 length kind first (fin + 1) letters) := hD
            refine lv_goto (tgt := 0) hx hb dX6_advance_35 (by decide) ?_
            exact ih (fin + 1) hP hD hS (lv_sub hl [0] rfl) hf
    exact LP FU fin hP hD hS hl h1
  unfold f_X6_advance at hf
  exact K_0 fin hP hD hS (lv_sub hl [0] rfl) hf
def wd_X6_number (Γ : GE) (q0 q1 : Nat) (length : Int32) (kind : Int32) (first : Int32) (fin : Int32) (letters : Nat → Int32) : va_W := [(q0, .inr (6, [.ref q1, .int length, .int kind, .int first, .int fin])), (q1, .inl (Γ.2.1 0, 120, .inl letters))]
def f_X6_number_78 (s0 : Int32) : Option Int32 := some s0
def f_X6_number_21  : Option Int32 := some (-1)
def f_X6_number (kind : Int32) (first : Int32) (fin : Int32) (letters : Nat → Int32) : Option Int32 := if kind = 2 then (if (fin - first) ≤ 2 then (if inb first 120 = true then if (fin - first) = 1 then (some ((letters (first.toNatClampNeg)) - 48)) else (if ((letters (first.toNatClampNeg)) - 48) = 0 then (f_X6_number_78 (-1)) else (if inb (first + 1) 120 = true then f_X6_number_78 (((10 * ((letters (first.toNatClampNeg)) - 48)) + (letters ((first + 1).toNatClampNeg))) - 48) else none)) else none) else f_X6_number_21) else f_X6_number_21
set_option maxHeartbeats 4000000 in
set_option maxRecDepth 100000 in
theorem c_X6_number (l : Launch) (Γ : GE) (sz : Nat) (q0 q1 : Nat) (length : Int32) (kind : Int32) (first : Int32) (fin : Int32) (letters : Nat → Int32) (ro : Int32) (hf : f_X6_number kind first fin letters = some ro) : MetI l yX6_number wsX6_number ({ frames := 0, cells := 0, slots := 0, locals := 0 } : Room) Γ [.ref q0] (wd_X6_number Γ q0 q1 length kind first fin letters) (wd_X6_number Γ q0 q1 length kind first fin letters) sz ro := by
  refine Met.ofW (cc := cX6_number) (maxL := 2) (ret := (some .int)) (by decide) rfl ?_
  intro p e s m args below meth c s₁ B hml hv
  obtain ⟨rfl, hsz, hE, hP, hD⟩ := hv
  have hx := B.exec
  have hb := B.bytes
  have hr := B.returns
  have hts := atoms_spec (ws := wsX6_number) B.pre
  have hown : s.vm.findClass RX6 = some m.cls := findClass_of_methodNamed B.named
  have hlocks := B.notSynchronized
  subst hsz
  generalize hAe : va_A (wd_X6_number Γ q0 q1 length kind first fin letters) s.heap.size = A at hE hD ⊢
  have hA : ∀ q : Nat, s.heap.size ≤ q → A q := fun q h => by rw [← hAe]; exact Or.inr h
  clear hAe
  have hS : va_S A s.heap s.heap [] := va_S.rf
  have hK := hE.1
  have hl := lv_entry ([.ref q0]) (n := 2) (Nat.le_of_ble_eq_true rfl)
  rw [lg_entry_eq]
  generalize (lg_sl ([.ref q0]) ++ List.replicate (2 - (lg_sl ([.ref q0])).length) Slot.unset).toArray = ls at hl ⊢
  have hl : lv_has ls 2 [(0, .ref q0)] := hl
  have hi6 : ∀ w ∈ u_ws RX6 TX6 5, w ∈ wsX6_number := fun w h => (List.mem_cons_of_mem _ (List.mem_append_right _ h))
  obtain ⟨out, hout⟩ : ∃ o, o = ro := ⟨_, rfl⟩
  rw [← hout] at hf
  obtain ⟨QQ, hQQ⟩ : ∃ Q, Q = MQ below (va_Qi (fun (r' : Int32) (_ : Unit) => r' = ro) (CQ Γ (wd_X6_number Γ q0 q1 length kind first fin letters) A) A) (([.ref q0] : List Value).toArray) s 0 0 A := ⟨_, rfl⟩
  show W p l e ({ frames := 0, cells := 0, slots := 0, locals := 0 } : Room) s m (([.ref q0] : List Value).toArray) below meth c s.heap [] 0 0 (MQ below _ (([.ref q0] : List Value).toArray) s 0 0 A) (F0 m 0 ls [])
  rw [← hQQ]
  have K_78 : ∀ (s0 : Int32) {H : Heap} {locs : List Loc} {ls : Array Slot}, va_P Γ.1 vwCl (wd_X6_number Γ q0 q1 length kind first fin letters) H → va_D A (wd_X6_number Γ q0 q1 length kind first fin letters) → va_S A s.heap H locs → lv_has ls 2 [] → f_X6_number_78 s0 = some out → W p l e ({ frames := 0, cells := 0, slots := 0, locals := 0 } : Room) s m ([.ref q0] : List Value).toArray below meth c H locs 0 0 QQ (F0 m 78 ls [.int s0]) := by
    intro s0 H locs ls hP hD hS hl hf
    unfold f_X6_number_78 at hf
    subst hout; obtain rfl := Option.some.inj hf
    subst hQQ
    exact W.iret hx hb hr (fun t ht hW => ⟨⟨_, (), rfl, rfl, by rw [ht]; exact hP, hD⟩, hS.F ht⟩) hS.2.2 dX6_number_78
  have K_21 : ∀ {H : Heap} {locs : List Loc} {ls : Array Slot}, va_P Γ.1 vwCl (wd_X6_number Γ q0 q1 length kind first fin letters) H → va_D A (wd_X6_number Γ q0 q1 length kind first fin letters) → va_S A s.heap H locs → lv_has ls 2 [] → f_X6_number_21 = some out → W p l e ({ frames := 0, cells := 0, slots := 0, locals := 0 } : Room) s m ([.ref q0] : List Value).toArray below meth c H locs 0 0 QQ (F0 m 21 ls []) := by
    intro H locs ls hP hD hS hl hf
    unfold f_X6_number_21 at hf
    refine lv_iconst (v := (-1)) hx hb dX6_number_21 (by decide) ?_
    subst hout; obtain rfl := Option.some.inj hf
    subst hQQ
    exact W.iret hx hb hr (fun t ht hW => ⟨⟨_, (), rfl, rfl, by rw [ht]; exact hP, hD⟩, hS.F ht⟩) hS.2.2 dX6_number_22
  unfold f_X6_number at hf
  refine lv_aload_n hx hb dX6_number_0 rfl (lv_at hl 0 rfl) ?_
  refine va_get (D := Γ.1) (ci := 6) (v := .int kind) (C := RX6) (T := TX6) (N := 5) hx hb hts hi6 hown hK hP 0 rfl rfl 2 (by decide) (hts (.fieldLink RX6 25 "SandPlates$Text" "kind" "I") (List.mem_of_getElem? (i := 1) rfl)) (fun _ h9 => h9) rfl dX6_number_1 ?_
  refine lv_iconst (v := 2) hx hb dX6_number_4 (by decide) ?_
  refine lv_icmp_ne (tgt := 21) hx hb dX6_number_5 (by decide) (fun hc_1 => ?_) (fun hc_1 => ?_)
  · have hf := vm_neg hc_1 hf
    exact K_21  hP hD hS (lv_sub hl [] rfl) hf
  · have hf := vm_pos hc_1 hf
    refine lv_aload_n hx hb dX6_number_8 rfl (lv_at hl 0 rfl) ?_
    refine va_get (D := Γ.1) (ci := 6) (v := .int fin) (C := RX6) (T := TX6) (N := 5) hx hb hts hi6 hown hK hP 0 rfl rfl 4 (by decide) (hts (.fieldLink RX6 19 "SandPlates$Text" "end" "I") (List.mem_of_getElem? (i := 2) rfl)) (fun _ h9 => h9) rfl dX6_number_9 ?_
    refine lv_aload_n hx hb dX6_number_12 rfl (lv_at hl 0 rfl) ?_
    refine va_get (D := Γ.1) (ci := 6) (v := .int first) (C := RX6) (T := TX6) (N := 5) hx hb hts hi6 hown hK hP 0 rfl rfl 3 (by decide) (hts (.fieldLink RX6 22 "SandPlates$Text" "first" "I") (List.mem_of_getElem? (i := 3) rfl)) (fun _ h9 => h9) rfl dX6_number_13 ?_
    refine lv_isub hx hb dX6_number_16 ?_
    refine lv_iconst (v := 2) hx hb dX6_number_17 (by decide) ?_
    refine lv_icmp_le (tgt := 23) hx hb dX6_number_18 (by decide) (fun hc_2 => ?_) (fun hc_2 => ?_)
    · have hf := vm_pos hc_2 hf
      refine lv_aload_n hx hb dX6_number_23 rfl (lv_at hl 0 rfl) ?_
      refine va_get (D := Γ.1) (ci := 6) (v := .ref q1) (C := RX6) (T := TX6) (N := 5) hx hb hts hi6 hown hK hP 0 rfl rfl 0 (by decide) (hts (.fieldLink RX6 9 "SandPlates$Text" "letters" "[I") (List.mem_of_getElem? (i := 4) rfl)) (fun _ h9 => h9) rfl dX6_number_24 ?_
      refine lv_aload_n hx hb dX6_number_27 rfl (lv_at hl 0 rfl) ?_
      refine va_get (D := Γ.1) (ci := 6) (v := .int first) (C := RX6) (T := TX6) (N := 5) hx hb hts hi6 hown hK hP 0 rfl rfl 3 (by decide) (hts (.fieldLink RX6 22 "SandPlates$Text" "first" "I") (List.mem_of_getElem? (i := 3) rfl)) (fun _ h9 => h9) rfl dX6_number_28 ?_
      obtain ⟨hc_3, hf⟩ := vm_ck hf
      refine vm_iald hx hb hK hP 1 0 rfl rfl hc_3 (j := first.toNatClampNeg) rfl dX6_number_31 ?_
      refine lv_bipush (v := 48) hx hb dX6_number_32 (by decide) ?_
      refine lv_isub hx hb dX6_number_34 ?_
      refine lv_istore_n (lv' := [(1, .int ((letters (first.toNatClampNeg)) - 48)), (0, .ref q0)]) hx hb dX6_number_35 rfl hl (by decide) rfl (fun ls hl => ?_)
      refine lv_aload_n hx hb dX6_number_36 rfl (lv_at hl 1 rfl) ?_
      refine va_get (D := Γ.1) (ci := 6) (v := .int fin) (C := RX6) (T := TX6) (N := 5) hx hb hts hi6 hown hK hP 0 rfl rfl 4 (by decide) (hts (.fieldLink RX6 19 "SandPlates$Text" "end" "I") (List.mem_of_getElem? (i := 2) rfl)) (fun _ h9 => h9) rfl dX6_number_37 ?_
      refine lv_aload_n hx hb dX6_number_40 rfl (lv_at hl 1 rfl) ?_
      refine va_get (D := Γ.1) (ci := 6) (v := .int first) (C := RX6) (T := TX6) (N := 5) hx hb hts hi6 hown hK hP 0 rfl rfl 3 (by decide) (hts (.fieldLink RX6 22 "SandPlates$Text" "first" "I") (List.mem_of_getElem? (i := 3) rfl)) (fun _ h9 => h9) rfl dX6_number_41 ?_
      refine lv_isub hx hb dX6_number_44 ?_
      refine lv_iconst (v := 1) hx hb dX6_number_45 (by decide) ?_
      refine lv_icmp_ne (tgt := 51) hx hb dX6_number_46 (by decide) (fun hc_4 => ?_) (fun hc_4 => ?_)
      · have hf := vm_neg hc_4 hf
        refine lv_iload_n hx hb dX6_number_51 rfl (lv_at hl 0 rfl) ?_
        refine lv_if_ne (tgt := 59) hx hb dX6_number_52 (by decide) (fun hc_5 => ?_) (fun hc_5 => ?_)
        · have hf := vm_neg hc_5 hf
          refine lv_bipush (v := 10) hx hb dX6_number_59 (by decide) ?_
          refine lv_iload_n hx hb dX6_number_61 rfl (lv_at hl 0 rfl) ?_
          refine lv_imul hx hb dX6_number_62 ?_
          refine lv_aload_n hx hb dX6_number_63 rfl (lv_at hl 1 rfl) ?_
          refine va_get (D := Γ.1) (ci := 6) (v := .ref q1) (C := RX6) (T := TX6) (N := 5) hx hb hts hi6 hown hK hP 0 rfl rfl 0 (by decide) (hts (.fieldLink RX6 9 "SandPlates$Text" "letters" "[I") (List.mem_of_getElem? (i := 4) rfl)) (fun _ h9 => h9) rfl dX6_number_64 ?_
          refine lv_aload_n hx hb dX6_number_67 rfl (lv_at hl 1 rfl) ?_
          refine va_get (D := Γ.1) (ci := 6) (v := .int first) (C := RX6) (T := TX6) (N := 5) hx hb hts hi6 hown hK hP 0 rfl rfl 3 (by decide) (hts (.fieldLink RX6 22 "SandPlates$Text" "first" "I") (List.mem_of_getElem? (i := 3) rfl)) (fun _ h9 => h9) rfl dX6_number_68 ?_
          refine lv_iconst (v := 1) hx hb dX6_number_71 (by decide) ?_
          refine lv_iadd hx hb dX6_number_72 ?_
          obtain ⟨hc_6, hf⟩ := vm_ck hf
          refine vm_iald hx hb hK hP 1 0 rfl rfl hc_6 (j := (first + 1).toNatClampNeg) rfl dX6_number_73 ?_
          refine lv_iadd hx hb dX6_number_74 ?_
          refine lv_bipush (v := 48) hx hb dX6_number_75 (by decide) ?_
          refine lv_isub hx hb dX6_number_77 ?_
          exact K_78 (((10 * ((letters (first.toNatClampNeg)) - 48)) + (letters ((first + 1).toNatClampNeg))) - 48) hP hD hS (lv_sub hl [] rfl) hf
        · have hf := vm_pos hc_5 hf
          refine lv_iconst (v := (-1)) hx hb dX6_number_55 (by decide) ?_
          refine lv_goto (tgt := 78) hx hb dX6_number_56 (by decide) ?_
          exact K_78 (-1) hP hD hS (lv_sub hl [] rfl) hf
      · have hf := vm_pos hc_4 hf
        refine lv_iload_n hx hb dX6_number_49 rfl (lv_at hl 0 rfl) ?_
        subst hout; obtain rfl := Option.some.inj hf
        subst hQQ
        exact W.iret hx hb hr (fun t ht hW => ⟨⟨_, (), rfl, rfl, by rw [ht]; exact hP, hD⟩, hS.F ht⟩) hS.2.2 dX6_number_50
    · have hf := vm_neg hc_2 hf
      exact K_21  hP hD hS (lv_sub hl [] rfl) hf
