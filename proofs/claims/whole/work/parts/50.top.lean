def wd_X7_type (Γ : GE) (q0 q1 q2 q3 d0 d1 d2 d3 d4 d5 d6 d7 d8 : Nat) (teller_isPlateFixed : Int32) (teller_rowsTold : Int32) (teller_text_length : Int32) (teller_text_kind : Int32) (teller_text_first : Int32) (teller_text_fin : Int32) (teller_text_letters : Nat → Int32) : va_W := [(q0, .inr (7, [.ref d0, .ref d1, .ref d2, .ref d3, .ref q1, .ref d4, .ref d5, .ref d6, .ref d7])), (q1, .inr (5, [.ref q2, .ref d8, .int teller_isPlateFixed, .int teller_rowsTold])), (q2, .inr (6, [.ref q3, .int teller_text_length, .int teller_text_kind, .int teller_text_first, .int teller_text_fin])), (q3, .inl (Γ.2.1 0, 120, .inl teller_text_letters))]
def f_X7_type_42 (teller_text_length : Int32) (teller_text_letters : Nat → Int32) (s0 : Int32) : Option (Int32 × Int32 × (Nat → Int32)) := some (s0, teller_text_length, teller_text_letters)
def f_X7_type_11 (teller_text_length : Int32) (teller_text_letters : Nat → Int32) : Option (Int32 × Int32 × (Nat → Int32)) := some ((-1), teller_text_length, teller_text_letters)
def f_X7_type (teller_text_length : Int32) (teller_text_letters : Nat → Int32) (x1 : Int32) : Option (Int32 × Int32 × (Nat → Int32)) := if x1 < 0 then (f_X7_type_11 teller_text_length teller_text_letters) else (if x1 ≤ 255 then (ob3 (f_X6_add teller_text_length teller_text_letters x1) (fun r_3 teller_text_length_4 teller_text_letters_5 => if r_3 = 0 then (f_X7_type_42 teller_text_length_4 teller_text_letters_5 (-3)) else (f_X7_type_42 teller_text_length_4 teller_text_letters_5 teller_text_length_4))) else (f_X7_type_11 teller_text_length teller_text_letters))
set_option maxHeartbeats 4000000 in
set_option maxRecDepth 100000 in
theorem c_X7_type (l : Launch) (Γ : GE) (sz : Nat) (q0 q1 q2 q3 d0 d1 d2 d3 d4 d5 d6 d7 d8 : Nat) (teller_isPlateFixed : Int32) (teller_rowsTold : Int32) (teller_text_length : Int32) (teller_text_kind : Int32) (teller_text_first : Int32) (teller_text_fin : Int32) (teller_text_letters : Nat → Int32) (x1 : Int32) (ro : Int32) (o_teller_text_length : Int32) (o_teller_text_letters : Nat → Int32) (hf : f_X7_type teller_text_length teller_text_letters x1 = some (ro, o_teller_text_length, o_teller_text_letters)) : MetI l yX7_type wsX7_type ({ frames := 1, cells := 0, slots := 0, locals := 21 } : Room) Γ [.ref q0, .int x1] (wd_X7_type Γ q0 q1 q2 q3 d0 d1 d2 d3 d4 d5 d6 d7 d8 teller_isPlateFixed teller_rowsTold teller_text_length teller_text_kind teller_text_first teller_text_fin teller_text_letters) (wd_X7_type Γ q0 q1 q2 q3 d0 d1 d2 d3 d4 d5 d6 d7 d8 teller_isPlateFixed teller_rowsTold o_teller_text_length teller_text_kind teller_text_first teller_text_fin o_teller_text_letters) sz ro := by
  refine Met.ofW (cc := cX7_type) (maxL := 2) (ret := (some .int)) (by decide) rfl ?_
  intro p e s m args below meth c s₁ B hml hv
  obtain ⟨rfl, hsz, hE, hP, hD⟩ := hv
  have hx := B.exec
  have hb := B.bytes
  have hr := B.returns
  have hts := atoms_spec (ws := wsX7_type) B.pre
  have hown : s.vm.findClass RX7 = some m.cls := findClass_of_methodNamed B.named
  have hlocks := B.notSynchronized
  subst hsz
  generalize hAe : va_A (wd_X7_type Γ q0 q1 q2 q3 d0 d1 d2 d3 d4 d5 d6 d7 d8 teller_isPlateFixed teller_rowsTold teller_text_length teller_text_kind teller_text_first teller_text_fin teller_text_letters) s.heap.size = A at hE hD ⊢
  have hA : ∀ q : Nat, s.heap.size ≤ q → A q := fun q h => by rw [← hAe]; exact Or.inr h
  clear hAe
  have hS : va_S A s.heap s.heap [] := va_S.rf
  have hK := hE.1
  have hl := lv_entry ([.ref q0, .int x1]) (n := 2) (Nat.le_of_ble_eq_true rfl)
  rw [lg_entry_eq]
  generalize (lg_sl ([.ref q0, .int x1]) ++ List.replicate (2 - (lg_sl ([.ref q0, .int x1])).length) Slot.unset).toArray = ls at hl ⊢
  have hl : lv_has ls 2 [(0, .ref q0), (1, .int x1)] := hl
  have hi5 : ∀ w ∈ u_ws RX5 TX5 4, w ∈ wsX7_type := fun w h => (List.mem_cons_of_mem _ (List.mem_append_left _ (List.mem_append_right _ h)))
  have hi6 : ∀ w ∈ u_ws RX6 TX6 5, w ∈ wsX7_type := fun w h => (List.mem_cons_of_mem _ (List.mem_append_right _ h))
  have hi7 : ∀ w ∈ u_ws RX7 TX7 9, w ∈ wsX7_type := fun w h => (List.mem_cons_of_mem _ (List.mem_append_left _ (List.mem_append_left _ (List.mem_append_right _ h))))
  obtain ⟨out, hout⟩ : ∃ o, o = (ro, o_teller_text_length, o_teller_text_letters) := ⟨_, rfl⟩
  rw [← hout] at hf
  obtain ⟨QQ, hQQ⟩ : ∃ Q, Q = MQ below (va_Qi (fun (r' : Int32) (_ : Unit) => r' = ro) (CQ Γ (wd_X7_type Γ q0 q1 q2 q3 d0 d1 d2 d3 d4 d5 d6 d7 d8 teller_isPlateFixed teller_rowsTold o_teller_text_length teller_text_kind teller_text_first teller_text_fin o_teller_text_letters) A) A) (([.ref q0, .int x1] : List Value).toArray) s 0 0 A := ⟨_, rfl⟩
  show W p l e ({ frames := 1, cells := 0, slots := 0, locals := 21 } : Room) s m (([.ref q0, .int x1] : List Value).toArray) below meth c s.heap [] 0 0 (MQ below _ (([.ref q0, .int x1] : List Value).toArray) s 0 0 A) (F0 m 0 ls [])
  rw [← hQQ]
  have K_42 : ∀ (teller_text_length : Int32) (teller_text_letters : Nat → Int32) (s0 : Int32) {H : Heap} {locs : List Loc} {ls : Array Slot}, va_P Γ.1 vwCl (wd_X7_type Γ q0 q1 q2 q3 d0 d1 d2 d3 d4 d5 d6 d7 d8 teller_isPlateFixed teller_rowsTold teller_text_length teller_text_kind teller_text_first teller_text_fin teller_text_letters) H → va_D A (wd_X7_type Γ q0 q1 q2 q3 d0 d1 d2 d3 d4 d5 d6 d7 d8 teller_isPlateFixed teller_rowsTold teller_text_length teller_text_kind teller_text_first teller_text_fin teller_text_letters) → va_S A s.heap H locs → lv_has ls 2 [] → f_X7_type_42 teller_text_length teller_text_letters s0 = some out → W p l e ({ frames := 1, cells := 0, slots := 0, locals := 21 } : Room) s m ([.ref q0, .int x1] : List Value).toArray below meth c H locs 0 0 QQ (F0 m 42 ls [.int s0]) := by
    intro teller_text_length teller_text_letters s0 H locs ls hP hD hS hl hf
    unfold f_X7_type_42 at hf
    subst hout; obtain ⟨rfl, rfl, rfl⟩ := rt3 hf
    subst hQQ
    exact W.iret hx hb hr (fun t ht hW => ⟨⟨_, (), rfl, rfl, by rw [ht]; exact hP, hD⟩, hS.F ht⟩) hS.2.2 dX7_type_42
  have K_11 : ∀ (teller_text_length : Int32) (teller_text_letters : Nat → Int32) {H : Heap} {locs : List Loc} {ls : Array Slot}, va_P Γ.1 vwCl (wd_X7_type Γ q0 q1 q2 q3 d0 d1 d2 d3 d4 d5 d6 d7 d8 teller_isPlateFixed teller_rowsTold teller_text_length teller_text_kind teller_text_first teller_text_fin teller_text_letters) H → va_D A (wd_X7_type Γ q0 q1 q2 q3 d0 d1 d2 d3 d4 d5 d6 d7 d8 teller_isPlateFixed teller_rowsTold teller_text_length teller_text_kind teller_text_first teller_text_fin teller_text_letters) → va_S A s.heap H locs → lv_has ls 2 [] → f_X7_type_11 teller_text_length teller_text_letters = some out → W p l e ({ frames := 1, cells := 0, slots := 0, locals := 21 } : Room) s m ([.ref q0, .int x1] : List Value).toArray below meth c H locs 0 0 QQ (F0 m 11 ls []) := by
    intro teller_text_length teller_text_letters H locs ls hP hD hS hl hf
    unfold f_X7_type_11 at hf
    refine lv_iconst (v := (-1)) hx hb dX7_type_11 (by decide) ?_
    subst hout; obtain ⟨rfl, rfl, rfl⟩ := rt3 hf
    subst hQQ
    exact W.iret hx hb hr (fun t ht hW => ⟨⟨_, (), rfl, rfl, by rw [ht]; exact hP, hD⟩, hS.F ht⟩) hS.2.2 dX7_type_12
  unfold f_X7_type at hf
  refine lv_iload_n hx hb dX7_type_0 rfl (lv_at hl 1 rfl) ?_
  refine lv_if_lt (tgt := 11) hx hb dX7_type_1 (by decide) (fun hc_1 => ?_) (fun hc_1 => ?_)
  · have hf := vm_pos hc_1 hf
    exact K_11 teller_text_length teller_text_letters hP hD hS (lv_sub hl [] rfl) hf
  · have hf := vm_neg hc_1 hf
    refine lv_iload_n hx hb dX7_type_4 rfl (lv_at hl 1 rfl) ?_
    refine lv_sipush (v := 255) hx hb dX7_type_5 (by decide) ?_
    refine lv_icmp_le (tgt := 13) hx hb dX7_type_8 (by decide) (fun hc_2 => ?_) (fun hc_2 => ?_)
    · have hf := vm_pos hc_2 hf
      refine lv_aload_n hx hb dX7_type_13 rfl (lv_at hl 0 rfl) ?_
      refine va_get (D := Γ.1) (ci := 7) (v := .ref q1) (C := RX7) (T := TX7) (N := 9) hx hb hts hi7 hown hK hP 0 rfl rfl 4 (by decide) (hts (.fieldLink RX7 34 "SandPlates" "teller" "LSandPlates$Teller;") (List.mem_of_getElem? (i := 1) rfl)) (fun _ h9 => h9) rfl dX7_type_14 ?_
      refine va_getN (D := Γ.1) (ci := 5) (v := .ref q2) (C := RX5) (T := TX5) (N := 4) hx hb hts hi5 hown hK hP 1 rfl rfl 0 (by decide) (va_Nw.use rfl (nfX7_63 hE.2.1)) (fun _ h9 => h9) rfl dX7_type_17 ?_
      refine lv_iload_n hx hb dX7_type_20 rfl (lv_at hl 1 rfl) ?_
      obtain ⟨r_3, teller_text_length_4, teller_text_letters_5, hq_6, hf⟩ := ob3_some hf
      refine vm_cNi (isC := [2, 3]) (wc := (wd_X6_add Γ q2 q3 teller_text_length teller_text_kind teller_text_first teller_text_fin teller_text_letters)) (w1 := (wd_X6_add Γ q2 q3 teller_text_length_4 teller_text_kind teller_text_first teller_text_fin teller_text_letters_5)) (As := [.int x1]) (rest := []) ⟨hx, hb, hml, hown, hts⟩ hE hP hD hS hA rfl rfl rfl (c_X6_add l Γ _ q2 q3 teller_text_length teller_text_kind teller_text_first teller_text_fin teller_text_letters x1 r_3 teller_text_length_4 teller_text_letters_5 hq_6) ⟨va_cnB 1 hts ggX7_type_X6_add rfl rfl rfl (nmX7_67 hE.2.1) (hts (.initialized RX6) (List.mem_of_getElem? (i := 3) rfl)) (by decide +kernel) ⟨Nat.le_of_ble_eq_true rfl, Nat.le_of_ble_eq_true rfl⟩, (hts (.instanceMethod yX6_add) (List.mem_of_getElem? (i := 2) rfl)), (hts (.selects RX6 yX6_add yX6_add) (List.mem_of_getElem? (i := 4) rfl))⟩ (va_recv (ci := 6) (q0 := 2) hK hP rfl rfl) rfl hl.1 rfl (Nat.le_of_ble_eq_true rfl) dX7_type_21 ⟨Nat.zero_le _, Nat.zero_le _⟩ (fun H locs hP hD hS => ?_)
      have hP : va_P Γ.1 vwCl (wd_X7_type Γ q0 q1 q2 q3 d0 d1 d2 d3 d4 d5 d6 d7 d8 teller_isPlateFixed teller_rowsTold teller_text_length_4 teller_text_kind teller_text_first teller_text_fin teller_text_letters_5) H := hP
      have hD : va_D A (wd_X7_type Γ q0 q1 q2 q3 d0 d1 d2 d3 d4 d5 d6 d7 d8 teller_isPlateFixed teller_rowsTold teller_text_length_4 teller_text_kind teller_text_first teller_text_fin teller_text_letters_5) := hD
      refine lv_if_eq (tgt := 40) hx hb dX7_type_24 (by decide) (fun hc_7 => ?_) (fun hc_7 => ?_)
      · have hf := vm_pos hc_7 hf
        refine lv_bipush (v := (-3)) hx hb dX7_type_40 (by decide) ?_
        exact K_42 teller_text_length_4 teller_text_letters_5 (-3) hP hD hS (lv_sub hl [] rfl) hf
      · have hf := vm_neg hc_7 hf
        refine lv_aload_n hx hb dX7_type_27 rfl (lv_at hl 0 rfl) ?_
        refine va_get (D := Γ.1) (ci := 7) (v := .ref q1) (C := RX7) (T := TX7) (N := 9) hx hb hts hi7 hown hK hP 0 rfl rfl 4 (by decide) (hts (.fieldLink RX7 34 "SandPlates" "teller" "LSandPlates$Teller;") (List.mem_of_getElem? (i := 1) rfl)) (fun _ h9 => h9) rfl dX7_type_28 ?_
        refine va_getN (D := Γ.1) (ci := 5) (v := .ref q2) (C := RX5) (T := TX5) (N := 4) hx hb hts hi5 hown hK hP 1 rfl rfl 0 (by decide) (va_Nw.use rfl (nfX7_63 hE.2.1)) (fun _ h9 => h9) rfl dX7_type_31 ?_
        refine va_getN (D := Γ.1) (ci := 6) (v := .int teller_text_length_4) (C := RX6) (T := TX6) (N := 5) hx hb hts hi6 hown hK hP 2 rfl rfl 1 (by decide) (va_Nw.use rfl (nfX7_73 hE.2.1)) (fun _ h9 => h9) rfl dX7_type_34 ?_
        refine lv_goto (tgt := 42) hx hb dX7_type_37 (by decide) ?_
        exact K_42 teller_text_length_4 teller_text_letters_5 teller_text_length_4 hP hD hS (lv_sub hl [] rfl) hf
    · have hf := vm_neg hc_2 hf
      exact K_11 teller_text_length teller_text_letters hP hD hS (lv_sub hl [] rfl) hf
def wd_X7_clear (Γ : GE) (q0 q1 q2 d0 d1 d2 d3 d4 d5 d6 d7 d8 d9 : Nat) (teller_isPlateFixed : Int32) (teller_rowsTold : Int32) (teller_text_length : Int32) (teller_text_kind : Int32) (teller_text_first : Int32) (teller_text_fin : Int32) : va_W := [(q0, .inr (7, [.ref d0, .ref d1, .ref d2, .ref d3, .ref q1, .ref d4, .ref d5, .ref d6, .ref d7])), (q1, .inr (5, [.ref q2, .ref d8, .int teller_isPlateFixed, .int teller_rowsTold])), (q2, .inr (6, [.ref d9, .int teller_text_length, .int teller_text_kind, .int teller_text_first, .int teller_text_fin]))]
def f_X7_clear (teller_text_length : Int32) : Option (Int32 × Int32) := some (teller_text_length, 0)
set_option maxHeartbeats 4000000 in
set_option maxRecDepth 100000 in
theorem c_X7_clear (l : Launch) (Γ : GE) (sz : Nat) (q0 q1 q2 d0 d1 d2 d3 d4 d5 d6 d7 d8 d9 : Nat) (teller_isPlateFixed : Int32) (teller_rowsTold : Int32) (teller_text_length : Int32) (teller_text_kind : Int32) (teller_text_first : Int32) (teller_text_fin : Int32) (ro : Int32) (o_teller_text_length : Int32) (hf : f_X7_clear teller_text_length = some (ro, o_teller_text_length)) : MetI l yX7_clear wsX7_clear ({ frames := 0, cells := 0, slots := 0, locals := 0 } : Room) Γ [.ref q0] (wd_X7_clear Γ q0 q1 q2 d0 d1 d2 d3 d4 d5 d6 d7 d8 d9 teller_isPlateFixed teller_rowsTold teller_text_length teller_text_kind teller_text_first teller_text_fin) (wd_X7_clear Γ q0 q1 q2 d0 d1 d2 d3 d4 d5 d6 d7 d8 d9 teller_isPlateFixed teller_rowsTold o_teller_text_length teller_text_kind teller_text_first teller_text_fin) sz ro := by
  refine Met.ofW (cc := cX7_clear) (maxL := 2) (ret := (some .int)) (by decide) rfl ?_
  intro p e s m args below meth c s₁ B hml hv
  obtain ⟨rfl, hsz, hE, hP, hD⟩ := hv
  have hx := B.exec
  have hb := B.bytes
  have hr := B.returns
  have hts := atoms_spec (ws := wsX7_clear) B.pre
  have hown : s.vm.findClass RX7 = some m.cls := findClass_of_methodNamed B.named
  have hlocks := B.notSynchronized
  subst hsz
  generalize hAe : va_A (wd_X7_clear Γ q0 q1 q2 d0 d1 d2 d3 d4 d5 d6 d7 d8 d9 teller_isPlateFixed teller_rowsTold teller_text_length teller_text_kind teller_text_first teller_text_fin) s.heap.size = A at hE hD ⊢
  have hA : ∀ q : Nat, s.heap.size ≤ q → A q := fun q h => by rw [← hAe]; exact Or.inr h
  clear hAe
  have hS : va_S A s.heap s.heap [] := va_S.rf
  have hK := hE.1
  have hl := lv_entry ([.ref q0]) (n := 2) (Nat.le_of_ble_eq_true rfl)
  rw [lg_entry_eq]
  generalize (lg_sl ([.ref q0]) ++ List.replicate (2 - (lg_sl ([.ref q0])).length) Slot.unset).toArray = ls at hl ⊢
  have hl : lv_has ls 2 [(0, .ref q0)] := hl
  have hi5 : ∀ w ∈ u_ws RX5 TX5 4, w ∈ wsX7_clear := fun w h => (List.mem_cons_of_mem _ (List.mem_append_left _ (List.mem_append_right _ h)))
  have hi6 : ∀ w ∈ u_ws RX6 TX6 5, w ∈ wsX7_clear := fun w h => (List.mem_cons_of_mem _ (List.mem_append_right _ h))
  have hi7 : ∀ w ∈ u_ws RX7 TX7 9, w ∈ wsX7_clear := fun w h => (List.mem_cons_of_mem _ (List.mem_append_left _ (List.mem_append_left _ (List.mem_append_right _ h))))
  obtain ⟨out, hout⟩ : ∃ o, o = (ro, o_teller_text_length) := ⟨_, rfl⟩
  rw [← hout] at hf
  obtain ⟨QQ, hQQ⟩ : ∃ Q, Q = MQ below (va_Qi (fun (r' : Int32) (_ : Unit) => r' = ro) (CQ Γ (wd_X7_clear Γ q0 q1 q2 d0 d1 d2 d3 d4 d5 d6 d7 d8 d9 teller_isPlateFixed teller_rowsTold o_teller_text_length teller_text_kind teller_text_first teller_text_fin) A) A) (([.ref q0] : List Value).toArray) s 0 0 A := ⟨_, rfl⟩
  show W p l e ({ frames := 0, cells := 0, slots := 0, locals := 0 } : Room) s m (([.ref q0] : List Value).toArray) below meth c s.heap [] 0 0 (MQ below _ (([.ref q0] : List Value).toArray) s 0 0 A) (F0 m 0 ls [])
  rw [← hQQ]
  unfold f_X7_clear at hf
  refine lv_aload_n hx hb dX7_clear_0 rfl (lv_at hl 0 rfl) ?_
  refine va_get (D := Γ.1) (ci := 7) (v := .ref q1) (C := RX7) (T := TX7) (N := 9) hx hb hts hi7 hown hK hP 0 rfl rfl 4 (by decide) (hts (.fieldLink RX7 34 "SandPlates" "teller" "LSandPlates$Teller;") (List.mem_of_getElem? (i := 1) rfl)) (fun _ h9 => h9) rfl dX7_clear_1 ?_
  refine va_getN (D := Γ.1) (ci := 5) (v := .ref q2) (C := RX5) (T := TX5) (N := 4) hx hb hts hi5 hown hK hP 1 rfl rfl 0 (by decide) (va_Nw.use rfl (nfX7_63 hE.2.1)) (fun _ h9 => h9) rfl dX7_clear_4 ?_
  refine va_getN (D := Γ.1) (ci := 6) (v := .int teller_text_length) (C := RX6) (T := TX6) (N := 5) hx hb hts hi6 hown hK hP 2 rfl rfl 1 (by decide) (va_Nw.use rfl (nfX7_73 hE.2.1)) (fun _ h9 => h9) rfl dX7_clear_7 ?_
  refine lv_istore_n (lv' := [(1, .int teller_text_length), (0, .ref q0)]) hx hb dX7_clear_10 rfl hl (by decide) rfl (fun ls hl => ?_)
  refine lv_aload_n hx hb dX7_clear_11 rfl (lv_at hl 1 rfl) ?_
  refine va_get (D := Γ.1) (ci := 7) (v := .ref q1) (C := RX7) (T := TX7) (N := 9) hx hb hts hi7 hown hK hP 0 rfl rfl 4 (by decide) (hts (.fieldLink RX7 34 "SandPlates" "teller" "LSandPlates$Teller;") (List.mem_of_getElem? (i := 1) rfl)) (fun _ h9 => h9) rfl dX7_clear_12 ?_
  refine va_getN (D := Γ.1) (ci := 5) (v := .ref q2) (C := RX5) (T := TX5) (N := 4) hx hb hts hi5 hown hK hP 1 rfl rfl 0 (by decide) (va_Nw.use rfl (nfX7_63 hE.2.1)) (fun _ h9 => h9) rfl dX7_clear_15 ?_
  refine lv_iconst (v := 0) hx hb dX7_clear_18 (by decide) ?_
  refine va_putN (D := Γ.1) (ci := 6) (v := .int 0) (ty := .int) (C := RX6) (T := TX6) (N := 5) hx hb hts hi6 tyX6 tyX6_ok nmX6 hown hK hP hD hS 2 rfl rfl 1 (by decide) (va_Nw.use rfl (nfX7_73 hE.2.1)) (fun _ h9 => h9) rfl (by decide +kernel) rfl rfl (Nat.le_of_ble_eq_true rfl) dX7_clear_19 (fun H locs hP hD hS => ?_)
  have hP : va_P Γ.1 vwCl (wd_X7_clear Γ q0 q1 q2 d0 d1 d2 d3 d4 d5 d6 d7 d8 d9 teller_isPlateFixed teller_rowsTold 0 teller_text_kind teller_text_first teller_text_fin) H := hP
  have hD : va_D A (wd_X7_clear Γ q0 q1 q2 d0 d1 d2 d3 d4 d5 d6 d7 d8 d9 teller_isPlateFixed teller_rowsTold 0 teller_text_kind teller_text_first teller_text_fin) := hD
  refine lv_iload_n hx hb dX7_clear_22 rfl (lv_at hl 0 rfl) ?_
  subst hout; obtain ⟨rfl, rfl⟩ := rt2 hf
  subst hQQ
  exact W.iret hx hb hr (fun t ht hW => ⟨⟨_, (), rfl, rfl, by rw [ht]; exact hP, hD⟩, hS.F ht⟩) hS.2.2 dX7_clear_23
def wd_X7_tells (Γ : GE) (q0 q1 q2 q3 q4 q5 q6 q7 q8 q9 q10 q11 q12 q13 d0 d1 d2 d3 d4 d5 : Nat) (plate_columns : Int32) (plate_rows : Int32) (plate_numbers : Nat → Int32) (plate_figure : Nat → Int32) (plate_grains : Nat → Int32) (history_known : Int32) (had : Nat → Nat) (pW : Nat → Int32) (pH : Nat → Int32) (pN : Nat → Nat → Int32) (pF : Nat → Nat → Int32) (pG : Nat → Nat → Int32) (teller_isPlateFixed : Int32) (teller_rowsTold : Int32) (teller_text_length : Int32) (teller_text_kind : Int32) (teller_text_first : Int32) (teller_text_fin : Int32) (teller_text_letters : Nat → Int32) (teller_plate_columns : Int32) (teller_plate_rows : Int32) (teller_plate_numbers : Nat → Int32) (teller_plate_figure : Nat → Int32) (teller_plate_grains : Nat → Int32) : va_W := [(q0, .inr (7, [.ref q1, .ref q5, .ref d0, .ref d1, .ref q7, .ref d2, .ref d3, .ref d4, .ref d5])), (q1, .inr (2, [.int plate_columns, .int plate_rows, .ref q2, .ref q3, .ref q4])), (q2, .inl (Γ.2.1 0, 7, .inl plate_numbers)), (q3, .inl (Γ.2.1 0, 36, .inl plate_figure)), (q4, .inl (Γ.2.1 0, 36, .inl plate_grains)), (q5, .inr (0, [.ref q6, .int history_known]))] ++ (segH Γ q6 had pW pH pN pF pG ++ ([(q7, .inr (5, [.ref q8, .ref q10, .int teller_isPlateFixed, .int teller_rowsTold])), (q8, .inr (6, [.ref q9, .int teller_text_length, .int teller_text_kind, .int teller_text_first, .int teller_text_fin])), (q9, .inl (Γ.2.1 0, 120, .inl teller_text_letters)), (q10, .inr (2, [.int teller_plate_columns, .int teller_plate_rows, .ref q11, .ref q12, .ref q13])), (q11, .inl (Γ.2.1 0, 7, .inl teller_plate_numbers)), (q12, .inl (Γ.2.1 0, 36, .inl teller_plate_figure)), (q13, .inl (Γ.2.1 0, 36, .inl teller_plate_grains))]))
def f_X7_tells (plate_columns : Int32) (plate_rows : Int32) (plate_numbers : Nat → Int32) (plate_figure : Nat → Int32) (plate_grains : Nat → Int32) (history_known : Int32) (had : Nat → Nat) (pW : Nat → Int32) (pH : Nat → Int32) (pN : Nat → Nat → Int32) (pF : Nat → Nat → Int32) (pG : Nat → Nat → Int32) (teller_text_length : Int32) (teller_text_kind : Int32) (teller_text_first : Int32) (teller_text_letters : Nat → Int32) (teller_plate_numbers : Nat → Int32) (teller_plate_figure : Nat → Int32) (teller_plate_grains : Nat → Int32) : Option (Int32 × Int32 × Int32 × (Nat → Int32) × (Nat → Int32) × (Nat → Int32) × Int32 × (Nat → Nat) × (Nat → Int32) × (Nat → Int32) × (Nat → Nat → Int32) × (Nat → Nat → Int32) × (Nat → Nat → Int32) × Int32 × Int32 × Int32 × Int32 × Int32 × Int32 × Int32 × Int32 × (Nat → Int32) × (Nat → Int32) × (Nat → Int32)) := ob11 (f_X5_readAll teller_text_length teller_text_kind teller_text_first teller_text_letters teller_plate_numbers teller_plate_figure teller_plate_grains) (fun r_1 teller_isPlateFixed_2 teller_rowsTold_3 teller_text_kind_4 teller_text_first_5 teller_text_fin_6 teller_plate_columns_7 teller_plate_rows_8 teller_plate_numbers_9 teller_plate_figure_10 teller_plate_grains_11 => if 0 ≤ r_1 then (ob7 (f_X0_record history_known had pW pH pN pF pG plate_columns plate_rows plate_numbers plate_figure plate_grains) (fun history_known_14 had_15 pW_16 pH_17 pN_18 pF_19 pG_20 => ob5 (f_X2_takeFrom plate_numbers plate_figure plate_grains teller_plate_columns_7 teller_plate_rows_8 teller_plate_numbers_9 teller_plate_figure_10 teller_plate_grains_11) (fun plate_columns_22 plate_rows_23 plate_numbers_24 plate_figure_25 plate_grains_26 => some (r_1, plate_columns_22, plate_rows_23, plate_numbers_24, plate_figure_25, plate_grains_26, history_known_14, had_15, pW_16, pH_17, pN_18, pF_19, pG_20, teller_isPlateFixed_2, teller_rowsTold_3, 0, teller_text_kind_4, teller_text_first_5, teller_text_fin_6, teller_plate_columns_7, teller_plate_rows_8, teller_plate_numbers_9, teller_plate_figure_10, teller_plate_grains_11)))) else (some (r_1, plate_columns, plate_rows, plate_numbers, plate_figure, plate_grains, history_known, had, pW, pH, pN, pF, pG, teller_isPlateFixed_2, teller_rowsTold_3, teller_text_length, teller_text_kind_4, teller_text_first_5, teller_text_fin_6, teller_plate_columns_7, teller_plate_rows_8, teller_plate_numbers_9, teller_plate_figure_10, teller_plate_grains_11)))
set_option maxHeartbeats 4000000 in
set_option maxRecDepth 100000 in
theorem c_X7_tells (l : Launch) (Γ : GE) (sz : Nat) (q0 q1 q2 q3 q4 q5 q6 q7 q8 q9 q10 q11 q12 q13 d0 d1 d2 d3 d4 d5 : Nat) (plate_columns : Int32) (plate_rows : Int32) (plate_numbers : Nat → Int32) (plate_figure : Nat → Int32) (plate_grains : Nat → Int32) (history_known : Int32) (had : Nat → Nat) (pW : Nat → Int32) (pH : Nat → Int32) (pN : Nat → Nat → Int32) (pF : Nat → Nat → Int32) (pG : Nat → Nat → Int32) (teller_isPlateFixed : Int32) (teller_rowsTold : Int32) (teller_text_length : Int32) (teller_text_kind : Int32) (teller_text_first : Int32) (teller_text_fin : Int32) (teller_text_letters : Nat → Int32) (teller_plate_columns : Int32) (teller_plate_rows : Int32) (teller_plate_numbers : Nat → Int32) (teller_plate_figure : Nat → Int32) (teller_plate_grains : Nat → Int32) (ro : Int32) (o_plate_columns : Int32) (o_plate_rows : Int32) (o_plate_numbers : Nat → Int32) (o_plate_figure : Nat → Int32) (o_plate_grains : Nat → Int32) (o_history_known : Int32) (o_had : Nat → Nat) (o_pW : Nat → Int32) (o_pH : Nat → Int32) (o_pN : Nat → Nat → Int32) (o_pF : Nat → Nat → Int32) (o_pG : Nat → Nat → Int32) (o_teller_isPlateFixed : Int32) (o_teller_rowsTold : Int32) (o_teller_text_length : Int32) (o_teller_text_kind : Int32) (o_teller_text_first : Int32) (o_teller_text_fin : Int32) (o_teller_plate_columns : Int32) (o_teller_plate_rows : Int32) (o_teller_plate_numbers : Nat → Int32) (o_teller_plate_figure : Nat → Int32) (o_teller_plate_grains : Nat → Int32) (hf : f_X7_tells plate_columns plate_rows plate_numbers plate_figure plate_grains history_known had pW pH pN pF pG teller_text_length teller_text_kind teller_text_first teller_text_letters teller_plate_numbers teller_plate_figure teller_plate_grains = some (ro, o_plate_columns, o_plate_rows, o_plate_numbers, o_plate_figure, o_plate_grains, o_history_known, o_had, o_pW, o_pH, o_pN, o_pF, o_pG, o_teller_isPlateFixed, o_teller_rowsTold, o_teller_text_length, o_teller_text_kind, o_teller_text_first, o_teller_text_fin, o_teller_plate_columns, o_teller_plate_rows, o_teller_plate_numbers, o_teller_plate_figure, o_teller_plate_grains)) : MetI l yX7_tells wsX7_tells ({ frames := 7, cells := 0, slots := 0, locals := 157 } : Room) Γ [.ref q0] (wd_X7_tells Γ q0 q1 q2 q3 q4 q5 q6 q7 q8 q9 q10 q11 q12 q13 d0 d1 d2 d3 d4 d5 plate_columns plate_rows plate_numbers plate_figure plate_grains history_known had pW pH pN pF pG teller_isPlateFixed teller_rowsTold teller_text_length teller_text_kind teller_text_first teller_text_fin teller_text_letters teller_plate_columns teller_plate_rows teller_plate_numbers teller_plate_figure teller_plate_grains) (wd_X7_tells Γ q0 q1 q2 q3 q4 q5 q6 q7 q8 q9 q10 q11 q12 q13 d0 d1 d2 d3 d4 d5 o_plate_columns o_plate_rows o_plate_numbers o_plate_figure o_plate_grains o_history_known o_had o_pW o_pH o_pN o_pF o_pG o_teller_isPlateFixed o_teller_rowsTold o_teller_text_length o_teller_text_kind o_teller_text_first o_teller_text_fin teller_text_letters o_teller_plate_columns o_teller_plate_rows o_teller_plate_numbers o_teller_plate_figure o_teller_plate_grains) sz ro := by
  refine Met.ofW (cc := cX7_tells) (maxL := 2) (ret := (some .int)) (by decide) rfl ?_
  intro p e s m args below meth c s₁ B hml hv
  obtain ⟨rfl, hsz, hE, hP, hD⟩ := hv
  have hx := B.exec
  have hb := B.bytes
  have hr := B.returns
  have hts := atoms_spec (ws := wsX7_tells) B.pre
  have hown : s.vm.findClass RX7 = some m.cls := findClass_of_methodNamed B.named
  have hlocks := B.notSynchronized
  subst hsz
  generalize hAe : va_A (wd_X7_tells Γ q0 q1 q2 q3 q4 q5 q6 q7 q8 q9 q10 q11 q12 q13 d0 d1 d2 d3 d4 d5 plate_columns plate_rows plate_numbers plate_figure plate_grains history_known had pW pH pN pF pG teller_isPlateFixed teller_rowsTold teller_text_length teller_text_kind teller_text_first teller_text_fin teller_text_letters teller_plate_columns teller_plate_rows teller_plate_numbers teller_plate_figure teller_plate_grains) s.heap.size = A at hE hD ⊢
  have hA : ∀ q : Nat, s.heap.size ≤ q → A q := fun q h => by rw [← hAe]; exact Or.inr h
  clear hAe
  have hS : va_S A s.heap s.heap [] := va_S.rf
  have hK := hE.1
  have hl := lv_entry ([.ref q0]) (n := 2) (Nat.le_of_ble_eq_true rfl)
  rw [lg_entry_eq]
  generalize (lg_sl ([.ref q0]) ++ List.replicate (2 - (lg_sl ([.ref q0])).length) Slot.unset).toArray = ls at hl ⊢
  have hl : lv_has ls 2 [(0, .ref q0)] := hl
  have hi0 : ∀ w ∈ u_ws RX0 TX0 2, w ∈ wsX7_tells := fun w h => (List.mem_cons_of_mem _ (List.mem_append_right _ h))
  have hi2 : ∀ w ∈ u_ws RX2 TX2 5, w ∈ wsX7_tells := fun w h => (List.mem_cons_of_mem _ (List.mem_append_left _ (List.mem_append_right _ h)))
  have hi5 : ∀ w ∈ u_ws RX5 TX5 4, w ∈ wsX7_tells := fun w h => (List.mem_cons_of_mem _ (List.mem_append_left _ (List.mem_append_left _ (List.mem_append_left _ (List.mem_append_right _ h)))))
  have hi6 : ∀ w ∈ u_ws RX6 TX6 5, w ∈ wsX7_tells := fun w h => (List.mem_cons_of_mem _ (List.mem_append_left _ (List.mem_append_left _ (List.mem_append_right _ h))))
  have hi7 : ∀ w ∈ u_ws RX7 TX7 9, w ∈ wsX7_tells := fun w h => (List.mem_cons_of_mem _ (List.mem_append_left _ (List.mem_append_left _ (List.mem_append_left _ (List.mem_append_left _ (List.mem_append_right _ h))))))
  obtain ⟨out, hout⟩ : ∃ o, o = (ro, o_plate_columns, o_plate_rows, o_plate_numbers, o_plate_figure, o_plate_grains, o_history_known, o_had, o_pW, o_pH, o_pN, o_pF, o_pG, o_teller_isPlateFixed, o_teller_rowsTold, o_teller_text_length, o_teller_text_kind, o_teller_text_first, o_teller_text_fin, o_teller_plate_columns, o_teller_plate_rows, o_teller_plate_numbers, o_teller_plate_figure, o_teller_plate_grains) := ⟨_, rfl⟩
  rw [← hout] at hf
  obtain ⟨QQ, hQQ⟩ : ∃ Q, Q = MQ below (va_Qi (fun (r' : Int32) (_ : Unit) => r' = ro) (CQ Γ (wd_X7_tells Γ q0 q1 q2 q3 q4 q5 q6 q7 q8 q9 q10 q11 q12 q13 d0 d1 d2 d3 d4 d5 o_plate_columns o_plate_rows o_plate_numbers o_plate_figure o_plate_grains o_history_known o_had o_pW o_pH o_pN o_pF o_pG o_teller_isPlateFixed o_teller_rowsTold o_teller_text_length o_teller_text_kind o_teller_text_first o_teller_text_fin teller_text_letters o_teller_plate_columns o_teller_plate_rows o_teller_plate_numbers o_teller_plate_figure o_teller_plate_grains) A) A) (([.ref q0] : List Value).toArray) s 0 0 A := ⟨_, rfl⟩
  show W p l e ({ frames := 7, cells := 0, slots := 0, locals := 157 } : Room) s m (([.ref q0] : List Value).toArray) below meth c s.heap [] 0 0 (MQ below _ (([.ref q0] : List Value).toArray) s 0 0 A) (F0 m 0 ls [])
  rw [← hQQ]
  unfold f_X7_tells at hf
  refine lv_aload_n hx hb dX7_tells_0 rfl (lv_at hl 0 rfl) ?_
  refine va_get (D := Γ.1) (ci := 7) (v := .ref q7) (C := RX7) (T := TX7) (N := 9) hx hb hts hi7 hown hK hP 0 rfl rfl 4 (by decide) (hts (.fieldLink RX7 34 "SandPlates" "teller" "LSandPlates$Teller;") (List.mem_of_getElem? (i := 1) rfl)) (fun _ h9 => h9) rfl dX7_tells_1 ?_
  obtain ⟨r_1, teller_isPlateFixed_2, teller_rowsTold_3, teller_text_kind_4, teller_text_first_5, teller_text_fin_6, teller_plate_columns_7, teller_plate_rows_8, teller_plate_numbers_9, teller_plate_figure_10, teller_plate_grains_11, hq_12, hf⟩ := ob11_some hf
  refine vm_cNi (isC := [31, 32, 33, 34, 35, 36, 37]) (wc := (wd_X5_readAll Γ q7 q8 q9 q10 q11 q12 q13 teller_isPlateFixed teller_rowsTold teller_text_length teller_text_kind teller_text_first teller_text_fin teller_text_letters teller_plate_columns teller_plate_rows teller_plate_numbers teller_plate_figure teller_plate_grains)) (w1 := (wd_X5_readAll Γ q7 q8 q9 q10 q11 q12 q13 teller_isPlateFixed_2 teller_rowsTold_3 teller_text_length teller_text_kind_4 teller_text_first_5 teller_text_fin_6 teller_text_letters teller_plate_columns_7 teller_plate_rows_8 teller_plate_numbers_9 teller_plate_figure_10 teller_plate_grains_11)) (As := []) (rest := []) ⟨hx, hb, hml, hown, hts⟩ hE hP hD hS hA rfl rfl rfl (c_X5_readAll l Γ _ q7 q8 q9 q10 q11 q12 q13 teller_isPlateFixed teller_rowsTold teller_text_length teller_text_kind teller_text_first teller_text_fin teller_text_letters teller_plate_columns teller_plate_rows teller_plate_numbers teller_plate_figure teller_plate_grains r_1 teller_isPlateFixed_2 teller_rowsTold_3 teller_text_kind_4 teller_text_first_5 teller_text_fin_6 teller_plate_columns_7 teller_plate_rows_8 teller_plate_numbers_9 teller_plate_figure_10 teller_plate_grains_11 hq_12) ⟨va_cnB 0 hts ggX7_tells_X5_readAll rfl rfl rfl (nmX7_77 hE.2.1) (hts (.initialized RX5) (List.mem_of_getElem? (i := 5) rfl)) (by decide +kernel) ⟨Nat.le_of_ble_eq_true rfl, Nat.le_of_ble_eq_true rfl⟩, (hts (.instanceMethod yX5_readAll) (List.mem_of_getElem? (i := 4) rfl)), (hts (.selects RX5 yX5_readAll yX5_readAll) (List.mem_of_getElem? (i := 6) rfl))⟩ (va_recv (ci := 5) (q0 := 31) hK hP rfl rfl) rfl hl.1 rfl (Nat.le_of_ble_eq_true rfl) dX7_tells_4 ⟨Nat.zero_le _, Nat.zero_le _⟩ (fun H locs hP hD hS => ?_)
  have hP : va_P Γ.1 vwCl (wd_X7_tells Γ q0 q1 q2 q3 q4 q5 q6 q7 q8 q9 q10 q11 q12 q13 d0 d1 d2 d3 d4 d5 plate_columns plate_rows plate_numbers plate_figure plate_grains history_known had pW pH pN pF pG teller_isPlateFixed_2 teller_rowsTold_3 teller_text_length teller_text_kind_4 teller_text_first_5 teller_text_fin_6 teller_text_letters teller_plate_columns_7 teller_plate_rows_8 teller_plate_numbers_9 teller_plate_figure_10 teller_plate_grains_11) H := hP
  have hD : va_D A (wd_X7_tells Γ q0 q1 q2 q3 q4 q5 q6 q7 q8 q9 q10 q11 q12 q13 d0 d1 d2 d3 d4 d5 plate_columns plate_rows plate_numbers plate_figure plate_grains history_known had pW pH pN pF pG teller_isPlateFixed_2 teller_rowsTold_3 teller_text_length teller_text_kind_4 teller_text_first_5 teller_text_fin_6 teller_text_letters teller_plate_columns_7 teller_plate_rows_8 teller_plate_numbers_9 teller_plate_figure_10 teller_plate_grains_11) := hD
  refine lv_istore_n (lv' := [(1, .int r_1), (0, .ref q0)]) hx hb dX7_tells_7 rfl hl (by decide) rfl (fun ls hl => ?_)
  refine lv_iload_n hx hb dX7_tells_8 rfl (lv_at hl 0 rfl) ?_
  refine lv_if_ge (tgt := 14) hx hb dX7_tells_9 (by decide) (fun hc_13 => ?_) (fun hc_13 => ?_)
  · have hf := vm_pos hc_13 hf
    refine lv_aload_n hx hb dX7_tells_14 rfl (lv_at hl 1 rfl) ?_
    refine va_get (D := Γ.1) (ci := 7) (v := .ref q5) (C := RX7) (T := TX7) (N := 9) hx hb hts hi7 hown hK hP 0 rfl rfl 1 (by decide) (hts (.fieldLink RX7 19 "SandPlates" "history" "LSandPlates$History;") (List.mem_of_getElem? (i := 2) rfl)) (fun _ h9 => h9) rfl dX7_tells_15 ?_
    refine lv_aload_n hx hb dX7_tells_18 rfl (lv_at hl 1 rfl) ?_
    refine va_get (D := Γ.1) (ci := 7) (v := .ref q1) (C := RX7) (T := TX7) (N := 9) hx hb hts hi7 hown hK hP 0 rfl rfl 0 (by decide) (hts (.fieldLink RX7 10 "SandPlates" "plate" "LSandPlates$Plate;") (List.mem_of_getElem? (i := 3) rfl)) (fun _ h9 => h9) rfl dX7_tells_19 ?_
    obtain ⟨history_known_14, had_15, pW_16, pH_17, pN_18, pF_19, pG_20, hq_21, hf⟩ := ob7_some hf
    refine vm_dNv (isC := [5, 6, 7, 8, 9, 10, 11, 12, 13, 14, 15, 16, 17, 18, 19, 20, 21, 22, 23, 24, 25, 26, 27, 28, 29, 30, 1, 2, 3, 4]) (wc := (wd_X0_record Γ q5 q6 q1 q2 q3 q4 history_known had pW pH pN pF pG plate_columns plate_rows plate_numbers plate_figure plate_grains)) (w1 := (wd_X0_record Γ q5 q6 q1 q2 q3 q4 history_known_14 had_15 pW_16 pH_17 pN_18 pF_19 pG_20 plate_columns plate_rows plate_numbers plate_figure plate_grains)) (W' := (wd_X7_tells Γ q0 q1 q2 q3 q4 q5 q6 q7 q8 q9 q10 q11 q12 q13 d0 d1 d2 d3 d4 d5 plate_columns plate_rows plate_numbers plate_figure plate_grains history_known_14 had_15 pW_16 pH_17 pN_18 pF_19 pG_20 teller_isPlateFixed_2 teller_rowsTold_3 teller_text_length teller_text_kind_4 teller_text_first_5 teller_text_fin_6 teller_text_letters teller_plate_columns_7 teller_plate_rows_8 teller_plate_numbers_9 teller_plate_figure_10 teller_plate_grains_11)) (N := 38) (As := [.ref q1]) (rest := []) ⟨hx, hb, hml, hown, hts⟩ hE hP hD hS hA rfl rfl rfl (c_X0_record l Γ _ q5 q6 q1 q2 q3 q4 history_known had pW pH pN pF pG plate_columns plate_rows plate_numbers plate_figure plate_grains history_known_14 had_15 pW_16 pH_17 pN_18 pF_19 pG_20 hq_21) ⟨va_cnB 1 hts ggX7_tells_X0_record rfl rfl rfl (nmX7_81 hE.2.1) (hts (.initialized RX0) (List.mem_of_getElem? (i := 143) rfl)) (by decide +kernel) ⟨Nat.le_of_ble_eq_true rfl, Nat.le_of_ble_eq_true rfl⟩, (hts (.instanceMethod yX0_record) (List.mem_of_getElem? (i := 142) rfl)), (hts (.selects RX0 yX0_record yX0_record) (List.mem_of_getElem? (i := 144) rfl))⟩ (va_recv (ci := 0) (q0 := 5) hK hP rfl rfl) rfl hl.1 rfl (Nat.le_of_ble_eq_true rfl) dX7_tells_22 ⟨Nat.zero_le _, Nat.zero_le _⟩ (fun H locs hP hD hS => ?_)
    have hP : va_P Γ.1 vwCl (wd_X7_tells Γ q0 q1 q2 q3 q4 q5 q6 q7 q8 q9 q10 q11 q12 q13 d0 d1 d2 d3 d4 d5 plate_columns plate_rows plate_numbers plate_figure plate_grains history_known_14 had_15 pW_16 pH_17 pN_18 pF_19 pG_20 teller_isPlateFixed_2 teller_rowsTold_3 teller_text_length teller_text_kind_4 teller_text_first_5 teller_text_fin_6 teller_text_letters teller_plate_columns_7 teller_plate_rows_8 teller_plate_numbers_9 teller_plate_figure_10 teller_plate_grains_11) H := hP
    have hD : va_D A (wd_X7_tells Γ q0 q1 q2 q3 q4 q5 q6 q7 q8 q9 q10 q11 q12 q13 d0 d1 d2 d3 d4 d5 plate_columns plate_rows plate_numbers plate_figure plate_grains history_known_14 had_15 pW_16 pH_17 pN_18 pF_19 pG_20 teller_isPlateFixed_2 teller_rowsTold_3 teller_text_length teller_text_kind_4 teller_text_first_5 teller_text_fin_6 teller_text_letters teller_plate_columns_7 teller_plate_rows_8 teller_plate_numbers_9 teller_plate_figure_10 teller_plate_grains_11) := hD
    refine lv_aload_n hx hb dX7_tells_25 rfl (lv_at hl 1 rfl) ?_
    refine va_get (D := Γ.1) (ci := 7) (v := .ref q1) (C := RX7) (T := TX7) (N := 9) hx hb hts hi7 hown hK hP 0 rfl rfl 0 (by decide) (hts (.fieldLink RX7 10 "SandPlates" "plate" "LSandPlates$Plate;") (List.mem_of_getElem? (i := 3) rfl)) (fun _ h9 => h9) rfl dX7_tells_26 ?_
    refine lv_aload_n hx hb dX7_tells_29 rfl (lv_at hl 1 rfl) ?_
    refine va_get (D := Γ.1) (ci := 7) (v := .ref q7) (C := RX7) (T := TX7) (N := 9) hx hb hts hi7 hown hK hP 0 rfl rfl 4 (by decide) (hts (.fieldLink RX7 34 "SandPlates" "teller" "LSandPlates$Teller;") (List.mem_of_getElem? (i := 1) rfl)) (fun _ h9 => h9) rfl dX7_tells_30 ?_
    refine va_getN (D := Γ.1) (ci := 5) (v := .ref q10) (C := RX5) (T := TX5) (N := 4) hx hb hts hi5 hown hK hP 31 rfl rfl 1 (by decide) (va_Nw.use rfl (nfX7_85 hE.2.1)) (fun _ h9 => h9) rfl dX7_tells_33 ?_
    obtain ⟨plate_columns_22, plate_rows_23, plate_numbers_24, plate_figure_25, plate_grains_26, hq_27, hf⟩ := ob5_some hf
    refine vm_cNv (isC := [1, 2, 3, 4, 34, 35, 36, 37]) (wc := (wd_X2_takeFrom Γ q1 q2 q3 q4 q10 q11 q12 q13 plate_columns plate_rows plate_numbers plate_figure plate_grains teller_plate_columns_7 teller_plate_rows_8 teller_plate_numbers_9 teller_plate_figure_10 teller_plate_grains_11)) (w1 := (wd_X2_takeFrom Γ q1 q2 q3 q4 q10 q11 q12 q13 plate_columns_22 plate_rows_23 plate_numbers_24 plate_figure_25 plate_grains_26 teller_plate_columns_7 teller_plate_rows_8 teller_plate_numbers_9 teller_plate_figure_10 teller_plate_grains_11)) (As := [.ref q10]) (rest := []) ⟨hx, hb, hml, hown, hts⟩ hE hP hD hS hA rfl rfl rfl (c_X2_takeFrom l Γ _ q1 q2 q3 q4 q10 q11 q12 q13 plate_columns plate_rows plate_numbers plate_figure plate_grains teller_plate_columns_7 teller_plate_rows_8 teller_plate_numbers_9 teller_plate_figure_10 teller_plate_grains_11 plate_columns_22 plate_rows_23 plate_numbers_24 plate_figure_25 plate_grains_26 hq_27) ⟨va_cnB 1 hts ggX7_tells_X2_takeFrom rfl rfl rfl (nmX7_86 hE.2.1) (hts (.initialized RX2) (List.mem_of_getElem? (i := 22) rfl)) (by decide +kernel) ⟨Nat.le_of_ble_eq_true rfl, Nat.le_of_ble_eq_true rfl⟩, (hts (.instanceMethod yX2_takeFrom) (List.mem_of_getElem? (i := 152) rfl)), (hts (.selects RX2 yX2_takeFrom yX2_takeFrom) (List.mem_of_getElem? (i := 153) rfl))⟩ (va_recv (ci := 2) (q0 := 1) hK hP rfl rfl) rfl hl.1 rfl (Nat.le_of_ble_eq_true rfl) dX7_tells_36 ⟨Nat.zero_le _, Nat.zero_le _⟩ (fun H locs hP hD hS => ?_)
    have hP : va_P Γ.1 vwCl (wd_X7_tells Γ q0 q1 q2 q3 q4 q5 q6 q7 q8 q9 q10 q11 q12 q13 d0 d1 d2 d3 d4 d5 plate_columns_22 plate_rows_23 plate_numbers_24 plate_figure_25 plate_grains_26 history_known_14 had_15 pW_16 pH_17 pN_18 pF_19 pG_20 teller_isPlateFixed_2 teller_rowsTold_3 teller_text_length teller_text_kind_4 teller_text_first_5 teller_text_fin_6 teller_text_letters teller_plate_columns_7 teller_plate_rows_8 teller_plate_numbers_9 teller_plate_figure_10 teller_plate_grains_11) H := hP
    have hD : va_D A (wd_X7_tells Γ q0 q1 q2 q3 q4 q5 q6 q7 q8 q9 q10 q11 q12 q13 d0 d1 d2 d3 d4 d5 plate_columns_22 plate_rows_23 plate_numbers_24 plate_figure_25 plate_grains_26 history_known_14 had_15 pW_16 pH_17 pN_18 pF_19 pG_20 teller_isPlateFixed_2 teller_rowsTold_3 teller_text_length teller_text_kind_4 teller_text_first_5 teller_text_fin_6 teller_text_letters teller_plate_columns_7 teller_plate_rows_8 teller_plate_numbers_9 teller_plate_figure_10 teller_plate_grains_11) := hD
    refine lv_aload_n hx hb dX7_tells_39 rfl (lv_at hl 1 rfl) ?_
    refine va_get (D := Γ.1) (ci := 7) (v := .ref q7) (C := RX7) (T := TX7) (N := 9) hx hb hts hi7 hown hK hP 0 rfl rfl 4 (by decide) (hts (.fieldLink RX7 34 "SandPlates" "teller" "LSandPlates$Teller;") (List.mem_of_getElem? (i := 1) rfl)) (fun _ h9 => h9) rfl dX7_tells_40 ?_
    refine va_getN (D := Γ.1) (ci := 5) (v := .ref q8) (C := RX5) (T := TX5) (N := 4) hx hb hts hi5 hown hK hP 31 rfl rfl 0 (by decide) (va_Nw.use rfl (nfX7_63 hE.2.1)) (fun _ h9 => h9) rfl dX7_tells_43 ?_
    refine lv_iconst (v := 0) hx hb dX7_tells_46 (by decide) ?_
    refine va_putN (D := Γ.1) (ci := 6) (v := .int 0) (ty := .int) (C := RX6) (T := TX6) (N := 5) hx hb hts hi6 tyX6 tyX6_ok nmX6 hown hK hP hD hS 32 rfl rfl 1 (by decide) (va_Nw.use rfl (nfX7_73 hE.2.1)) (fun _ h9 => h9) rfl (by decide +kernel) rfl rfl (Nat.le_of_ble_eq_true rfl) dX7_tells_47 (fun H locs hP hD hS => ?_)
    have hP : va_P Γ.1 vwCl (wd_X7_tells Γ q0 q1 q2 q3 q4 q5 q6 q7 q8 q9 q10 q11 q12 q13 d0 d1 d2 d3 d4 d5 plate_columns_22 plate_rows_23 plate_numbers_24 plate_figure_25 plate_grains_26 history_known_14 had_15 pW_16 pH_17 pN_18 pF_19 pG_20 teller_isPlateFixed_2 teller_rowsTold_3 0 teller_text_kind_4 teller_text_first_5 teller_text_fin_6 teller_text_letters teller_plate_columns_7 teller_plate_rows_8 teller_plate_numbers_9 teller_plate_figure_10 teller_plate_grains_11) H := hP
    have hD : va_D A (wd_X7_tells Γ q0 q1 q2 q3 q4 q5 q6 q7 q8 q9 q10 q11 q12 q13 d0 d1 d2 d3 d4 d5 plate_columns_22 plate_rows_23 plate_numbers_24 plate_figure_25 plate_grains_26 history_known_14 had_15 pW_16 pH_17 pN_18 pF_19 pG_20 teller_isPlateFixed_2 teller_rowsTold_3 0 teller_text_kind_4 teller_text_first_5 teller_text_fin_6 teller_text_letters teller_plate_columns_7 teller_plate_rows_8 teller_plate_numbers_9 teller_plate_figure_10 teller_plate_grains_11) := hD
    refine lv_iload_n hx hb dX7_tells_50 rfl (lv_at hl 0 rfl) ?_
    subst hout; obtain ⟨rfl, rfl, rfl, rfl, rfl, rfl, rfl, rfl, rfl, rfl, rfl, rfl, rfl, rfl, rfl, rfl, rfl, rfl, rfl, rfl, rfl, rfl, rfl, rfl⟩ := rt24 hf
    subst hQQ
    exact W.iret hx hb hr (fun t ht hW => ⟨⟨_, (), rfl, rfl, by rw [ht]; exact hP, hD⟩, hS.F ht⟩) hS.2.2 dX7_tells_51
  · have hf := vm_neg hc_13 hf
    refine lv_iload_n hx hb dX7_tells_12 rfl (lv_at hl 0 rfl) ?_
    subst hout; obtain ⟨rfl, rfl, rfl, rfl, rfl, rfl, rfl, rfl, rfl, rfl, rfl, rfl, rfl, rfl, rfl, rfl, rfl, rfl, rfl, rfl, rfl, rfl, rfl, rfl⟩ := rt24 hf
    subst hQQ
    exact W.iret hx hb hr (fun t ht hW => ⟨⟨_, (), rfl, rfl, by rw [ht]; exact hP, hD⟩, hS.F ht⟩) hS.2.2 dX7_tells_13
def wd_X7_change (Γ : GE) (q0 q1 q2 q3 q4 q5 q6 d0 d1 d2 d3 d4 d5 d6 : Nat) (plate_columns : Int32) (plate_rows : Int32) (plate_numbers : Nat → Int32) (plate_figure : Nat → Int32) (plate_grains : Nat → Int32) (history_known : Int32) (had : Nat → Nat) (pW : Nat → Int32) (pH : Nat → Int32) (pN : Nat → Nat → Int32) (pF : Nat → Nat → Int32) (pG : Nat → Nat → Int32) : va_W := [(q0, .inr (7, [.ref q1, .ref q5, .ref d0, .ref d1, .ref d2, .ref d3, .ref d4, .ref d5, .ref d6])), (q1, .inr (2, [.int plate_columns, .int plate_rows, .ref q2, .ref q3, .ref q4])), (q2, .inl (Γ.2.1 0, 7, .inl plate_numbers)), (q3, .inl (Γ.2.1 0, 36, .inl plate_figure)), (q4, .inl (Γ.2.1 0, 36, .inl plate_grains)), (q5, .inr (0, [.ref q6, .int history_known]))] ++ (segH Γ q6 had pW pH pN pF pG)
def f_X7_change (plate_columns : Int32) (plate_rows : Int32) (plate_numbers : Nat → Int32) (plate_figure : Nat → Int32) (plate_grains : Nat → Int32) (history_known : Int32) (had : Nat → Nat) (pW : Nat → Int32) (pH : Nat → Int32) (pN : Nat → Nat → Int32) (pF : Nat → Nat → Int32) (pG : Nat → Nat → Int32) (x1 : Int32) (x2 : Int32) : Option (Int32 × (Nat → Int32) × Int32 × (Nat → Nat) × (Nat → Int32) × (Nat → Int32) × (Nat → Nat → Int32) × (Nat → Nat → Int32) × (Nat → Nat → Int32)) := if inb x1 7 = true then if (plate_numbers (x1.toNatClampNeg)) = x2 then (some ((-2), plate_numbers, history_known, had, pW, pH, pN, pF, pG)) else (ob7 (f_X0_record history_known had pW pH pN pF pG plate_columns plate_rows plate_numbers plate_figure plate_grains) (fun history_known_3 had_4 pW_5 pH_6 pN_7 pF_8 pG_9 => if inb x1 7 = true then some ((plate_numbers (x1.toNatClampNeg)), (upd plate_numbers (x1.toNatClampNeg) x2), history_known_3, had_4, pW_5, pH_6, pN_7, pF_8, pG_9) else none)) else none
set_option maxHeartbeats 4000000 in
set_option maxRecDepth 100000 in
theorem c_X7_change (l : Launch) (Γ : GE) (sz : Nat) (q0 q1 q2 q3 q4 q5 q6 d0 d1 d2 d3 d4 d5 d6 : Nat) (plate_columns : Int32) (plate_rows : Int32) (plate_numbers : Nat → Int32) (plate_figure : Nat → Int32) (plate_grains : Nat → Int32) (history_known : Int32) (had : Nat → Nat) (pW : Nat → Int32) (pH : Nat → Int32) (pN : Nat → Nat → Int32) (pF : Nat → Nat → Int32) (pG : Nat → Nat → Int32) (x1 : Int32) (x2 : Int32) (ro : Int32) (o_plate_numbers : Nat → Int32) (o_history_known : Int32) (o_had : Nat → Nat) (o_pW : Nat → Int32) (o_pH : Nat → Int32) (o_pN : Nat → Nat → Int32) (o_pF : Nat → Nat → Int32) (o_pG : Nat → Nat → Int32) (hf : f_X7_change plate_columns plate_rows plate_numbers plate_figure plate_grains history_known had pW pH pN pF pG x1 x2 = some (ro, o_plate_numbers, o_history_known, o_had, o_pW, o_pH, o_pN, o_pF, o_pG)) : MetI l yX7_change wsX7_change ({ frames := 3, cells := 0, slots := 0, locals := 90 } : Room) Γ [.ref q0, .int x1, .int x2] (wd_X7_change Γ q0 q1 q2 q3 q4 q5 q6 d0 d1 d2 d3 d4 d5 d6 plate_columns plate_rows plate_numbers plate_figure plate_grains history_known had pW pH pN pF pG) (wd_X7_change Γ q0 q1 q2 q3 q4 q5 q6 d0 d1 d2 d3 d4 d5 d6 plate_columns plate_rows o_plate_numbers plate_figure plate_grains o_history_known o_had o_pW o_pH o_pN o_pF o_pG) sz ro := by
  refine Met.ofW (cc := cX7_change) (maxL := 4) (ret := (some .int)) (by decide) rfl ?_
  intro p e s m args below meth c s₁ B hml hv
  obtain ⟨rfl, hsz, hE, hP, hD⟩ := hv
  have hx := B.exec
  have hb := B.bytes
  have hr := B.returns
  have hts := atoms_spec (ws := wsX7_change) B.pre
  have hown : s.vm.findClass RX7 = some m.cls := findClass_of_methodNamed B.named
  have hlocks := B.notSynchronized
  subst hsz
  generalize hAe : va_A (wd_X7_change Γ q0 q1 q2 q3 q4 q5 q6 d0 d1 d2 d3 d4 d5 d6 plate_columns plate_rows plate_numbers plate_figure plate_grains history_known had pW pH pN pF pG) s.heap.size = A at hE hD ⊢
  have hA : ∀ q : Nat, s.heap.size ≤ q → A q := fun q h => by rw [← hAe]; exact Or.inr h
  clear hAe
  have hS : va_S A s.heap s.heap [] := va_S.rf
  have hK := hE.1
  have hl := lv_entry ([.ref q0, .int x1, .int x2]) (n := 4) (Nat.le_of_ble_eq_true rfl)
  rw [lg_entry_eq]
  generalize (lg_sl ([.ref q0, .int x1, .int x2]) ++ List.replicate (4 - (lg_sl ([.ref q0, .int x1, .int x2])).length) Slot.unset).toArray = ls at hl ⊢
  have hl : lv_has ls 4 [(0, .ref q0), (1, .int x1), (2, .int x2)] := hl
  have hi0 : ∀ w ∈ u_ws RX0 TX0 2, w ∈ wsX7_change := fun w h => (List.mem_cons_of_mem _ (List.mem_append_right _ h))
  have hi2 : ∀ w ∈ u_ws RX2 TX2 5, w ∈ wsX7_change := fun w h => (List.mem_cons_of_mem _ (List.mem_append_left _ (List.mem_append_right _ h)))
  have hi7 : ∀ w ∈ u_ws RX7 TX7 9, w ∈ wsX7_change := fun w h => (List.mem_cons_of_mem _ (List.mem_append_left _ (List.mem_append_left _ (List.mem_append_right _ h))))
  obtain ⟨out, hout⟩ : ∃ o, o = (ro, o_plate_numbers, o_history_known, o_had, o_pW, o_pH, o_pN, o_pF, o_pG) := ⟨_, rfl⟩
  rw [← hout] at hf
  obtain ⟨QQ, hQQ⟩ : ∃ Q, Q = MQ below (va_Qi (fun (r' : Int32) (_ : Unit) => r' = ro) (CQ Γ (wd_X7_change Γ q0 q1 q2 q3 q4 q5 q6 d0 d1 d2 d3 d4 d5 d6 plate_columns plate_rows o_plate_numbers plate_figure plate_grains o_history_known o_had o_pW o_pH o_pN o_pF o_pG) A) A) (([.ref q0, .int x1, .int x2] : List Value).toArray) s 0 0 A := ⟨_, rfl⟩
  show W p l e ({ frames := 3, cells := 0, slots := 0, locals := 90 } : Room) s m (([.ref q0, .int x1, .int x2] : List Value).toArray) below meth c s.heap [] 0 0 (MQ below _ (([.ref q0, .int x1, .int x2] : List Value).toArray) s 0 0 A) (F0 m 0 ls [])
  rw [← hQQ]
  unfold f_X7_change at hf
  refine lv_aload_n hx hb dX7_change_0 rfl (lv_at hl 0 rfl) ?_
  refine va_get (D := Γ.1) (ci := 7) (v := .ref q1) (C := RX7) (T := TX7) (N := 9) hx hb hts hi7 hown hK hP 0 rfl rfl 0 (by decide) (hts (.fieldLink RX7 10 "SandPlates" "plate" "LSandPlates$Plate;") (List.mem_of_getElem? (i := 1) rfl)) (fun _ h9 => h9) rfl dX7_change_1 ?_
  refine va_getN (D := Γ.1) (ci := 2) (v := .ref q2) (C := RX2) (T := TX2) (N := 5) hx hb hts hi2 hown hK hP 1 rfl rfl 2 (by decide) (va_Nw.use rfl (nfX7_144 hE.2.1)) (fun _ h9 => h9) rfl dX7_change_4 ?_
  refine lv_iload_n hx hb dX7_change_7 rfl (lv_at hl 1 rfl) ?_
  obtain ⟨hc_1, hf⟩ := vm_ck hf
  refine vm_iald hx hb hK hP 2 0 rfl rfl hc_1 (j := x1.toNatClampNeg) rfl dX7_change_8 ?_
  refine lv_istore_n (lv' := [(3, .int (plate_numbers (x1.toNatClampNeg))), (0, .ref q0), (1, .int x1), (2, .int x2)]) hx hb dX7_change_9 rfl hl (by decide) rfl (fun ls hl => ?_)
  refine lv_iload_n hx hb dX7_change_10 rfl (lv_at hl 0 rfl) ?_
  refine lv_iload_n hx hb dX7_change_11 rfl (lv_at hl 3 rfl) ?_
  refine lv_icmp_ne (tgt := 18) hx hb dX7_change_12 (by decide) (fun hc_2 => ?_) (fun hc_2 => ?_)
  · have hf := vm_neg hc_2 hf
    refine lv_aload_n hx hb dX7_change_18 rfl (lv_at hl 1 rfl) ?_
    refine va_get (D := Γ.1) (ci := 7) (v := .ref q5) (C := RX7) (T := TX7) (N := 9) hx hb hts hi7 hown hK hP 0 rfl rfl 1 (by decide) (hts (.fieldLink RX7 19 "SandPlates" "history" "LSandPlates$History;") (List.mem_of_getElem? (i := 2) rfl)) (fun _ h9 => h9) rfl dX7_change_19 ?_
    refine lv_aload_n hx hb dX7_change_22 rfl (lv_at hl 1 rfl) ?_
    refine va_get (D := Γ.1) (ci := 7) (v := .ref q1) (C := RX7) (T := TX7) (N := 9) hx hb hts hi7 hown hK hP 0 rfl rfl 0 (by decide) (hts (.fieldLink RX7 10 "SandPlates" "plate" "LSandPlates$Plate;") (List.mem_of_getElem? (i := 1) rfl)) (fun _ h9 => h9) rfl dX7_change_23 ?_
    obtain ⟨history_known_3, had_4, pW_5, pH_6, pN_7, pF_8, pG_9, hq_10, hf⟩ := ob7_some hf
    refine vm_dNv (isC := [5, 6, 7, 8, 9, 10, 11, 12, 13, 14, 15, 16, 17, 18, 19, 20, 21, 22, 23, 24, 25, 26, 27, 28, 29, 30, 1, 2, 3, 4]) (wc := (wd_X0_record Γ q5 q6 q1 q2 q3 q4 history_known had pW pH pN pF pG plate_columns plate_rows plate_numbers plate_figure plate_grains)) (w1 := (wd_X0_record Γ q5 q6 q1 q2 q3 q4 history_known_3 had_4 pW_5 pH_6 pN_7 pF_8 pG_9 plate_columns plate_rows plate_numbers plate_figure plate_grains)) (W' := (wd_X7_change Γ q0 q1 q2 q3 q4 q5 q6 d0 d1 d2 d3 d4 d5 d6 plate_columns plate_rows plate_numbers plate_figure plate_grains history_known_3 had_4 pW_5 pH_6 pN_7 pF_8 pG_9)) (N := 31) (As := [.ref q1]) (rest := []) ⟨hx, hb, hml, hown, hts⟩ hE hP hD hS hA rfl rfl rfl (c_X0_record l Γ _ q5 q6 q1 q2 q3 q4 history_known had pW pH pN pF pG plate_columns plate_rows plate_numbers plate_figure plate_grains history_known_3 had_4 pW_5 pH_6 pN_7 pF_8 pG_9 hq_10) ⟨va_cnB 1 hts ggX7_change_X0_record rfl rfl rfl (nmX7_81 hE.2.1) (hts (.initialized RX0) (List.mem_of_getElem? (i := 4) rfl)) (by decide +kernel) ⟨Nat.le_of_ble_eq_true rfl, Nat.le_of_ble_eq_true rfl⟩, (hts (.instanceMethod yX0_record) (List.mem_of_getElem? (i := 3) rfl)), (hts (.selects RX0 yX0_record yX0_record) (List.mem_of_getElem? (i := 5) rfl))⟩ (va_recv (ci := 0) (q0 := 5) hK hP rfl rfl) rfl hl.1 rfl (Nat.le_of_ble_eq_true rfl) dX7_change_26 ⟨Nat.zero_le _, Nat.zero_le _⟩ (fun H locs hP hD hS => ?_)
    have hP : va_P Γ.1 vwCl (wd_X7_change Γ q0 q1 q2 q3 q4 q5 q6 d0 d1 d2 d3 d4 d5 d6 plate_columns plate_rows plate_numbers plate_figure plate_grains history_known_3 had_4 pW_5 pH_6 pN_7 pF_8 pG_9) H := hP
    have hD : va_D A (wd_X7_change Γ q0 q1 q2 q3 q4 q5 q6 d0 d1 d2 d3 d4 d5 d6 plate_columns plate_rows plate_numbers plate_figure plate_grains history_known_3 had_4 pW_5 pH_6 pN_7 pF_8 pG_9) := hD
    refine lv_aload_n hx hb dX7_change_29 rfl (lv_at hl 1 rfl) ?_
    refine va_get (D := Γ.1) (ci := 7) (v := .ref q1) (C := RX7) (T := TX7) (N := 9) hx hb hts hi7 hown hK hP 0 rfl rfl 0 (by decide) (hts (.fieldLink RX7 10 "SandPlates" "plate" "LSandPlates$Plate;") (List.mem_of_getElem? (i := 1) rfl)) (fun _ h9 => h9) rfl dX7_change_30 ?_
    refine va_getN (D := Γ.1) (ci := 2) (v := .ref q2) (C := RX2) (T := TX2) (N := 5) hx hb hts hi2 hown hK hP 1 rfl rfl 2 (by decide) (va_Nw.use rfl (nfX7_144 hE.2.1)) (fun _ h9 => h9) rfl dX7_change_33 ?_
    refine lv_iload_n hx hb dX7_change_36 rfl (lv_at hl 2 rfl) ?_
    refine lv_iload_n hx hb dX7_change_37 rfl (lv_at hl 3 rfl) ?_
    obtain ⟨hc_11, hf⟩ := vm_ck hf
    refine vm_iast hx hb hK hP hD hS 2 0 rfl rfl hc_11 (j := (x1.toNatClampNeg)) rfl dX7_change_38 (fun H locs hP hD hS => ?_)
    have hP : va_P Γ.1 vwCl (wd_X7_change Γ q0 q1 q2 q3 q4 q5 q6 d0 d1 d2 d3 d4 d5 d6 plate_columns plate_rows (upd plate_numbers (x1.toNatClampNeg) x2) plate_figure plate_grains history_known_3 had_4 pW_5 pH_6 pN_7 pF_8 pG_9) H := hP
    have hD : va_D A (wd_X7_change Γ q0 q1 q2 q3 q4 q5 q6 d0 d1 d2 d3 d4 d5 d6 plate_columns plate_rows (upd plate_numbers (x1.toNatClampNeg) x2) plate_figure plate_grains history_known_3 had_4 pW_5 pH_6 pN_7 pF_8 pG_9) := hD
    refine lv_iload_n hx hb dX7_change_39 rfl (lv_at hl 0 rfl) ?_
    subst hout; obtain ⟨rfl, rfl, rfl, rfl, rfl, rfl, rfl, rfl, rfl⟩ := rt9 hf
    subst hQQ
    exact W.iret hx hb hr (fun t ht hW => ⟨⟨_, (), rfl, rfl, by rw [ht]; exact hP, hD⟩, hS.F ht⟩) hS.2.2 dX7_change_40
  · have hf := vm_pos hc_2 hf
    refine lv_bipush (v := (-2)) hx hb dX7_change_15 (by decide) ?_
    subst hout; obtain ⟨rfl, rfl, rfl, rfl, rfl, rfl, rfl, rfl, rfl⟩ := rt9 hf
    subst hQQ
    exact W.iret hx hb hr (fun t ht hW => ⟨⟨_, (), rfl, rfl, by rw [ht]; exact hP, hD⟩, hS.F ht⟩) hS.2.2 dX7_change_17
def wd_X7_sets (Γ : GE) (q0 q1 q2 q3 q4 q5 q6 d0 d1 d2 d3 d4 d5 d6 : Nat) (plate_columns : Int32) (plate_rows : Int32) (plate_numbers : Nat → Int32) (plate_figure : Nat → Int32) (plate_grains : Nat → Int32) (history_known : Int32) (had : Nat → Nat) (pW : Nat → Int32) (pH : Nat → Int32) (pN : Nat → Nat → Int32) (pF : Nat → Nat → Int32) (pG : Nat → Nat → Int32) : va_W := [(q0, .inr (7, [.ref q1, .ref q5, .ref d0, .ref d1, .ref d2, .ref d3, .ref d4, .ref d5, .ref d6])), (q1, .inr (2, [.int plate_columns, .int plate_rows, .ref q2, .ref q3, .ref q4])), (q2, .inl (Γ.2.1 0, 7, .inl plate_numbers)), (q3, .inl (Γ.2.1 0, 36, .inl plate_figure)), (q4, .inl (Γ.2.1 0, 36, .inl plate_grains)), (q5, .inr (0, [.ref q6, .int history_known]))] ++ (segH Γ q6 had pW pH pN pF pG)
def f_X7_sets_28 (plate_numbers : Nat → Int32) (history_known : Int32) (had : Nat → Nat) (pW : Nat → Int32) (pH : Nat → Int32) (pN : Nat → Nat → Int32) (pF : Nat → Nat → Int32) (pG : Nat → Nat → Int32) : Option (Int32 × (Nat → Int32) × Int32 × (Nat → Nat) × (Nat → Int32) × (Nat → Int32) × (Nat → Nat → Int32) × (Nat → Nat → Int32) × (Nat → Nat → Int32)) := some ((-1), plate_numbers, history_known, had, pW, pH, pN, pF, pG)
def f_X7_sets (plate_columns : Int32) (plate_rows : Int32) (plate_numbers : Nat → Int32) (plate_figure : Nat → Int32) (plate_grains : Nat → Int32) (history_known : Int32) (had : Nat → Nat) (pW : Nat → Int32) (pH : Nat → Int32) (pN : Nat → Nat → Int32) (pF : Nat → Nat → Int32) (pG : Nat → Nat → Int32) (x1 : Int32) (x2 : Int32) : Option (Int32 × (Nat → Int32) × Int32 × (Nat → Nat) × (Nat → Int32) × (Nat → Int32) × (Nat → Nat → Int32) × (Nat → Nat → Int32) × (Nat → Nat → Int32)) := if x1 < 0 then (f_X7_sets_28 plate_numbers history_known had pW pH pN pF pG) else (if 6 ≤ x1 then (f_X7_sets_28 plate_numbers history_known had pW pH pN pF pG) else (if inb x1 6 = true then if x2 < (tbl1 x1.toNatClampNeg) then (f_X7_sets_28 plate_numbers history_known had pW pH pN pF pG) else (if inb x1 6 = true then if x2 ≤ (tbl2 x1.toNatClampNeg) then (ob9 (f_X7_change plate_columns plate_rows plate_numbers plate_figure plate_grains history_known had pW pH pN pF pG x1 x2) (fun r_7 plate_numbers_8 history_known_9 had_10 pW_11 pH_12 pN_13 pF_14 pG_15 => some (r_7, plate_numbers_8, history_known_9, had_10, pW_11, pH_12, pN_13, pF_14, pG_15))) else (f_X7_sets_28 plate_numbers history_known had pW pH pN pF pG) else none) else none))
set_option maxHeartbeats 4000000 in
set_option maxRecDepth 100000 in
theorem c_X7_sets (l : Launch) (Γ : GE) (sz : Nat) (q0 q1 q2 q3 q4 q5 q6 d0 d1 d2 d3 d4 d5 d6 : Nat) (plate_columns : Int32) (plate_rows : Int32) (plate_numbers : Nat → Int32) (plate_figure : Nat → Int32) (plate_grains : Nat → Int32) (history_known : Int32) (had : Nat → Nat) (pW : Nat → Int32) (pH : Nat → Int32) (pN : Nat → Nat → Int32) (pF : Nat → Nat → Int32) (pG : Nat → Nat → Int32) (x1 : Int32) (x2 : Int32) (ro : Int32) (o_plate_numbers : Nat → Int32) (o_history_known : Int32) (o_had : Nat → Nat) (o_pW : Nat → Int32) (o_pH : Nat → Int32) (o_pN : Nat → Nat → Int32) (o_pF : Nat → Nat → Int32) (o_pG : Nat → Nat → Int32) (hf : f_X7_sets plate_columns plate_rows plate_numbers plate_figure plate_grains history_known had pW pH pN pF pG x1 x2 = some (ro, o_plate_numbers, o_history_known, o_had, o_pW, o_pH, o_pN, o_pF, o_pG)) : MetI l yX7_sets wsX7_sets ({ frames := 4, cells := 0, slots := 0, locals := 113 } : Room) Γ [.ref q0, .int x1, .int x2] (wd_X7_sets Γ q0 q1 q2 q3 q4 q5 q6 d0 d1 d2 d3 d4 d5 d6 plate_columns plate_rows plate_numbers plate_figure plate_grains history_known had pW pH pN pF pG) (wd_X7_sets Γ q0 q1 q2 q3 q4 q5 q6 d0 d1 d2 d3 d4 d5 d6 plate_columns plate_rows o_plate_numbers plate_figure plate_grains o_history_known o_had o_pW o_pH o_pN o_pF o_pG) sz ro := by
  refine Met.ofW (cc := cX7_sets) (maxL := 3) (ret := (some .int)) (by decide) rfl ?_
  intro p e s m args below meth c s₁ B hml hv
  obtain ⟨rfl, hsz, hE, hP, hD⟩ := hv
  have hx := B.exec
  have hb := B.bytes
  have hr := B.returns
  have hts := atoms_spec (ws := wsX7_sets) B.pre
  have hown : s.vm.findClass RX7 = some m.cls := findClass_of_methodNamed B.named
  have hlocks := B.notSynchronized
  subst hsz
  generalize hAe : va_A (wd_X7_sets Γ q0 q1 q2 q3 q4 q5 q6 d0 d1 d2 d3 d4 d5 d6 plate_columns plate_rows plate_numbers plate_figure plate_grains history_known had pW pH pN pF pG) s.heap.size = A at hE hD ⊢
  have hA : ∀ q : Nat, s.heap.size ≤ q → A q := fun q h => by rw [← hAe]; exact Or.inr h
  clear hAe
  have hS : va_S A s.heap s.heap [] := va_S.rf
  have hK := hE.1
  have hl := lv_entry ([.ref q0, .int x1, .int x2]) (n := 3) (Nat.le_of_ble_eq_true rfl)
  rw [lg_entry_eq]
  generalize (lg_sl ([.ref q0, .int x1, .int x2]) ++ List.replicate (3 - (lg_sl ([.ref q0, .int x1, .int x2])).length) Slot.unset).toArray = ls at hl ⊢
  have hl : lv_has ls 3 [(0, .ref q0), (1, .int x1), (2, .int x2)] := hl
  have hi0 : ∀ w ∈ u_ws RX0 TX0 2, w ∈ wsX7_sets := fun w h => (List.mem_cons_of_mem _ (List.mem_append_right _ h))
  have hi2 : ∀ w ∈ u_ws RX2 TX2 5, w ∈ wsX7_sets := fun w h => (List.mem_cons_of_mem _ (List.mem_append_left _ (List.mem_append_right _ h)))
  have hi7 : ∀ w ∈ u_ws RX7 TX7 9, w ∈ wsX7_sets := fun w h => (List.mem_cons_of_mem _ (List.mem_append_left _ (List.mem_append_left _ (List.mem_append_right _ h))))
  obtain ⟨out, hout⟩ : ∃ o, o = (ro, o_plate_numbers, o_history_known, o_had, o_pW, o_pH, o_pN, o_pF, o_pG) := ⟨_, rfl⟩
  rw [← hout] at hf
  obtain ⟨QQ, hQQ⟩ : ∃ Q, Q = MQ below (va_Qi (fun (r' : Int32) (_ : Unit) => r' = ro) (CQ Γ (wd_X7_sets Γ q0 q1 q2 q3 q4 q5 q6 d0 d1 d2 d3 d4 d5 d6 plate_columns plate_rows o_plate_numbers plate_figure plate_grains o_history_known o_had o_pW o_pH o_pN o_pF o_pG) A) A) (([.ref q0, .int x1, .int x2] : List Value).toArray) s 0 0 A := ⟨_, rfl⟩
  show W p l e ({ frames := 4, cells := 0, slots := 0, locals := 113 } : Room) s m (([.ref q0, .int x1, .int x2] : List Value).toArray) below meth c s.heap [] 0 0 (MQ below _ (([.ref q0, .int x1, .int x2] : List Value).toArray) s 0 0 A) (F0 m 0 ls [])
  rw [← hQQ]
  have K_28 : ∀ (plate_numbers : Nat → Int32) (history_known : Int32) (had : Nat → Nat) (pW : Nat → Int32) (pH : Nat → Int32) (pN : Nat → Nat → Int32) (pF : Nat → Nat → Int32) (pG : Nat → Nat → Int32) {H : Heap} {locs : List Loc} {ls : Array Slot}, va_P Γ.1 vwCl (wd_X7_sets Γ q0 q1 q2 q3 q4 q5 q6 d0 d1 d2 d3 d4 d5 d6 plate_columns plate_rows plate_numbers plate_figure plate_grains history_known had pW pH pN pF pG) H → va_D A (wd_X7_sets Γ q0 q1 q2 q3 q4 q5 q6 d0 d1 d2 d3 d4 d5 d6 plate_columns plate_rows plate_numbers plate_figure plate_grains history_known had pW pH pN pF pG) → va_S A s.heap H locs → lv_has ls 3 [] → f_X7_sets_28 plate_numbers history_known had pW pH pN pF pG = some out → W p l e ({ frames := 4, cells := 0, slots := 0, locals := 113 } : Room) s m ([.ref q0, .int x1, .int x2] : List Value).toArray below meth c H locs 0 0 QQ (F0 m 28 ls []) := by
    intro plate_numbers history_known had pW pH pN pF pG H locs ls hP hD hS hl hf
    unfold f_X7_sets_28 at hf
    refine lv_iconst (v := (-1)) hx hb dX7_sets_28 (by decide) ?_
    subst hout; obtain ⟨rfl, rfl, rfl, rfl, rfl, rfl, rfl, rfl, rfl⟩ := rt9 hf
    subst hQQ
    exact W.iret hx hb hr (fun t ht hW => ⟨⟨_, (), rfl, rfl, by rw [ht]; exact hP, hD⟩, hS.F ht⟩) hS.2.2 dX7_sets_29
  unfold f_X7_sets at hf
  refine lv_iload_n hx hb dX7_sets_0 rfl (lv_at hl 1 rfl) ?_
  refine lv_if_lt (tgt := 28) hx hb dX7_sets_1 (by decide) (fun hc_1 => ?_) (fun hc_1 => ?_)
  · have hf := vm_pos hc_1 hf
    exact K_28 plate_numbers history_known had pW pH pN pF pG hP hD hS (lv_sub hl [] rfl) hf
  · have hf := vm_neg hc_1 hf
    refine lv_iload_n hx hb dX7_sets_4 rfl (lv_at hl 1 rfl) ?_
    refine lv_bipush (v := 6) hx hb dX7_sets_5 (by decide) ?_
    refine lv_icmp_ge (tgt := 28) hx hb dX7_sets_7 (by decide) (fun hc_2 => ?_) (fun hc_2 => ?_)
    · have hf := vm_pos hc_2 hf
      exact K_28 plate_numbers history_known had pW pH pN pF pG hP hD hS (lv_sub hl [] rfl) hf
    · have hf := vm_neg hc_2 hf
      refine lv_iload_n hx hb dX7_sets_10 rfl (lv_at hl 2 rfl) ?_
      refine va_gets hx hb hE.2.2.1.2.1.1 hS hown (hts (.fieldLink RX7 101 "SandPlates" "LEAST" "[I") (List.mem_of_getElem? (i := 1) rfl)) (fun _ h9 => h9) dX7_sets_11 ?_
      refine lv_iload_n hx hb dX7_sets_14 rfl (lv_at hl 1 rfl) ?_
      obtain ⟨hc_3, hf⟩ := vm_ck hf
      refine va_ti hx hb hE.2.2.1.2.1.2 hS (inb_vp hc_3) rfl dX7_sets_15 ?_
      refine lv_icmp_lt (tgt := 28) hx hb dX7_sets_16 (by decide) (fun hc_4 => ?_) (fun hc_4 => ?_)
      · have hf := vm_pos hc_4 hf
        exact K_28 plate_numbers history_known had pW pH pN pF pG hP hD hS (lv_sub hl [] rfl) hf
      · have hf := vm_neg hc_4 hf
        refine lv_iload_n hx hb dX7_sets_19 rfl (lv_at hl 2 rfl) ?_
        refine va_gets hx hb hE.2.2.1.2.2.1.1 hS hown (hts (.fieldLink RX7 104 "SandPlates" "MOST" "[I") (List.mem_of_getElem? (i := 2) rfl)) (fun _ h9 => h9) dX7_sets_20 ?_
        refine lv_iload_n hx hb dX7_sets_23 rfl (lv_at hl 1 rfl) ?_
        obtain ⟨hc_5, hf⟩ := vm_ck hf
        refine va_ti hx hb hE.2.2.1.2.2.1.2 hS (inb_vp hc_5) rfl dX7_sets_24 ?_
        refine lv_icmp_le (tgt := 30) hx hb dX7_sets_25 (by decide) (fun hc_6 => ?_) (fun hc_6 => ?_)
        · have hf := vm_pos hc_6 hf
          refine lv_aload_n hx hb dX7_sets_30 rfl (lv_at hl 0 rfl) ?_
          refine lv_iload_n hx hb dX7_sets_31 rfl (lv_at hl 1 rfl) ?_
          refine lv_iload_n hx hb dX7_sets_32 rfl (lv_at hl 2 rfl) ?_
          obtain ⟨r_7, plate_numbers_8, history_known_9, had_10, pW_11, pH_12, pN_13, pF_14, pG_15, hq_16, hf⟩ := ob9_some hf
          refine vm_dVi (isC := [0, 1, 2, 3, 4, 5, 6, 7, 8, 9, 10, 11, 12, 13, 14, 15, 16, 17, 18, 19, 20, 21, 22, 23, 24, 25, 26, 27, 28, 29, 30]) (wc := (wd_X7_change Γ q0 q1 q2 q3 q4 q5 q6 d0 d1 d2 d3 d4 d5 d6 plate_columns plate_rows plate_numbers plate_figure plate_grains history_known had pW pH pN pF pG)) (w1 := (wd_X7_change Γ q0 q1 q2 q3 q4 q5 q6 d0 d1 d2 d3 d4 d5 d6 plate_columns plate_rows plate_numbers_8 plate_figure plate_grains history_known_9 had_10 pW_11 pH_12 pN_13 pF_14 pG_15)) (W' := (wd_X7_sets Γ q0 q1 q2 q3 q4 q5 q6 d0 d1 d2 d3 d4 d5 d6 plate_columns plate_rows plate_numbers_8 plate_figure plate_grains history_known_9 had_10 pW_11 pH_12 pN_13 pF_14 pG_15)) (N := 31) (As := [.int x1, .int x2]) (rest := []) ⟨hx, hb, hml, hown, hts⟩ hE hP hD hS hA rfl rfl rfl (c_X7_change l Γ _ q0 q1 q2 q3 q4 q5 q6 d0 d1 d2 d3 d4 d5 d6 plate_columns plate_rows plate_numbers plate_figure plate_grains history_known had pW pH pN pF pG x1 x2 r_7 plate_numbers_8 history_known_9 had_10 pW_11 pH_12 pN_13 pF_14 pG_15 hq_16) (cwV 2 hts gX7_sets_X7_change rfl rfl rfl (by decide +kernel) ⟨Nat.le_of_ble_eq_true rfl, Nat.le_of_ble_eq_true rfl⟩) (va_recv (ci := 7) (q0 := 0) hK hP rfl rfl) rfl hl.1 rfl (Nat.le_of_ble_eq_true rfl) dX7_sets_33 ⟨Nat.zero_le _, Nat.zero_le _⟩ (fun H locs hP hD hS => ?_)
          have hP : va_P Γ.1 vwCl (wd_X7_sets Γ q0 q1 q2 q3 q4 q5 q6 d0 d1 d2 d3 d4 d5 d6 plate_columns plate_rows plate_numbers_8 plate_figure plate_grains history_known_9 had_10 pW_11 pH_12 pN_13 pF_14 pG_15) H := hP
          have hD : va_D A (wd_X7_sets Γ q0 q1 q2 q3 q4 q5 q6 d0 d1 d2 d3 d4 d5 d6 plate_columns plate_rows plate_numbers_8 plate_figure plate_grains history_known_9 had_10 pW_11 pH_12 pN_13 pF_14 pG_15) := hD
          subst hout; obtain ⟨rfl, rfl, rfl, rfl, rfl, rfl, rfl, rfl, rfl⟩ := rt9 hf
          subst hQQ
          exact W.iret hx hb hr (fun t ht hW => ⟨⟨_, (), rfl, rfl, by rw [ht]; exact hP, hD⟩, hS.F ht⟩) hS.2.2 dX7_sets_36
        · have hf := vm_neg hc_6 hf
          exact K_28 plate_numbers history_known had pW pH pN pF pG hP hD hS (lv_sub hl [] rfl) hf
def wd_X7_drives (Γ : GE) (q0 q1 q2 q3 q4 q5 q6 d0 d1 d2 d3 d4 d5 d6 : Nat) (plate_columns : Int32) (plate_rows : Int32) (plate_numbers : Nat → Int32) (plate_figure : Nat → Int32) (plate_grains : Nat → Int32) (history_known : Int32) (had : Nat → Nat) (pW : Nat → Int32) (pH : Nat → Int32) (pN : Nat → Nat → Int32) (pF : Nat → Nat → Int32) (pG : Nat → Nat → Int32) : va_W := [(q0, .inr (7, [.ref q1, .ref q5, .ref d0, .ref d1, .ref d2, .ref d3, .ref d4, .ref d5, .ref d6])), (q1, .inr (2, [.int plate_columns, .int plate_rows, .ref q2, .ref q3, .ref q4])), (q2, .inl (Γ.2.1 0, 7, .inl plate_numbers)), (q3, .inl (Γ.2.1 0, 36, .inl plate_figure)), (q4, .inl (Γ.2.1 0, 36, .inl plate_grains)), (q5, .inr (0, [.ref q6, .int history_known]))] ++ (segH Γ q6 had pW pH pN pF pG)
def f_X7_drives_25 (plate_numbers : Nat → Int32) (history_known : Int32) (had : Nat → Nat) (pW : Nat → Int32) (pH : Nat → Int32) (pN : Nat → Nat → Int32) (pF : Nat → Nat → Int32) (pG : Nat → Nat → Int32) (s0 : Int32) : Option (Int32 × (Nat → Int32) × Int32 × (Nat → Nat) × (Nat → Int32) × (Nat → Int32) × (Nat → Nat → Int32) × (Nat → Nat → Int32) × (Nat → Nat → Int32)) := some (s0, plate_numbers, history_known, had, pW, pH, pN, pF, pG)
def f_X7_drives (plate_columns : Int32) (plate_rows : Int32) (plate_numbers : Nat → Int32) (plate_figure : Nat → Int32) (plate_grains : Nat → Int32) (history_known : Int32) (had : Nat → Nat) (pW : Nat → Int32) (pH : Nat → Int32) (pN : Nat → Nat → Int32) (pF : Nat → Nat → Int32) (pG : Nat → Nat → Int32) (x1 : Int32) (x2 : Int32) : Option (Int32 × (Nat → Int32) × Int32 × (Nat → Nat) × (Nat → Int32) × (Nat → Int32) × (Nat → Nat → Int32) × (Nat → Nat → Int32) × (Nat → Nat → Int32)) := ob1 (f_X2_cellAt plate_columns plate_rows x1 x2) (fun r_1 => if 0 ≤ r_1 then (ob9 (f_X7_change plate_columns plate_rows plate_numbers plate_figure plate_grains history_known had pW pH pN pF pG 6 r_1) (fun r_4 plate_numbers_5 history_known_6 had_7 pW_8 pH_9 pN_10 pF_11 pG_12 => f_X7_drives_25 plate_numbers_5 history_known_6 had_7 pW_8 pH_9 pN_10 pF_11 pG_12 r_4)) else (f_X7_drives_25 plate_numbers history_known had pW pH pN pF pG (-1)))
set_option maxHeartbeats 4000000 in
set_option maxRecDepth 100000 in
theorem c_X7_drives (l : Launch) (Γ : GE) (sz : Nat) (q0 q1 q2 q3 q4 q5 q6 d0 d1 d2 d3 d4 d5 d6 : Nat) (plate_columns : Int32) (plate_rows : Int32) (plate_numbers : Nat → Int32) (plate_figure : Nat → Int32) (plate_grains : Nat → Int32) (history_known : Int32) (had : Nat → Nat) (pW : Nat → Int32) (pH : Nat → Int32) (pN : Nat → Nat → Int32) (pF : Nat → Nat → Int32) (pG : Nat → Nat → Int32) (x1 : Int32) (x2 : Int32) (ro : Int32) (o_plate_numbers : Nat → Int32) (o_history_known : Int32) (o_had : Nat → Nat) (o_pW : Nat → Int32) (o_pH : Nat → Int32) (o_pN : Nat → Nat → Int32) (o_pF : Nat → Nat → Int32) (o_pG : Nat → Nat → Int32) (hf : f_X7_drives plate_columns plate_rows plate_numbers plate_figure plate_grains history_known had pW pH pN pF pG x1 x2 = some (ro, o_plate_numbers, o_history_known, o_had, o_pW, o_pH, o_pN, o_pF, o_pG)) : MetI l yX7_drives wsX7_drives ({ frames := 4, cells := 0, slots := 0, locals := 113 } : Room) Γ [.ref q0, .int x1, .int x2] (wd_X7_drives Γ q0 q1 q2 q3 q4 q5 q6 d0 d1 d2 d3 d4 d5 d6 plate_columns plate_rows plate_numbers plate_figure plate_grains history_known had pW pH pN pF pG) (wd_X7_drives Γ q0 q1 q2 q3 q4 q5 q6 d0 d1 d2 d3 d4 d5 d6 plate_columns plate_rows o_plate_numbers plate_figure plate_grains o_history_known o_had o_pW o_pH o_pN o_pF o_pG) sz ro := by
  refine Met.ofW (cc := cX7_drives) (maxL := 4) (ret := (some .int)) (by decide) rfl ?_
  intro p e s m args below meth c s₁ B hml hv
  obtain ⟨rfl, hsz, hE, hP, hD⟩ := hv
  have hx := B.exec
  have hb := B.bytes
  have hr := B.returns
  have hts := atoms_spec (ws := wsX7_drives) B.pre
  have hown : s.vm.findClass RX7 = some m.cls := findClass_of_methodNamed B.named
  have hlocks := B.notSynchronized
  subst hsz
  generalize hAe : va_A (wd_X7_drives Γ q0 q1 q2 q3 q4 q5 q6 d0 d1 d2 d3 d4 d5 d6 plate_columns plate_rows plate_numbers plate_figure plate_grains history_known had pW pH pN pF pG) s.heap.size = A at hE hD ⊢
  have hA : ∀ q : Nat, s.heap.size ≤ q → A q := fun q h => by rw [← hAe]; exact Or.inr h
  clear hAe
  have hS : va_S A s.heap s.heap [] := va_S.rf
  have hK := hE.1
  have hl := lv_entry ([.ref q0, .int x1, .int x2]) (n := 4) (Nat.le_of_ble_eq_true rfl)
  rw [lg_entry_eq]
  generalize (lg_sl ([.ref q0, .int x1, .int x2]) ++ List.replicate (4 - (lg_sl ([.ref q0, .int x1, .int x2])).length) Slot.unset).toArray = ls at hl ⊢
  have hl : lv_has ls 4 [(0, .ref q0), (1, .int x1), (2, .int x2)] := hl
  have hi0 : ∀ w ∈ u_ws RX0 TX0 2, w ∈ wsX7_drives := fun w h => (List.mem_cons_of_mem _ (List.mem_append_right _ h))
  have hi2 : ∀ w ∈ u_ws RX2 TX2 5, w ∈ wsX7_drives := fun w h => (List.mem_cons_of_mem _ (List.mem_append_left _ (List.mem_append_right _ h)))
  have hi7 : ∀ w ∈ u_ws RX7 TX7 9, w ∈ wsX7_drives := fun w h => (List.mem_cons_of_mem _ (List.mem_append_left _ (List.mem_append_left _ (List.mem_append_right _ h))))
  obtain ⟨out, hout⟩ : ∃ o, o = (ro, o_plate_numbers, o_history_known, o_had, o_pW, o_pH, o_pN, o_pF, o_pG) := ⟨_, rfl⟩
  rw [← hout] at hf
  obtain ⟨QQ, hQQ⟩ : ∃ Q, Q = MQ below (va_Qi (fun (r' : Int32) (_ : Unit) => r' = ro) (CQ Γ (wd_X7_drives Γ q0 q1 q2 q3 q4 q5 q6 d0 d1 d2 d3 d4 d5 d6 plate_columns plate_rows o_plate_numbers plate_figure plate_grains o_history_known o_had o_pW o_pH o_pN o_pF o_pG) A) A) (([.ref q0, .int x1, .int x2] : List Value).toArray) s 0 0 A := ⟨_, rfl⟩
  show W p l e ({ frames := 4, cells := 0, slots := 0, locals := 113 } : Room) s m (([.ref q0, .int x1, .int x2] : List Value).toArray) below meth c s.heap [] 0 0 (MQ below _ (([.ref q0, .int x1, .int x2] : List Value).toArray) s 0 0 A) (F0 m 0 ls [])
  rw [← hQQ]
  have K_25 : ∀ (plate_numbers : Nat → Int32) (history_known : Int32) (had : Nat → Nat) (pW : Nat → Int32) (pH : Nat → Int32) (pN : Nat → Nat → Int32) (pF : Nat → Nat → Int32) (pG : Nat → Nat → Int32) (s0 : Int32) {H : Heap} {locs : List Loc} {ls : Array Slot}, va_P Γ.1 vwCl (wd_X7_drives Γ q0 q1 q2 q3 q4 q5 q6 d0 d1 d2 d3 d4 d5 d6 plate_columns plate_rows plate_numbers plate_figure plate_grains history_known had pW pH pN pF pG) H → va_D A (wd_X7_drives Γ q0 q1 q2 q3 q4 q5 q6 d0 d1 d2 d3 d4 d5 d6 plate_columns plate_rows plate_numbers plate_figure plate_grains history_known had pW pH pN pF pG) → va_S A s.heap H locs → lv_has ls 4 [] → f_X7_drives_25 plate_numbers history_known had pW pH pN pF pG s0 = some out → W p l e ({ frames := 4, cells := 0, slots := 0, locals := 113 } : Room) s m ([.ref q0, .int x1, .int x2] : List Value).toArray below meth c H locs 0 0 QQ (F0 m 25 ls [.int s0]) := by
    intro plate_numbers history_known had pW pH pN pF pG s0 H locs ls hP hD hS hl hf
    unfold f_X7_drives_25 at hf
    subst hout; obtain ⟨rfl, rfl, rfl, rfl, rfl, rfl, rfl, rfl, rfl⟩ := rt9 hf
    subst hQQ
    exact W.iret hx hb hr (fun t ht hW => ⟨⟨_, (), rfl, rfl, by rw [ht]; exact hP, hD⟩, hS.F ht⟩) hS.2.2 dX7_drives_25
  unfold f_X7_drives at hf
  refine lv_aload_n hx hb dX7_drives_0 rfl (lv_at hl 0 rfl) ?_
  refine va_get (D := Γ.1) (ci := 7) (v := .ref q1) (C := RX7) (T := TX7) (N := 9) hx hb hts hi7 hown hK hP 0 rfl rfl 0 (by decide) (hts (.fieldLink RX7 10 "SandPlates" "plate" "LSandPlates$Plate;") (List.mem_of_getElem? (i := 1) rfl)) (fun _ h9 => h9) rfl dX7_drives_1 ?_
  refine lv_iload_n hx hb dX7_drives_4 rfl (lv_at hl 1 rfl) ?_
  refine lv_iload_n hx hb dX7_drives_5 rfl (lv_at hl 2 rfl) ?_
  obtain ⟨r_1, hq_2, hf⟩ := ob1_some hf
  refine vm_cNi (isC := [1]) (wc := (wd_X2_cellAt Γ q1 q2 q3 q4 plate_columns plate_rows)) (w1 := (wd_X2_cellAt Γ q1 q2 q3 q4 plate_columns plate_rows)) (As := [.int x1, .int x2]) (rest := []) ⟨hx, hb, hml, hown, hts⟩ hE hP hD hS hA rfl rfl rfl (c_X2_cellAt l Γ _ q1 q2 q3 q4 plate_columns plate_rows x1 x2 r_1 hq_2) ⟨va_cnB 2 hts ggX7_drives_X2_cellAt rfl rfl rfl (nmX7_111 hE.2.1) (hts (.initialized RX2) (List.mem_of_getElem? (i := 3) rfl)) (by decide +kernel) ⟨Nat.le_of_ble_eq_true rfl, Nat.le_of_ble_eq_true rfl⟩, (hts (.instanceMethod yX2_cellAt) (List.mem_of_getElem? (i := 2) rfl)), (hts (.selects RX2 yX2_cellAt yX2_cellAt) (List.mem_of_getElem? (i := 4) rfl))⟩ (va_recv (ci := 2) (q0 := 1) hK hP rfl rfl) rfl hl.1 rfl (Nat.le_of_ble_eq_true rfl) dX7_drives_6 ⟨Nat.zero_le _, Nat.zero_le _⟩ (fun H locs hP hD hS => ?_)
  have hP : va_P Γ.1 vwCl (wd_X7_drives Γ q0 q1 q2 q3 q4 q5 q6 d0 d1 d2 d3 d4 d5 d6 plate_columns plate_rows plate_numbers plate_figure plate_grains history_known had pW pH pN pF pG) H := hP
  have hD : va_D A (wd_X7_drives Γ q0 q1 q2 q3 q4 q5 q6 d0 d1 d2 d3 d4 d5 d6 plate_columns plate_rows plate_numbers plate_figure plate_grains history_known had pW pH pN pF pG) := hD
  refine lv_istore_n (lv' := [(3, .int r_1), (0, .ref q0), (1, .int x1), (2, .int x2)]) hx hb dX7_drives_9 rfl hl (by decide) rfl (fun ls hl => ?_)
  refine lv_iload_n hx hb dX7_drives_10 rfl (lv_at hl 0 rfl) ?_
  refine lv_if_ge (tgt := 18) hx hb dX7_drives_11 (by decide) (fun hc_3 => ?_) (fun hc_3 => ?_)
  · have hf := vm_pos hc_3 hf
    refine lv_aload_n hx hb dX7_drives_18 rfl (lv_at hl 1 rfl) ?_
    refine lv_bipush (v := 6) hx hb dX7_drives_19 (by decide) ?_
    refine lv_iload_n hx hb dX7_drives_21 rfl (lv_at hl 0 rfl) ?_
    obtain ⟨r_4, plate_numbers_5, history_known_6, had_7, pW_8, pH_9, pN_10, pF_11, pG_12, hq_13, hf⟩ := ob9_some hf
    refine vm_dVi (isC := [0, 1, 2, 3, 4, 5, 6, 7, 8, 9, 10, 11, 12, 13, 14, 15, 16, 17, 18, 19, 20, 21, 22, 23, 24, 25, 26, 27, 28, 29, 30]) (wc := (wd_X7_change Γ q0 q1 q2 q3 q4 q5 q6 d0 d1 d2 d3 d4 d5 d6 plate_columns plate_rows plate_numbers plate_figure plate_grains history_known had pW pH pN pF pG)) (w1 := (wd_X7_change Γ q0 q1 q2 q3 q4 q5 q6 d0 d1 d2 d3 d4 d5 d6 plate_columns plate_rows plate_numbers_5 plate_figure plate_grains history_known_6 had_7 pW_8 pH_9 pN_10 pF_11 pG_12)) (W' := (wd_X7_drives Γ q0 q1 q2 q3 q4 q5 q6 d0 d1 d2 d3 d4 d5 d6 plate_columns plate_rows plate_numbers_5 plate_figure plate_grains history_known_6 had_7 pW_8 pH_9 pN_10 pF_11 pG_12)) (N := 31) (As := [.int 6, .int r_1]) (rest := []) ⟨hx, hb, hml, hown, hts⟩ hE hP hD hS hA rfl rfl rfl (c_X7_change l Γ _ q0 q1 q2 q3 q4 q5 q6 d0 d1 d2 d3 d4 d5 d6 plate_columns plate_rows plate_numbers plate_figure plate_grains history_known had pW pH pN pF pG 6 r_1 r_4 plate_numbers_5 history_known_6 had_7 pW_8 pH_9 pN_10 pF_11 pG_12 hq_13) (cwV 2 hts gX7_drives_X7_change rfl rfl rfl (by decide +kernel) ⟨Nat.le_of_ble_eq_true rfl, Nat.le_of_ble_eq_true rfl⟩) (va_recv (ci := 7) (q0 := 0) hK hP rfl rfl) rfl hl.1 rfl (Nat.le_of_ble_eq_true rfl) dX7_drives_22 ⟨Nat.zero_le _, Nat.zero_le _⟩ (fun H locs hP hD hS => ?_)
    have hP : va_P Γ.1 vwCl (wd_X7_drives Γ q0 q1 q2 q3 q4 q5 q6 d0 d1 d2 d3 d4 d5 d6 plate_columns plate_rows plate_numbers_5 plate_figure plate_grains history_known_6 had_7 pW_8 pH_9 pN_10 pF_11 pG_12) H := hP
    have hD : va_D A (wd_X7_drives Γ q0 q1 q2 q3 q4 q5 q6 d0 d1 d2 d3 d4 d5 d6 plate_columns plate_rows plate_numbers_5 plate_figure plate_grains history_known_6 had_7 pW_8 pH_9 pN_10 pF_11 pG_12) := hD
    exact K_25 plate_numbers_5 history_known_6 had_7 pW_8 pH_9 pN_10 pF_11 pG_12 r_4 hP hD hS (lv_sub hl [] rfl) hf
  · have hf := vm_neg hc_3 hf
    refine lv_iconst (v := (-1)) hx hb dX7_drives_14 (by decide) ?_
    refine lv_goto (tgt := 25) hx hb dX7_drives_15 (by decide) ?_
    exact K_25 plate_numbers history_known had pW pH pN pF pG (-1) hP hD hS (lv_sub hl [] rfl) hf
def wd_X7_draws (Γ : GE) (q0 q1 q2 q3 q4 q5 q6 d0 d1 d2 d3 d4 d5 d6 : Nat) (plate_columns : Int32) (plate_rows : Int32) (plate_numbers : Nat → Int32) (plate_figure : Nat → Int32) (plate_grains : Nat → Int32) (history_known : Int32) (had : Nat → Nat) (pW : Nat → Int32) (pH : Nat → Int32) (pN : Nat → Nat → Int32) (pF : Nat → Nat → Int32) (pG : Nat → Nat → Int32) : va_W := [(q0, .inr (7, [.ref q1, .ref q5, .ref d0, .ref d1, .ref d2, .ref d3, .ref d4, .ref d5, .ref d6])), (q1, .inr (2, [.int plate_columns, .int plate_rows, .ref q2, .ref q3, .ref q4])), (q2, .inl (Γ.2.1 0, 7, .inl plate_numbers)), (q3, .inl (Γ.2.1 0, 36, .inl plate_figure)), (q4, .inl (Γ.2.1 0, 36, .inl plate_grains)), (q5, .inr (0, [.ref q6, .int history_known]))] ++ (segH Γ q6 had pW pH pN pF pG)
def f_X7_draws_25 (plate_figure : Nat → Int32) (history_known : Int32) (had : Nat → Nat) (pW : Nat → Int32) (pH : Nat → Int32) (pN : Nat → Nat → Int32) (pF : Nat → Nat → Int32) (pG : Nat → Nat → Int32) : Option (Int32 × (Nat → Int32) × Int32 × (Nat → Nat) × (Nat → Int32) × (Nat → Int32) × (Nat → Nat → Int32) × (Nat → Nat → Int32) × (Nat → Nat → Int32)) := some ((-1), plate_figure, history_known, had, pW, pH, pN, pF, pG)
def f_X7_draws (plate_columns : Int32) (plate_rows : Int32) (plate_numbers : Nat → Int32) (plate_figure : Nat → Int32) (plate_grains : Nat → Int32) (history_known : Int32) (had : Nat → Nat) (pW : Nat → Int32) (pH : Nat → Int32) (pN : Nat → Nat → Int32) (pF : Nat → Nat → Int32) (pG : Nat → Nat → Int32) (x1 : Int32) (x2 : Int32) (x3 : Int32) : Option (Int32 × (Nat → Int32) × Int32 × (Nat → Nat) × (Nat → Int32) × (Nat → Int32) × (Nat → Nat → Int32) × (Nat → Nat → Int32) × (Nat → Nat → Int32)) := ob1 (f_X2_cellAt plate_columns plate_rows x1 x2) (fun r_1 => if r_1 < 0 then (f_X7_draws_25 plate_figure history_known had pW pH pN pF pG) else (if x3 < 0 then (f_X7_draws_25 plate_figure history_known had pW pH pN pF pG) else (if x3 ≤ 1 then (if inb r_1 36 = true then if (plate_figure (r_1.toNatClampNeg)) = x3 then (some ((-2), plate_figure, history_known, had, pW, pH, pN, pF, pG)) else (ob7 (f_X0_record history_known had pW pH pN pF pG plate_columns plate_rows plate_numbers plate_figure plate_grains) (fun history_known_8 had_9 pW_10 pH_11 pN_12 pF_13 pG_14 => if inb r_1 36 = true then ob1 (f_X2_cellsOfFigure plate_columns plate_rows (upd plate_figure (r_1.toNatClampNeg) x3)) (fun r_17 => some (r_17, (upd plate_figure (r_1.toNatClampNeg) x3), history_known_8, had_9, pW_10, pH_11, pN_12, pF_13, pG_14)) else none)) else none) else (f_X7_draws_25 plate_figure history_known had pW pH pN pF pG))))
set_option maxHeartbeats 4000000 in
set_option maxRecDepth 100000 in
theorem c_X7_draws (l : Launch) (Γ : GE) (sz : Nat) (q0 q1 q2 q3 q4 q5 q6 d0 d1 d2 d3 d4 d5 d6 : Nat) (plate_columns : Int32) (plate_rows : Int32) (plate_numbers : Nat → Int32) (plate_figure : Nat → Int32) (plate_grains : Nat → Int32) (history_known : Int32) (had : Nat → Nat) (pW : Nat → Int32) (pH : Nat → Int32) (pN : Nat → Nat → Int32) (pF : Nat → Nat → Int32) (pG : Nat → Nat → Int32) (x1 : Int32) (x2 : Int32) (x3 : Int32) (ro : Int32) (o_plate_figure : Nat → Int32) (o_history_known : Int32) (o_had : Nat → Nat) (o_pW : Nat → Int32) (o_pH : Nat → Int32) (o_pN : Nat → Nat → Int32) (o_pF : Nat → Nat → Int32) (o_pG : Nat → Nat → Int32) (hf : f_X7_draws plate_columns plate_rows plate_numbers plate_figure plate_grains history_known had pW pH pN pF pG x1 x2 x3 = some (ro, o_plate_figure, o_history_known, o_had, o_pW, o_pH, o_pN, o_pF, o_pG)) : MetI l yX7_draws wsX7_draws ({ frames := 3, cells := 0, slots := 0, locals := 90 } : Room) Γ [.ref q0, .int x1, .int x2, .int x3] (wd_X7_draws Γ q0 q1 q2 q3 q4 q5 q6 d0 d1 d2 d3 d4 d5 d6 plate_columns plate_rows plate_numbers plate_figure plate_grains history_known had pW pH pN pF pG) (wd_X7_draws Γ q0 q1 q2 q3 q4 q5 q6 d0 d1 d2 d3 d4 d5 d6 plate_columns plate_rows plate_numbers o_plate_figure plate_grains o_history_known o_had o_pW o_pH o_pN o_pF o_pG) sz ro := by
  refine Met.ofW (cc := cX7_draws) (maxL := 5) (ret := (some .int)) (by decide) rfl ?_
  intro p e s m args below meth c s₁ B hml hv
  obtain ⟨rfl, hsz, hE, hP, hD⟩ := hv
  have hx := B.exec
  have hb := B.bytes
  have hr := B.returns
  have hts := atoms_spec (ws := wsX7_draws) B.pre
  have hown : s.vm.findClass RX7 = some m.cls := findClass_of_methodNamed B.named
  have hlocks := B.notSynchronized
  subst hsz
  generalize hAe : va_A (wd_X7_draws Γ q0 q1 q2 q3 q4 q5 q6 d0 d1 d2 d3 d4 d5 d6 plate_columns plate_rows plate_numbers plate_figure plate_grains history_known had pW pH pN pF pG) s.heap.size = A at hE hD ⊢
  have hA : ∀ q : Nat, s.heap.size ≤ q → A q := fun q h => by rw [← hAe]; exact Or.inr h
  clear hAe
  have hS : va_S A s.heap s.heap [] := va_S.rf
  have hK := hE.1
  have hl := lv_entry ([.ref q0, .int x1, .int x2, .int x3]) (n := 5) (Nat.le_of_ble_eq_true rfl)
  rw [lg_entry_eq]
  generalize (lg_sl ([.ref q0, .int x1, .int x2, .int x3]) ++ List.replicate (5 - (lg_sl ([.ref q0, .int x1, .int x2, .int x3])).length) Slot.unset).toArray = ls at hl ⊢
  have hl : lv_has ls 5 [(0, .ref q0), (1, .int x1), (2, .int x2), (3, .int x3)] := hl
  have hi0 : ∀ w ∈ u_ws RX0 TX0 2, w ∈ wsX7_draws := fun w h => (List.mem_cons_of_mem _ (List.mem_append_right _ h))
  have hi2 : ∀ w ∈ u_ws RX2 TX2 5, w ∈ wsX7_draws := fun w h => (List.mem_cons_of_mem _ (List.mem_append_left _ (List.mem_append_right _ h)))
  have hi7 : ∀ w ∈ u_ws RX7 TX7 9, w ∈ wsX7_draws := fun w h => (List.mem_cons_of_mem _ (List.mem_append_left _ (List.mem_append_left _ (List.mem_append_right _ h))))
  obtain ⟨out, hout⟩ : ∃ o, o = (ro, o_plate_figure, o_history_known, o_had, o_pW, o_pH, o_pN, o_pF, o_pG) := ⟨_, rfl⟩
  rw [← hout] at hf
  obtain ⟨QQ, hQQ⟩ : ∃ Q, Q = MQ below (va_Qi (fun (r' : Int32) (_ : Unit) => r' = ro) (CQ Γ (wd_X7_draws Γ q0 q1 q2 q3 q4 q5 q6 d0 d1 d2 d3 d4 d5 d6 plate_columns plate_rows plate_numbers o_plate_figure plate_grains o_history_known o_had o_pW o_pH o_pN o_pF o_pG) A) A) (([.ref q0, .int x1, .int x2, .int x3] : List Value).toArray) s 0 0 A := ⟨_, rfl⟩
  show W p l e ({ frames := 3, cells := 0, slots := 0, locals := 90 } : Room) s m (([.ref q0, .int x1, .int x2, .int x3] : List Value).toArray) below meth c s.heap [] 0 0 (MQ below _ (([.ref q0, .int x1, .int x2, .int x3] : List Value).toArray) s 0 0 A) (F0 m 0 ls [])
  rw [← hQQ]
  have K_25 : ∀ (plate_figure : Nat → Int32) (history_known : Int32) (had : Nat → Nat) (pW : Nat → Int32) (pH : Nat → Int32) (pN : Nat → Nat → Int32) (pF : Nat → Nat → Int32) (pG : Nat → Nat → Int32) {H : Heap} {locs : List Loc} {ls : Array Slot}, va_P Γ.1 vwCl (wd_X7_draws Γ q0 q1 q2 q3 q4 q5 q6 d0 d1 d2 d3 d4 d5 d6 plate_columns plate_rows plate_numbers plate_figure plate_grains history_known had pW pH pN pF pG) H → va_D A (wd_X7_draws Γ q0 q1 q2 q3 q4 q5 q6 d0 d1 d2 d3 d4 d5 d6 plate_columns plate_rows plate_numbers plate_figure plate_grains history_known had pW pH pN pF pG) → va_S A s.heap H locs → lv_has ls 5 [] → f_X7_draws_25 plate_figure history_known had pW pH pN pF pG = some out → W p l e ({ frames := 3, cells := 0, slots := 0, locals := 90 } : Room) s m ([.ref q0, .int x1, .int x2, .int x3] : List Value).toArray below meth c H locs 0 0 QQ (F0 m 25 ls []) := by
    intro plate_figure history_known had pW pH pN pF pG H locs ls hP hD hS hl hf
    unfold f_X7_draws_25 at hf
    refine lv_iconst (v := (-1)) hx hb dX7_draws_25 (by decide) ?_
    subst hout; obtain ⟨rfl, rfl, rfl, rfl, rfl, rfl, rfl, rfl, rfl⟩ := rt9 hf
    subst hQQ
    exact W.iret hx hb hr (fun t ht hW => ⟨⟨_, (), rfl, rfl, by rw [ht]; exact hP, hD⟩, hS.F ht⟩) hS.2.2 dX7_draws_26
  unfold f_X7_draws at hf
  refine lv_aload_n hx hb dX7_draws_0 rfl (lv_at hl 0 rfl) ?_
  refine va_get (D := Γ.1) (ci := 7) (v := .ref q1) (C := RX7) (T := TX7) (N := 9) hx hb hts hi7 hown hK hP 0 rfl rfl 0 (by decide) (hts (.fieldLink RX7 10 "SandPlates" "plate" "LSandPlates$Plate;") (List.mem_of_getElem? (i := 1) rfl)) (fun _ h9 => h9) rfl dX7_draws_1 ?_
  refine lv_iload_n hx hb dX7_draws_4 rfl (lv_at hl 1 rfl) ?_
  refine lv_iload_n hx hb dX7_draws_5 rfl (lv_at hl 2 rfl) ?_
  obtain ⟨r_1, hq_2, hf⟩ := ob1_some hf
  refine vm_cNi (isC := [1]) (wc := (wd_X2_cellAt Γ q1 q2 q3 q4 plate_columns plate_rows)) (w1 := (wd_X2_cellAt Γ q1 q2 q3 q4 plate_columns plate_rows)) (As := [.int x1, .int x2]) (rest := []) ⟨hx, hb, hml, hown, hts⟩ hE hP hD hS hA rfl rfl rfl (c_X2_cellAt l Γ _ q1 q2 q3 q4 plate_columns plate_rows x1 x2 r_1 hq_2) ⟨va_cnB 2 hts ggX7_draws_X2_cellAt rfl rfl rfl (nmX7_111 hE.2.1) (hts (.initialized RX2) (List.mem_of_getElem? (i := 4) rfl)) (by decide +kernel) ⟨Nat.le_of_ble_eq_true rfl, Nat.le_of_ble_eq_true rfl⟩, (hts (.instanceMethod yX2_cellAt) (List.mem_of_getElem? (i := 3) rfl)), (hts (.selects RX2 yX2_cellAt yX2_cellAt) (List.mem_of_getElem? (i := 5) rfl))⟩ (va_recv (ci := 2) (q0 := 1) hK hP rfl rfl) rfl hl.1 rfl (Nat.le_of_ble_eq_true rfl) dX7_draws_6 ⟨Nat.zero_le _, Nat.zero_le _⟩ (fun H locs hP hD hS => ?_)
  have hP : va_P Γ.1 vwCl (wd_X7_draws Γ q0 q1 q2 q3 q4 q5 q6 d0 d1 d2 d3 d4 d5 d6 plate_columns plate_rows plate_numbers plate_figure plate_grains history_known had pW pH pN pF pG) H := hP
  have hD : va_D A (wd_X7_draws Γ q0 q1 q2 q3 q4 q5 q6 d0 d1 d2 d3 d4 d5 d6 plate_columns plate_rows plate_numbers plate_figure plate_grains history_known had pW pH pN pF pG) := hD
  refine lv_istore (lv' := [(4, .int r_1), (0, .ref q0), (1, .int x1), (2, .int x2), (3, .int x3)]) hx hb dX7_draws_9 hl (by decide) rfl (fun ls hl => ?_)
  refine lv_iload hx hb dX7_draws_11 (lv_at hl 0 rfl) ?_
  refine lv_if_lt (tgt := 25) hx hb dX7_draws_13 (by decide) (fun hc_3 => ?_) (fun hc_3 => ?_)
  · have hf := vm_pos hc_3 hf
    exact K_25 plate_figure history_known had pW pH pN pF pG hP hD hS (lv_sub hl [] rfl) hf
  · have hf := vm_neg hc_3 hf
    refine lv_iload_n hx hb dX7_draws_16 rfl (lv_at hl 4 rfl) ?_
    refine lv_if_lt (tgt := 25) hx hb dX7_draws_17 (by decide) (fun hc_4 => ?_) (fun hc_4 => ?_)
    · have hf := vm_pos hc_4 hf
      exact K_25 plate_figure history_known had pW pH pN pF pG hP hD hS (lv_sub hl [] rfl) hf
    · have hf := vm_neg hc_4 hf
      refine lv_iload_n hx hb dX7_draws_20 rfl (lv_at hl 4 rfl) ?_
      refine lv_iconst (v := 1) hx hb dX7_draws_21 (by decide) ?_
      refine lv_icmp_le (tgt := 27) hx hb dX7_draws_22 (by decide) (fun hc_5 => ?_) (fun hc_5 => ?_)
      · have hf := vm_pos hc_5 hf
        refine lv_aload_n hx hb dX7_draws_27 rfl (lv_at hl 1 rfl) ?_
        refine va_get (D := Γ.1) (ci := 7) (v := .ref q1) (C := RX7) (T := TX7) (N := 9) hx hb hts hi7 hown hK hP 0 rfl rfl 0 (by decide) (hts (.fieldLink RX7 10 "SandPlates" "plate" "LSandPlates$Plate;") (List.mem_of_getElem? (i := 1) rfl)) (fun _ h9 => h9) rfl dX7_draws_28 ?_
        refine va_getN (D := Γ.1) (ci := 2) (v := .ref q3) (C := RX2) (T := TX2) (N := 5) hx hb hts hi2 hown hK hP 1 rfl rfl 3 (by decide) (va_Nw.use rfl (nfX7_114 hE.2.1)) (fun _ h9 => h9) rfl dX7_draws_31 ?_
        refine lv_iload hx hb dX7_draws_34 (lv_at hl 0 rfl) ?_
        obtain ⟨hc_6, hf⟩ := vm_ck hf
        refine vm_iald hx hb hK hP 3 0 rfl rfl hc_6 (j := r_1.toNatClampNeg) rfl dX7_draws_36 ?_
        refine lv_iload_n hx hb dX7_draws_37 rfl (lv_at hl 4 rfl) ?_
        refine lv_icmp_ne (tgt := 44) hx hb dX7_draws_38 (by decide) (fun hc_7 => ?_) (fun hc_7 => ?_)
        · have hf := vm_neg hc_7 hf
          refine lv_aload_n hx hb dX7_draws_44 rfl (lv_at hl 1 rfl) ?_
          refine va_get (D := Γ.1) (ci := 7) (v := .ref q5) (C := RX7) (T := TX7) (N := 9) hx hb hts hi7 hown hK hP 0 rfl rfl 1 (by decide) (hts (.fieldLink RX7 19 "SandPlates" "history" "LSandPlates$History;") (List.mem_of_getElem? (i := 2) rfl)) (fun _ h9 => h9) rfl dX7_draws_45 ?_
          refine lv_aload_n hx hb dX7_draws_48 rfl (lv_at hl 1 rfl) ?_
          refine va_get (D := Γ.1) (ci := 7) (v := .ref q1) (C := RX7) (T := TX7) (N := 9) hx hb hts hi7 hown hK hP 0 rfl rfl 0 (by decide) (hts (.fieldLink RX7 10 "SandPlates" "plate" "LSandPlates$Plate;") (List.mem_of_getElem? (i := 1) rfl)) (fun _ h9 => h9) rfl dX7_draws_49 ?_
          obtain ⟨history_known_8, had_9, pW_10, pH_11, pN_12, pF_13, pG_14, hq_15, hf⟩ := ob7_some hf
          refine vm_dNv (isC := [5, 6, 7, 8, 9, 10, 11, 12, 13, 14, 15, 16, 17, 18, 19, 20, 21, 22, 23, 24, 25, 26, 27, 28, 29, 30, 1, 2, 3, 4]) (wc := (wd_X0_record Γ q5 q6 q1 q2 q3 q4 history_known had pW pH pN pF pG plate_columns plate_rows plate_numbers plate_figure plate_grains)) (w1 := (wd_X0_record Γ q5 q6 q1 q2 q3 q4 history_known_8 had_9 pW_10 pH_11 pN_12 pF_13 pG_14 plate_columns plate_rows plate_numbers plate_figure plate_grains)) (W' := (wd_X7_draws Γ q0 q1 q2 q3 q4 q5 q6 d0 d1 d2 d3 d4 d5 d6 plate_columns plate_rows plate_numbers plate_figure plate_grains history_known_8 had_9 pW_10 pH_11 pN_12 pF_13 pG_14)) (N := 31) (As := [.ref q1]) (rest := []) ⟨hx, hb, hml, hown, hts⟩ hE hP hD hS hA rfl rfl rfl (c_X0_record l Γ _ q5 q6 q1 q2 q3 q4 history_known had pW pH pN pF pG plate_columns plate_rows plate_numbers plate_figure plate_grains history_known_8 had_9 pW_10 pH_11 pN_12 pF_13 pG_14 hq_15) ⟨va_cnB 1 hts ggX7_draws_X0_record rfl rfl rfl (nmX7_81 hE.2.1) (hts (.initialized RX0) (List.mem_of_getElem? (i := 10) rfl)) (by decide +kernel) ⟨Nat.le_of_ble_eq_true rfl, Nat.le_of_ble_eq_true rfl⟩, (hts (.instanceMethod yX0_record) (List.mem_of_getElem? (i := 9) rfl)), (hts (.selects RX0 yX0_record yX0_record) (List.mem_of_getElem? (i := 11) rfl))⟩ (va_recv (ci := 0) (q0 := 5) hK hP rfl rfl) rfl hl.1 rfl (Nat.le_of_ble_eq_true rfl) dX7_draws_52 ⟨Nat.zero_le _, Nat.zero_le _⟩ (fun H locs hP hD hS => ?_)
          have hP : va_P Γ.1 vwCl (wd_X7_draws Γ q0 q1 q2 q3 q4 q5 q6 d0 d1 d2 d3 d4 d5 d6 plate_columns plate_rows plate_numbers plate_figure plate_grains history_known_8 had_9 pW_10 pH_11 pN_12 pF_13 pG_14) H := hP
          have hD : va_D A (wd_X7_draws Γ q0 q1 q2 q3 q4 q5 q6 d0 d1 d2 d3 d4 d5 d6 plate_columns plate_rows plate_numbers plate_figure plate_grains history_known_8 had_9 pW_10 pH_11 pN_12 pF_13 pG_14) := hD
          refine lv_aload_n hx hb dX7_draws_55 rfl (lv_at hl 1 rfl) ?_
          refine va_get (D := Γ.1) (ci := 7) (v := .ref q1) (C := RX7) (T := TX7) (N := 9) hx hb hts hi7 hown hK hP 0 rfl rfl 0 (by decide) (hts (.fieldLink RX7 10 "SandPlates" "plate" "LSandPlates$Plate;") (List.mem_of_getElem? (i := 1) rfl)) (fun _ h9 => h9) rfl dX7_draws_56 ?_
          refine va_getN (D := Γ.1) (ci := 2) (v := .ref q3) (C := RX2) (T := TX2) (N := 5) hx hb hts hi2 hown hK hP 1 rfl rfl 3 (by decide) (va_Nw.use rfl (nfX7_114 hE.2.1)) (fun _ h9 => h9) rfl dX7_draws_59 ?_
          refine lv_iload hx hb dX7_draws_62 (lv_at hl 0 rfl) ?_
          refine lv_iload_n hx hb dX7_draws_64 rfl (lv_at hl 4 rfl) ?_
          obtain ⟨hc_16, hf⟩ := vm_ck hf
          refine vm_iast hx hb hK hP hD hS 3 0 rfl rfl hc_16 (j := (r_1.toNatClampNeg)) rfl dX7_draws_65 (fun H locs hP hD hS => ?_)
          have hP : va_P Γ.1 vwCl (wd_X7_draws Γ q0 q1 q2 q3 q4 q5 q6 d0 d1 d2 d3 d4 d5 d6 plate_columns plate_rows plate_numbers (upd plate_figure (r_1.toNatClampNeg) x3) plate_grains history_known_8 had_9 pW_10 pH_11 pN_12 pF_13 pG_14) H := hP
          have hD : va_D A (wd_X7_draws Γ q0 q1 q2 q3 q4 q5 q6 d0 d1 d2 d3 d4 d5 d6 plate_columns plate_rows plate_numbers (upd plate_figure (r_1.toNatClampNeg) x3) plate_grains history_known_8 had_9 pW_10 pH_11 pN_12 pF_13 pG_14) := hD
          refine lv_aload_n hx hb dX7_draws_66 rfl (lv_at hl 1 rfl) ?_
          refine va_get (D := Γ.1) (ci := 7) (v := .ref q1) (C := RX7) (T := TX7) (N := 9) hx hb hts hi7 hown hK hP 0 rfl rfl 0 (by decide) (hts (.fieldLink RX7 10 "SandPlates" "plate" "LSandPlates$Plate;") (List.mem_of_getElem? (i := 1) rfl)) (fun _ h9 => h9) rfl dX7_draws_67 ?_
          obtain ⟨r_17, hq_18, hf⟩ := ob1_some hf
          refine vm_cNi (isC := [1, 3]) (wc := (wd_X2_cellsOfFigure Γ q1 q3 q2 q4 plate_columns plate_rows (upd plate_figure (r_1.toNatClampNeg) x3))) (w1 := (wd_X2_cellsOfFigure Γ q1 q3 q2 q4 plate_columns plate_rows (upd plate_figure (r_1.toNatClampNeg) x3))) (As := []) (rest := []) ⟨hx, hb, hml, hown, hts⟩ hE hP hD hS hA rfl rfl rfl (c_X2_cellsOfFigure l Γ _ q1 q3 q2 q4 plate_columns plate_rows (upd plate_figure (r_1.toNatClampNeg) x3) r_17 hq_18) ⟨va_cnB 0 hts ggX7_draws_X2_cellsOfFigure rfl rfl rfl (nmX7_117 hE.2.1) (hts (.initialized RX2) (List.mem_of_getElem? (i := 4) rfl)) (by decide +kernel) ⟨Nat.le_of_ble_eq_true rfl, Nat.le_of_ble_eq_true rfl⟩, (hts (.instanceMethod yX2_cellsOfFigure) (List.mem_of_getElem? (i := 29) rfl)), (hts (.selects RX2 yX2_cellsOfFigure yX2_cellsOfFigure) (List.mem_of_getElem? (i := 30) rfl))⟩ (va_recv (ci := 2) (q0 := 1) hK hP rfl rfl) rfl hl.1 rfl (Nat.le_of_ble_eq_true rfl) dX7_draws_70 ⟨Nat.zero_le _, Nat.zero_le _⟩ (fun H locs hP hD hS => ?_)
          have hP : va_P Γ.1 vwCl (wd_X7_draws Γ q0 q1 q2 q3 q4 q5 q6 d0 d1 d2 d3 d4 d5 d6 plate_columns plate_rows plate_numbers (upd plate_figure (r_1.toNatClampNeg) x3) plate_grains history_known_8 had_9 pW_10 pH_11 pN_12 pF_13 pG_14) H := hP
          have hD : va_D A (wd_X7_draws Γ q0 q1 q2 q3 q4 q5 q6 d0 d1 d2 d3 d4 d5 d6 plate_columns plate_rows plate_numbers (upd plate_figure (r_1.toNatClampNeg) x3) plate_grains history_known_8 had_9 pW_10 pH_11 pN_12 pF_13 pG_14) := hD
          subst hout; obtain ⟨rfl, rfl, rfl, rfl, rfl, rfl, rfl, rfl, rfl⟩ := rt9 hf
          subst hQQ
          exact W.iret hx hb hr (fun t ht hW => ⟨⟨_, (), rfl, rfl, by rw [ht]; exact hP, hD⟩, hS.F ht⟩) hS.2.2 dX7_draws_73
        · have hf := vm_pos hc_7 hf
          refine lv_bipush (v := (-2)) hx hb dX7_draws_41 (by decide) ?_
          subst hout; obtain ⟨rfl, rfl, rfl, rfl, rfl, rfl, rfl, rfl, rfl⟩ := rt9 hf
          subst hQQ
          exact W.iret hx hb hr (fun t ht hW => ⟨⟨_, (), rfl, rfl, by rw [ht]; exact hP, hD⟩, hS.F ht⟩) hS.2.2 dX7_draws_43
      · have hf := vm_neg hc_5 hf
        exact K_25 plate_figure history_known had pW pH pN pF pG hP hD hS (lv_sub hl [] rfl) hf
def wd_X7_sands (Γ : GE) (q0 q1 q2 q3 q4 q5 q6 d0 d1 d2 d3 d4 d5 d6 : Nat) (plate_columns : Int32) (plate_rows : Int32) (plate_numbers : Nat → Int32) (plate_figure : Nat → Int32) (plate_grains : Nat → Int32) (history_known : Int32) (had : Nat → Nat) (pW : Nat → Int32) (pH : Nat → Int32) (pN : Nat → Nat → Int32) (pF : Nat → Nat → Int32) (pG : Nat → Nat → Int32) : va_W := [(q0, .inr (7, [.ref q1, .ref q5, .ref d0, .ref d1, .ref d2, .ref d3, .ref d4, .ref d5, .ref d6])), (q1, .inr (2, [.int plate_columns, .int plate_rows, .ref q2, .ref q3, .ref q4])), (q2, .inl (Γ.2.1 0, 7, .inl plate_numbers)), (q3, .inl (Γ.2.1 0, 36, .inl plate_figure)), (q4, .inl (Γ.2.1 0, 36, .inl plate_grains)), (q5, .inr (0, [.ref q6, .int history_known]))] ++ (segH Γ q6 had pW pH pN pF pG)
def f_X7_sands (plate_columns : Int32) (plate_rows : Int32) (plate_numbers : Nat → Int32) (plate_figure : Nat → Int32) (plate_grains : Nat → Int32) (history_known : Int32) (had : Nat → Nat) (pW : Nat → Int32) (pH : Nat → Int32) (pN : Nat → Nat → Int32) (pF : Nat → Nat → Int32) (pG : Nat → Nat → Int32) : Option (Int32 × (Nat → Int32) × Int32 × (Nat → Nat) × (Nat → Int32) × (Nat → Int32) × (Nat → Nat → Int32) × (Nat → Nat → Int32) × (Nat → Nat → Int32)) := ob1 (f_X2_cells plate_columns plate_rows) (fun r_1 => ob1 (f_X2_cellsWithGrains plate_columns plate_rows plate_grains 1) (fun r_3 => if (r_1 - r_3) = 0 then (some ((-2), plate_grains, history_known, had, pW, pH, pN, pF, pG)) else (ob7 (f_X0_record history_known had pW pH pN pF pG plate_columns plate_rows plate_numbers plate_figure plate_grains) (fun history_known_6 had_7 pW_8 pH_9 pN_10 pF_11 pG_12 => ob1 (f_X2_layGrains plate_grains) (fun plate_grains_14 => some ((r_1 - r_3), plate_grains_14, history_known_6, had_7, pW_8, pH_9, pN_10, pF_11, pG_12))))))
set_option maxHeartbeats 4000000 in
set_option maxRecDepth 100000 in
theorem c_X7_sands (l : Launch) (Γ : GE) (sz : Nat) (q0 q1 q2 q3 q4 q5 q6 d0 d1 d2 d3 d4 d5 d6 : Nat) (plate_columns : Int32) (plate_rows : Int32) (plate_numbers : Nat → Int32) (plate_figure : Nat → Int32) (plate_grains : Nat → Int32) (history_known : Int32) (had : Nat → Nat) (pW : Nat → Int32) (pH : Nat → Int32) (pN : Nat → Nat → Int32) (pF : Nat → Nat → Int32) (pG : Nat → Nat → Int32) (ro : Int32) (o_plate_grains : Nat → Int32) (o_history_known : Int32) (o_had : Nat → Nat) (o_pW : Nat → Int32) (o_pH : Nat → Int32) (o_pN : Nat → Nat → Int32) (o_pF : Nat → Nat → Int32) (o_pG : Nat → Nat → Int32) (hf : f_X7_sands plate_columns plate_rows plate_numbers plate_figure plate_grains history_known had pW pH pN pF pG = some (ro, o_plate_grains, o_history_known, o_had, o_pW, o_pH, o_pN, o_pF, o_pG)) : MetI l yX7_sands wsX7_sands ({ frames := 3, cells := 0, slots := 0, locals := 90 } : Room) Γ [.ref q0] (wd_X7_sands Γ q0 q1 q2 q3 q4 q5 q6 d0 d1 d2 d3 d4 d5 d6 plate_columns plate_rows plate_numbers plate_figure plate_grains history_known had pW pH pN pF pG) (wd_X7_sands Γ q0 q1 q2 q3 q4 q5 q6 d0 d1 d2 d3 d4 d5 d6 plate_columns plate_rows plate_numbers plate_figure o_plate_grains o_history_known o_had o_pW o_pH o_pN o_pF o_pG) sz ro := by
  refine Met.ofW (cc := cX7_sands) (maxL := 2) (ret := (some .int)) (by decide) rfl ?_
  intro p e s m args below meth c s₁ B hml hv
  obtain ⟨rfl, hsz, hE, hP, hD⟩ := hv
  have hx := B.exec
  have hb := B.bytes
  have hr := B.returns
  have hts := atoms_spec (ws := wsX7_sands) B.pre
  have hown : s.vm.findClass RX7 = some m.cls := findClass_of_methodNamed B.named
  have hlocks := B.notSynchronized
  subst hsz
  generalize hAe : va_A (wd_X7_sands Γ q0 q1 q2 q3 q4 q5 q6 d0 d1 d2 d3 d4 d5 d6 plate_columns plate_rows plate_numbers plate_figure plate_grains history_known had pW pH pN pF pG) s.heap.size = A at hE hD ⊢
  have hA : ∀ q : Nat, s.heap.size ≤ q → A q := fun q h => by rw [← hAe]; exact Or.inr h
  clear hAe
  have hS : va_S A s.heap s.heap [] := va_S.rf
  have hK := hE.1
  have hl := lv_entry ([.ref q0]) (n := 2) (Nat.le_of_ble_eq_true rfl)
  rw [lg_entry_eq]
  generalize (lg_sl ([.ref q0]) ++ List.replicate (2 - (lg_sl ([.ref q0])).length) Slot.unset).toArray = ls at hl ⊢
  have hl : lv_has ls 2 [(0, .ref q0)] := hl
  have hi0 : ∀ w ∈ u_ws RX0 TX0 2, w ∈ wsX7_sands := fun w h => (List.mem_cons_of_mem _ (List.mem_append_right _ h))
  have hi2 : ∀ w ∈ u_ws RX2 TX2 5, w ∈ wsX7_sands := fun w h => (List.mem_cons_of_mem _ (List.mem_append_left _ (List.mem_append_right _ h)))
  have hi7 : ∀ w ∈ u_ws RX7 TX7 9, w ∈ wsX7_sands := fun w h => (List.mem_cons_of_mem _ (List.mem_append_left _ (List.mem_append_left _ (List.mem_append_right _ h))))
  obtain ⟨out, hout⟩ : ∃ o, o = (ro, o_plate_grains, o_history_known, o_had, o_pW, o_pH, o_pN, o_pF, o_pG) := ⟨_, rfl⟩
  rw [← hout] at hf
  obtain ⟨QQ, hQQ⟩ : ∃ Q, Q = MQ below (va_Qi (fun (r' : Int32) (_ : Unit) => r' = ro) (CQ Γ (wd_X7_sands Γ q0 q1 q2 q3 q4 q5 q6 d0 d1 d2 d3 d4 d5 d6 plate_columns plate_rows plate_numbers plate_figure o_plate_grains o_history_known o_had o_pW o_pH o_pN o_pF o_pG) A) A) (([.ref q0] : List Value).toArray) s 0 0 A := ⟨_, rfl⟩
  show W p l e ({ frames := 3, cells := 0, slots := 0, locals := 90 } : Room) s m (([.ref q0] : List Value).toArray) below meth c s.heap [] 0 0 (MQ below _ (([.ref q0] : List Value).toArray) s 0 0 A) (F0 m 0 ls [])
  rw [← hQQ]
  unfold f_X7_sands at hf
  refine lv_aload_n hx hb dX7_sands_0 rfl (lv_at hl 0 rfl) ?_
  refine va_get (D := Γ.1) (ci := 7) (v := .ref q1) (C := RX7) (T := TX7) (N := 9) hx hb hts hi7 hown hK hP 0 rfl rfl 0 (by decide) (hts (.fieldLink RX7 10 "SandPlates" "plate" "LSandPlates$Plate;") (List.mem_of_getElem? (i := 1) rfl)) (fun _ h9 => h9) rfl dX7_sands_1 ?_
  obtain ⟨r_1, hq_2, hf⟩ := ob1_some hf
  refine vm_cNi (isC := [1]) (wc := (wd_X2_cells Γ q1 q2 q3 q4 plate_columns plate_rows)) (w1 := (wd_X2_cells Γ q1 q2 q3 q4 plate_columns plate_rows)) (As := []) (rest := []) ⟨hx, hb, hml, hown, hts⟩ hE hP hD hS hA rfl rfl rfl (c_X2_cells l Γ _ q1 q2 q3 q4 plate_columns plate_rows r_1 hq_2) ⟨va_cnB 0 hts ggX7_sands_X2_cells rfl rfl rfl (nmX7_120 hE.2.1) (hts (.initialized RX2) (List.mem_of_getElem? (i := 4) rfl)) (by decide +kernel) ⟨Nat.le_of_ble_eq_true rfl, Nat.le_of_ble_eq_true rfl⟩, (hts (.instanceMethod yX2_cells) (List.mem_of_getElem? (i := 3) rfl)), (hts (.selects RX2 yX2_cells yX2_cells) (List.mem_of_getElem? (i := 5) rfl))⟩ (va_recv (ci := 2) (q0 := 1) hK hP rfl rfl) rfl hl.1 rfl (Nat.le_of_ble_eq_true rfl) dX7_sands_4 ⟨Nat.zero_le _, Nat.zero_le _⟩ (fun H locs hP hD hS => ?_)
  have hP : va_P Γ.1 vwCl (wd_X7_sands Γ q0 q1 q2 q3 q4 q5 q6 d0 d1 d2 d3 d4 d5 d6 plate_columns plate_rows plate_numbers plate_figure plate_grains history_known had pW pH pN pF pG) H := hP
  have hD : va_D A (wd_X7_sands Γ q0 q1 q2 q3 q4 q5 q6 d0 d1 d2 d3 d4 d5 d6 plate_columns plate_rows plate_numbers plate_figure plate_grains history_known had pW pH pN pF pG) := hD
  refine lv_aload_n hx hb dX7_sands_7 rfl (lv_at hl 0 rfl) ?_
  refine va_get (D := Γ.1) (ci := 7) (v := .ref q1) (C := RX7) (T := TX7) (N := 9) hx hb hts hi7 hown hK hP 0 rfl rfl 0 (by decide) (hts (.fieldLink RX7 10 "SandPlates" "plate" "LSandPlates$Plate;") (List.mem_of_getElem? (i := 1) rfl)) (fun _ h9 => h9) rfl dX7_sands_8 ?_
  refine lv_iconst (v := 1) hx hb dX7_sands_11 (by decide) ?_
  obtain ⟨r_3, hq_4, hf⟩ := ob1_some hf
  refine vm_cNi (isC := [1, 4]) (wc := (wd_X2_cellsWithGrains Γ q1 q4 q2 q3 plate_columns plate_rows plate_grains)) (w1 := (wd_X2_cellsWithGrains Γ q1 q4 q2 q3 plate_columns plate_rows plate_grains)) (As := [.int 1]) (rest := [.int r_1]) ⟨hx, hb, hml, hown, hts⟩ hE hP hD hS hA rfl rfl rfl (c_X2_cellsWithGrains l Γ _ q1 q4 q2 q3 plate_columns plate_rows plate_grains 1 r_3 hq_4) ⟨va_cnB 1 hts ggX7_sands_X2_cellsWithGrains rfl rfl rfl (nmX7_123 hE.2.1) (hts (.initialized RX2) (List.mem_of_getElem? (i := 4) rfl)) (by decide +kernel) ⟨Nat.le_of_ble_eq_true rfl, Nat.le_of_ble_eq_true rfl⟩, (hts (.instanceMethod yX2_cellsWithGrains) (List.mem_of_getElem? (i := 9) rfl)), (hts (.selects RX2 yX2_cellsWithGrains yX2_cellsWithGrains) (List.mem_of_getElem? (i := 10) rfl))⟩ (va_recv (ci := 2) (q0 := 1) hK hP rfl rfl) rfl hl.1 rfl (Nat.le_of_ble_eq_true rfl) dX7_sands_12 ⟨Nat.zero_le _, Nat.zero_le _⟩ (fun H locs hP hD hS => ?_)
  have hP : va_P Γ.1 vwCl (wd_X7_sands Γ q0 q1 q2 q3 q4 q5 q6 d0 d1 d2 d3 d4 d5 d6 plate_columns plate_rows plate_numbers plate_figure plate_grains history_known had pW pH pN pF pG) H := hP
  have hD : va_D A (wd_X7_sands Γ q0 q1 q2 q3 q4 q5 q6 d0 d1 d2 d3 d4 d5 d6 plate_columns plate_rows plate_numbers plate_figure plate_grains history_known had pW pH pN pF pG) := hD
  refine lv_isub hx hb dX7_sands_15 ?_
  refine lv_istore_n (lv' := [(1, .int (r_1 - r_3)), (0, .ref q0)]) hx hb dX7_sands_16 rfl hl (by decide) rfl (fun ls hl => ?_)
  refine lv_iload_n hx hb dX7_sands_17 rfl (lv_at hl 0 rfl) ?_
  refine lv_if_ne (tgt := 24) hx hb dX7_sands_18 (by decide) (fun hc_5 => ?_) (fun hc_5 => ?_)
  · have hf := vm_neg hc_5 hf
    refine lv_aload_n hx hb dX7_sands_24 rfl (lv_at hl 1 rfl) ?_
    refine va_get (D := Γ.1) (ci := 7) (v := .ref q5) (C := RX7) (T := TX7) (N := 9) hx hb hts hi7 hown hK hP 0 rfl rfl 1 (by decide) (hts (.fieldLink RX7 19 "SandPlates" "history" "LSandPlates$History;") (List.mem_of_getElem? (i := 2) rfl)) (fun _ h9 => h9) rfl dX7_sands_25 ?_
    refine lv_aload_n hx hb dX7_sands_28 rfl (lv_at hl 1 rfl) ?_
    refine va_get (D := Γ.1) (ci := 7) (v := .ref q1) (C := RX7) (T := TX7) (N := 9) hx hb hts hi7 hown hK hP 0 rfl rfl 0 (by decide) (hts (.fieldLink RX7 10 "SandPlates" "plate" "LSandPlates$Plate;") (List.mem_of_getElem? (i := 1) rfl)) (fun _ h9 => h9) rfl dX7_sands_29 ?_
    obtain ⟨history_known_6, had_7, pW_8, pH_9, pN_10, pF_11, pG_12, hq_13, hf⟩ := ob7_some hf
    refine vm_dNv (isC := [5, 6, 7, 8, 9, 10, 11, 12, 13, 14, 15, 16, 17, 18, 19, 20, 21, 22, 23, 24, 25, 26, 27, 28, 29, 30, 1, 2, 3, 4]) (wc := (wd_X0_record Γ q5 q6 q1 q2 q3 q4 history_known had pW pH pN pF pG plate_columns plate_rows plate_numbers plate_figure plate_grains)) (w1 := (wd_X0_record Γ q5 q6 q1 q2 q3 q4 history_known_6 had_7 pW_8 pH_9 pN_10 pF_11 pG_12 plate_columns plate_rows plate_numbers plate_figure plate_grains)) (W' := (wd_X7_sands Γ q0 q1 q2 q3 q4 q5 q6 d0 d1 d2 d3 d4 d5 d6 plate_columns plate_rows plate_numbers plate_figure plate_grains history_known_6 had_7 pW_8 pH_9 pN_10 pF_11 pG_12)) (N := 31) (As := [.ref q1]) (rest := []) ⟨hx, hb, hml, hown, hts⟩ hE hP hD hS hA rfl rfl rfl (c_X0_record l Γ _ q5 q6 q1 q2 q3 q4 history_known had pW pH pN pF pG plate_columns plate_rows plate_numbers plate_figure plate_grains history_known_6 had_7 pW_8 pH_9 pN_10 pF_11 pG_12 hq_13) ⟨va_cnB 1 hts ggX7_sands_X0_record rfl rfl rfl (nmX7_81 hE.2.1) (hts (.initialized RX0) (List.mem_of_getElem? (i := 15) rfl)) (by decide +kernel) ⟨Nat.le_of_ble_eq_true rfl, Nat.le_of_ble_eq_true rfl⟩, (hts (.instanceMethod yX0_record) (List.mem_of_getElem? (i := 14) rfl)), (hts (.selects RX0 yX0_record yX0_record) (List.mem_of_getElem? (i := 16) rfl))⟩ (va_recv (ci := 0) (q0 := 5) hK hP rfl rfl) rfl hl.1 rfl (Nat.le_of_ble_eq_true rfl) dX7_sands_32 ⟨Nat.zero_le _, Nat.zero_le _⟩ (fun H locs hP hD hS => ?_)
    have hP : va_P Γ.1 vwCl (wd_X7_sands Γ q0 q1 q2 q3 q4 q5 q6 d0 d1 d2 d3 d4 d5 d6 plate_columns plate_rows plate_numbers plate_figure plate_grains history_known_6 had_7 pW_8 pH_9 pN_10 pF_11 pG_12) H := hP
    have hD : va_D A (wd_X7_sands Γ q0 q1 q2 q3 q4 q5 q6 d0 d1 d2 d3 d4 d5 d6 plate_columns plate_rows plate_numbers plate_figure plate_grains history_known_6 had_7 pW_8 pH_9 pN_10 pF_11 pG_12) := hD
    refine lv_aload_n hx hb dX7_sands_35 rfl (lv_at hl 1 rfl) ?_
    refine va_get (D := Γ.1) (ci := 7) (v := .ref q1) (C := RX7) (T := TX7) (N := 9) hx hb hts hi7 hown hK hP 0 rfl rfl 0 (by decide) (hts (.fieldLink RX7 10 "SandPlates" "plate" "LSandPlates$Plate;") (List.mem_of_getElem? (i := 1) rfl)) (fun _ h9 => h9) rfl dX7_sands_36 ?_
    obtain ⟨plate_grains_14, hq_15, hf⟩ := ob1_some hf
    refine vm_cNv (isC := [1, 4]) (wc := (wd_X2_layGrains Γ q1 q4 q2 q3 plate_columns plate_rows plate_grains)) (w1 := (wd_X2_layGrains Γ q1 q4 q2 q3 plate_columns plate_rows plate_grains_14)) (As := []) (rest := []) ⟨hx, hb, hml, hown, hts⟩ hE hP hD hS hA rfl rfl rfl (c_X2_layGrains l Γ _ q1 q4 q2 q3 plate_columns plate_rows plate_grains plate_grains_14 hq_15) ⟨va_cnB 0 hts ggX7_sands_X2_layGrains rfl rfl rfl (nmX7_127 hE.2.1) (hts (.initialized RX2) (List.mem_of_getElem? (i := 4) rfl)) (by decide +kernel) ⟨Nat.le_of_ble_eq_true rfl, Nat.le_of_ble_eq_true rfl⟩, (hts (.instanceMethod yX2_layGrains) (List.mem_of_getElem? (i := 33) rfl)), (hts (.selects RX2 yX2_layGrains yX2_layGrains) (List.mem_of_getElem? (i := 34) rfl))⟩ (va_recv (ci := 2) (q0 := 1) hK hP rfl rfl) rfl hl.1 rfl (Nat.le_of_ble_eq_true rfl) dX7_sands_39 ⟨Nat.zero_le _, Nat.zero_le _⟩ (fun H locs hP hD hS => ?_)
    have hP : va_P Γ.1 vwCl (wd_X7_sands Γ q0 q1 q2 q3 q4 q5 q6 d0 d1 d2 d3 d4 d5 d6 plate_columns plate_rows plate_numbers plate_figure plate_grains_14 history_known_6 had_7 pW_8 pH_9 pN_10 pF_11 pG_12) H := hP
    have hD : va_D A (wd_X7_sands Γ q0 q1 q2 q3 q4 q5 q6 d0 d1 d2 d3 d4 d5 d6 plate_columns plate_rows plate_numbers plate_figure plate_grains_14 history_known_6 had_7 pW_8 pH_9 pN_10 pF_11 pG_12) := hD
    refine lv_iload_n hx hb dX7_sands_42 rfl (lv_at hl 0 rfl) ?_
    subst hout; obtain ⟨rfl, rfl, rfl, rfl, rfl, rfl, rfl, rfl, rfl⟩ := rt9 hf
    subst hQQ
    exact W.iret hx hb hr (fun t ht hW => ⟨⟨_, (), rfl, rfl, by rw [ht]; exact hP, hD⟩, hS.F ht⟩) hS.2.2 dX7_sands_43
  · have hf := vm_pos hc_5 hf
    refine lv_bipush (v := (-2)) hx hb dX7_sands_21 (by decide) ?_
    subst hout; obtain ⟨rfl, rfl, rfl, rfl, rfl, rfl, rfl, rfl, rfl⟩ := rt9 hf
    subst hQQ
    exact W.iret hx hb hr (fun t ht hW => ⟨⟨_, (), rfl, rfl, by rw [ht]; exact hP, hD⟩, hS.F ht⟩) hS.2.2 dX7_sands_23
def wd_X7_undo (Γ : GE) (q0 q1 q2 q3 q4 q5 q6 d0 d1 d2 d3 d4 d5 d6 : Nat) (plate_columns : Int32) (plate_rows : Int32) (plate_numbers : Nat → Int32) (plate_figure : Nat → Int32) (plate_grains : Nat → Int32) (history_known : Int32) (had : Nat → Nat) (pW : Nat → Int32) (pH : Nat → Int32) (pN : Nat → Nat → Int32) (pF : Nat → Nat → Int32) (pG : Nat → Nat → Int32) : va_W := [(q0, .inr (7, [.ref q1, .ref q5, .ref d0, .ref d1, .ref d2, .ref d3, .ref d4, .ref d5, .ref d6])), (q1, .inr (2, [.int plate_columns, .int plate_rows, .ref q2, .ref q3, .ref q4])), (q2, .inl (Γ.2.1 0, 7, .inl plate_numbers)), (q3, .inl (Γ.2.1 0, 36, .inl plate_figure)), (q4, .inl (Γ.2.1 0, 36, .inl plate_grains)), (q5, .inr (0, [.ref q6, .int history_known]))] ++ (segH Γ q6 had pW pH pN pF pG)
def f_X7_undo_26 (plate_columns : Int32) (plate_rows : Int32) (plate_numbers : Nat → Int32) (plate_figure : Nat → Int32) (plate_grains : Nat → Int32) (history_known : Int32) (s0 : Int32) : Option (Int32 × Int32 × Int32 × (Nat → Int32) × (Nat → Int32) × (Nat → Int32) × Int32) := some (s0, plate_columns, plate_rows, plate_numbers, plate_figure, plate_grains, history_known)
def f_X7_undo (plate_columns : Int32) (plate_rows : Int32) (plate_numbers : Nat → Int32) (plate_figure : Nat → Int32) (plate_grains : Nat → Int32) (history_known : Int32) (had : Nat → Nat) (pW : Nat → Int32) (pH : Nat → Int32) (pN : Nat → Nat → Int32) (pF : Nat → Nat → Int32) (pG : Nat → Nat → Int32) : Option (Int32 × Int32 × Int32 × (Nat → Int32) × (Nat → Int32) × (Nat → Int32) × Int32) := ob7 (f_X0_takeBack history_known had pW pH pN pF pG plate_columns plate_rows plate_numbers plate_figure plate_grains) (fun r_1 history_known_2 plate_columns_3 plate_rows_4 plate_numbers_5 plate_figure_6 plate_grains_7 => if r_1 = 0 then (f_X7_undo_26 plate_columns_3 plate_rows_4 plate_numbers_5 plate_figure_6 plate_grains_7 history_known_2 (-2)) else (f_X7_undo_26 plate_columns_3 plate_rows_4 plate_numbers_5 plate_figure_6 plate_grains_7 history_known_2 history_known_2))
set_option maxHeartbeats 4000000 in
set_option maxRecDepth 100000 in
theorem c_X7_undo (l : Launch) (Γ : GE) (sz : Nat) (q0 q1 q2 q3 q4 q5 q6 d0 d1 d2 d3 d4 d5 d6 : Nat) (plate_columns : Int32) (plate_rows : Int32) (plate_numbers : Nat → Int32) (plate_figure : Nat → Int32) (plate_grains : Nat → Int32) (history_known : Int32) (had : Nat → Nat) (pW : Nat → Int32) (pH : Nat → Int32) (pN : Nat → Nat → Int32) (pF : Nat → Nat → Int32) (pG : Nat → Nat → Int32) (ro : Int32) (o_plate_columns : Int32) (o_plate_rows : Int32) (o_plate_numbers : Nat → Int32) (o_plate_figure : Nat → Int32) (o_plate_grains : Nat → Int32) (o_history_known : Int32) (hf : f_X7_undo plate_columns plate_rows plate_numbers plate_figure plate_grains history_known had pW pH pN pF pG = some (ro, o_plate_columns, o_plate_rows, o_plate_numbers, o_plate_figure, o_plate_grains, o_history_known)) : MetI l yX7_undo wsX7_undo ({ frames := 3, cells := 0, slots := 0, locals := 90 } : Room) Γ [.ref q0] (wd_X7_undo Γ q0 q1 q2 q3 q4 q5 q6 d0 d1 d2 d3 d4 d5 d6 plate_columns plate_rows plate_numbers plate_figure plate_grains history_known had pW pH pN pF pG) (wd_X7_undo Γ q0 q1 q2 q3 q4 q5 q6 d0 d1 d2 d3 d4 d5 d6 o_plate_columns o_plate_rows o_plate_numbers o_plate_figure o_plate_grains o_history_known had pW pH pN pF pG) sz ro := by
  refine Met.ofW (cc := cX7_undo) (maxL := 1) (ret := (some .int)) (by decide) rfl ?_
  intro p e s m args below meth c s₁ B hml hv
  obtain ⟨rfl, hsz, hE, hP, hD⟩ := hv
  have hx := B.exec
  have hb := B.bytes
  have hr := B.returns
  have hts := atoms_spec (ws := wsX7_undo) B.pre
  have hown : s.vm.findClass RX7 = some m.cls := findClass_of_methodNamed B.named
  have hlocks := B.notSynchronized
  subst hsz
  generalize hAe : va_A (wd_X7_undo Γ q0 q1 q2 q3 q4 q5 q6 d0 d1 d2 d3 d4 d5 d6 plate_columns plate_rows plate_numbers plate_figure plate_grains history_known had pW pH pN pF pG) s.heap.size = A at hE hD ⊢
  have hA : ∀ q : Nat, s.heap.size ≤ q → A q := fun q h => by rw [← hAe]; exact Or.inr h
  clear hAe
  have hS : va_S A s.heap s.heap [] := va_S.rf
  have hK := hE.1
  have hl := lv_entry ([.ref q0]) (n := 1) (Nat.le_of_ble_eq_true rfl)
  rw [lg_entry_eq]
  generalize (lg_sl ([.ref q0]) ++ List.replicate (1 - (lg_sl ([.ref q0])).length) Slot.unset).toArray = ls at hl ⊢
  have hl : lv_has ls 1 [(0, .ref q0)] := hl
  have hi0 : ∀ w ∈ u_ws RX0 TX0 2, w ∈ wsX7_undo := fun w h => (List.mem_cons_of_mem _ (List.mem_append_left _ (List.mem_append_right _ h)))
  have hi2 : ∀ w ∈ u_ws RX2 TX2 5, w ∈ wsX7_undo := fun w h => (List.mem_cons_of_mem _ (List.mem_append_right _ h))
  have hi7 : ∀ w ∈ u_ws RX7 TX7 9, w ∈ wsX7_undo := fun w h => (List.mem_cons_of_mem _ (List.mem_append_left _ (List.mem_append_left _ (List.mem_append_right _ h))))
  obtain ⟨out, hout⟩ : ∃ o, o = (ro, o_plate_columns, o_plate_rows, o_plate_numbers, o_plate_figure, o_plate_grains, o_history_known) := ⟨_, rfl⟩
  rw [← hout] at hf
  obtain ⟨QQ, hQQ⟩ : ∃ Q, Q = MQ below (va_Qi (fun (r' : Int32) (_ : Unit) => r' = ro) (CQ Γ (wd_X7_undo Γ q0 q1 q2 q3 q4 q5 q6 d0 d1 d2 d3 d4 d5 d6 o_plate_columns o_plate_rows o_plate_numbers o_plate_figure o_plate_grains o_history_known had pW pH pN pF pG) A) A) (([.ref q0] : List Value).toArray) s 0 0 A := ⟨_, rfl⟩
  show W p l e ({ frames := 3, cells := 0, slots := 0, locals := 90 } : Room) s m (([.ref q0] : List Value).toArray) below meth c s.heap [] 0 0 (MQ below _ (([.ref q0] : List Value).toArray) s 0 0 A) (F0 m 0 ls [])
  rw [← hQQ]
  have K_26 : ∀ (plate_columns : Int32) (plate_rows : Int32) (plate_numbers : Nat → Int32) (plate_figure : Nat → Int32) (plate_grains : Nat → Int32) (history_known : Int32) (s0 : Int32) {H : Heap} {locs : List Loc} {ls : Array Slot}, va_P Γ.1 vwCl (wd_X7_undo Γ q0 q1 q2 q3 q4 q5 q6 d0 d1 d2 d3 d4 d5 d6 plate_columns plate_rows plate_numbers plate_figure plate_grains history_known had pW pH pN pF pG) H → va_D A (wd_X7_undo Γ q0 q1 q2 q3 q4 q5 q6 d0 d1 d2 d3 d4 d5 d6 plate_columns plate_rows plate_numbers plate_figure plate_grains history_known had pW pH pN pF pG) → va_S A s.heap H locs → lv_has ls 1 [] → f_X7_undo_26 plate_columns plate_rows plate_numbers plate_figure plate_grains history_known s0 = some out → W p l e ({ frames := 3, cells := 0, slots := 0, locals := 90 } : Room) s m ([.ref q0] : List Value).toArray below meth c H locs 0 0 QQ (F0 m 26 ls [.int s0]) := by
    intro plate_columns plate_rows plate_numbers plate_figure plate_grains history_known s0 H locs ls hP hD hS hl hf
    unfold f_X7_undo_26 at hf
    subst hout; obtain ⟨rfl, rfl, rfl, rfl, rfl, rfl, rfl⟩ := rt7 hf
    subst hQQ
    exact W.iret hx hb hr (fun t ht hW => ⟨⟨_, (), rfl, rfl, by rw [ht]; exact hP, hD⟩, hS.F ht⟩) hS.2.2 dX7_undo_26
  unfold f_X7_undo at hf
  refine lv_aload_n hx hb dX7_undo_0 rfl (lv_at hl 0 rfl) ?_
  refine va_get (D := Γ.1) (ci := 7) (v := .ref q5) (C := RX7) (T := TX7) (N := 9) hx hb hts hi7 hown hK hP 0 rfl rfl 1 (by decide) (hts (.fieldLink RX7 19 "SandPlates" "history" "LSandPlates$History;") (List.mem_of_getElem? (i := 1) rfl)) (fun _ h9 => h9) rfl dX7_undo_1 ?_
  refine lv_aload_n hx hb dX7_undo_4 rfl (lv_at hl 0 rfl) ?_
  refine va_get (D := Γ.1) (ci := 7) (v := .ref q1) (C := RX7) (T := TX7) (N := 9) hx hb hts hi7 hown hK hP 0 rfl rfl 0 (by decide) (hts (.fieldLink RX7 10 "SandPlates" "plate" "LSandPlates$Plate;") (List.mem_of_getElem? (i := 2) rfl)) (fun _ h9 => h9) rfl dX7_undo_5 ?_
  obtain ⟨r_1, history_known_2, plate_columns_3, plate_rows_4, plate_numbers_5, plate_figure_6, plate_grains_7, hq_8, hf⟩ := ob7_some hf
  refine vm_dNi (isC := [5, 6, 7, 8, 9, 10, 11, 12, 13, 14, 15, 16, 17, 18, 19, 20, 21, 22, 23, 24, 25, 26, 27, 28, 29, 30, 1, 2, 3, 4]) (wc := (wd_X0_takeBack Γ q5 q6 q1 q2 q3 q4 history_known had pW pH pN pF pG plate_columns plate_rows plate_numbers plate_figure plate_grains)) (w1 := (wd_X0_takeBack Γ q5 q6 q1 q2 q3 q4 history_known_2 had pW pH pN pF pG plate_columns_3 plate_rows_4 plate_numbers_5 plate_figure_6 plate_grains_7)) (W' := (wd_X7_undo Γ q0 q1 q2 q3 q4 q5 q6 d0 d1 d2 d3 d4 d5 d6 plate_columns_3 plate_rows_4 plate_numbers_5 plate_figure_6 plate_grains_7 history_known_2 had pW pH pN pF pG)) (N := 31) (As := [.ref q1]) (rest := []) ⟨hx, hb, hml, hown, hts⟩ hE hP hD hS hA rfl rfl rfl (c_X0_takeBack l Γ _ q5 q6 q1 q2 q3 q4 history_known had pW pH pN pF pG plate_columns plate_rows plate_numbers plate_figure plate_grains r_1 history_known_2 plate_columns_3 plate_rows_4 plate_numbers_5 plate_figure_6 plate_grains_7 hq_8) ⟨va_cnB 1 hts ggX7_undo_X0_takeBack rfl rfl rfl (nmX7_130 hE.2.1) (hts (.initialized RX0) (List.mem_of_getElem? (i := 4) rfl)) (by decide +kernel) ⟨Nat.le_of_ble_eq_true rfl, Nat.le_of_ble_eq_true rfl⟩, (hts (.instanceMethod yX0_takeBack) (List.mem_of_getElem? (i := 3) rfl)), (hts (.selects RX0 yX0_takeBack yX0_takeBack) (List.mem_of_getElem? (i := 5) rfl))⟩ (va_recv (ci := 0) (q0 := 5) hK hP rfl rfl) rfl hl.1 rfl (Nat.le_of_ble_eq_true rfl) dX7_undo_8 ⟨Nat.zero_le _, Nat.zero_le _⟩ (fun H locs hP hD hS => ?_)
  have hP : va_P Γ.1 vwCl (wd_X7_undo Γ q0 q1 q2 q3 q4 q5 q6 d0 d1 d2 d3 d4 d5 d6 plate_columns_3 plate_rows_4 plate_numbers_5 plate_figure_6 plate_grains_7 history_known_2 had pW pH pN pF pG) H := hP
  have hD : va_D A (wd_X7_undo Γ q0 q1 q2 q3 q4 q5 q6 d0 d1 d2 d3 d4 d5 d6 plate_columns_3 plate_rows_4 plate_numbers_5 plate_figure_6 plate_grains_7 history_known_2 had pW pH pN pF pG) := hD
  refine lv_if_eq (tgt := 24) hx hb dX7_undo_11 (by decide) (fun hc_9 => ?_) (fun hc_9 => ?_)
  · have hf := vm_pos hc_9 hf
    refine lv_bipush (v := (-2)) hx hb dX7_undo_24 (by decide) ?_
    exact K_26 plate_columns_3 plate_rows_4 plate_numbers_5 plate_figure_6 plate_grains_7 history_known_2 (-2) hP hD hS (lv_sub hl [] rfl) hf
  · have hf := vm_neg hc_9 hf
    refine lv_aload_n hx hb dX7_undo_14 rfl (lv_at hl 0 rfl) ?_
    refine va_get (D := Γ.1) (ci := 7) (v := .ref q5) (C := RX7) (T := TX7) (N := 9) hx hb hts hi7 hown hK hP 0 rfl rfl 1 (by decide) (hts (.fieldLink RX7 19 "SandPlates" "history" "LSandPlates$History;") (List.mem_of_getElem? (i := 1) rfl)) (fun _ h9 => h9) rfl dX7_undo_15 ?_
    refine va_getN (D := Γ.1) (ci := 0) (v := .int history_known_2) (C := RX0) (T := TX0) (N := 2) hx hb hts hi0 hown hK hP 5 rfl rfl 1 (by decide) (va_Nw.use rfl (nfX7_134 hE.2.1)) (fun _ h9 => h9) rfl dX7_undo_18 ?_
    refine lv_goto (tgt := 26) hx hb dX7_undo_21 (by decide) ?_
    exact K_26 plate_columns_3 plate_rows_4 plate_numbers_5 plate_figure_6 plate_grains_7 history_known_2 history_known_2 hP hD hS (lv_sub hl [] rfl) hf
def wd_X7_setting (Γ : GE) (q0 q1 q2 d0 d1 d2 d3 d4 d5 d6 d7 d8 d9 : Nat) (plate_columns : Int32) (plate_rows : Int32) (plate_numbers : Nat → Int32) : va_W := [(q0, .inr (7, [.ref q1, .ref d0, .ref d1, .ref d2, .ref d3, .ref d4, .ref d5, .ref d6, .ref d7])), (q1, .inr (2, [.int plate_columns, .int plate_rows, .ref q2, .ref d8, .ref d9])), (q2, .inl (Γ.2.1 0, 7, .inl plate_numbers))]
def f_X7_setting_23 (s0 : Int32) : Option Int32 := some s0
def f_X7_setting_10  : Option Int32 := f_X7_setting_23 (-1)
def f_X7_setting (plate_numbers : Nat → Int32) (x1 : Int32) : Option Int32 := if x1 < 0 then f_X7_setting_10 else (if x1 < 7 then (if inb x1 7 = true then f_X7_setting_23 (plate_numbers (x1.toNatClampNeg)) else none) else f_X7_setting_10)
set_option maxHeartbeats 4000000 in
set_option maxRecDepth 100000 in
theorem c_X7_setting (l : Launch) (Γ : GE) (sz : Nat) (q0 q1 q2 d0 d1 d2 d3 d4 d5 d6 d7 d8 d9 : Nat) (plate_columns : Int32) (plate_rows : Int32) (plate_numbers : Nat → Int32) (x1 : Int32) (ro : Int32) (hf : f_X7_setting plate_numbers x1 = some ro) : MetI l yX7_setting wsX7_setting ({ frames := 0, cells := 0, slots := 0, locals := 0 } : Room) Γ [.ref q0, .int x1] (wd_X7_setting Γ q0 q1 q2 d0 d1 d2 d3 d4 d5 d6 d7 d8 d9 plate_columns plate_rows plate_numbers) (wd_X7_setting Γ q0 q1 q2 d0 d1 d2 d3 d4 d5 d6 d7 d8 d9 plate_columns plate_rows plate_numbers) sz ro := by
  refine Met.ofW (cc := cX7_setting) (maxL := 2) (ret := (some .int)) (by decide) rfl ?_
  intro p e s m args below meth c s₁ B hml hv
  obtain ⟨rfl, hsz, hE, hP, hD⟩ := hv
  have hx := B.exec
  have hb := B.bytes
  have hr := B.returns
  have hts := atoms_spec (ws := wsX7_setting) B.pre
  have hown : s.vm.findClass RX7 = some m.cls := findClass_of_methodNamed B.named
  have hlocks := B.notSynchronized
  subst hsz
  generalize hAe : va_A (wd_X7_setting Γ q0 q1 q2 d0 d1 d2 d3 d4 d5 d6 d7 d8 d9 plate_columns plate_rows plate_numbers) s.heap.size = A at hE hD ⊢
  have hA : ∀ q : Nat, s.heap.size ≤ q → A q := fun q h => by rw [← hAe]; exact Or.inr h
  clear hAe
  have hS : va_S A s.heap s.heap [] := va_S.rf
  have hK := hE.1
  have hl := lv_entry ([.ref q0, .int x1]) (n := 2) (Nat.le_of_ble_eq_true rfl)
  rw [lg_entry_eq]
  generalize (lg_sl ([.ref q0, .int x1]) ++ List.replicate (2 - (lg_sl ([.ref q0, .int x1])).length) Slot.unset).toArray = ls at hl ⊢
  have hl : lv_has ls 2 [(0, .ref q0), (1, .int x1)] := hl
  have hi2 : ∀ w ∈ u_ws RX2 TX2 5, w ∈ wsX7_setting := fun w h => (List.mem_cons_of_mem _ (List.mem_append_right _ h))
  have hi7 : ∀ w ∈ u_ws RX7 TX7 9, w ∈ wsX7_setting := fun w h => (List.mem_cons_of_mem _ (List.mem_append_left _ (List.mem_append_right _ h)))
  obtain ⟨out, hout⟩ : ∃ o, o = ro := ⟨_, rfl⟩
  rw [← hout] at hf
  obtain ⟨QQ, hQQ⟩ : ∃ Q, Q = MQ below (va_Qi (fun (r' : Int32) (_ : Unit) => r' = ro) (CQ Γ (wd_X7_setting Γ q0 q1 q2 d0 d1 d2 d3 d4 d5 d6 d7 d8 d9 plate_columns plate_rows plate_numbers) A) A) (([.ref q0, .int x1] : List Value).toArray) s 0 0 A := ⟨_, rfl⟩
  show W p l e ({ frames := 0, cells := 0, slots := 0, locals := 0 } : Room) s m (([.ref q0, .int x1] : List Value).toArray) below meth c s.heap [] 0 0 (MQ below _ (([.ref q0, .int x1] : List Value).toArray) s 0 0 A) (F0 m 0 ls [])
  rw [← hQQ]
  have K_23 : ∀ (s0 : Int32) {H : Heap} {locs : List Loc} {ls : Array Slot}, va_P Γ.1 vwCl (wd_X7_setting Γ q0 q1 q2 d0 d1 d2 d3 d4 d5 d6 d7 d8 d9 plate_columns plate_rows plate_numbers) H → va_D A (wd_X7_setting Γ q0 q1 q2 d0 d1 d2 d3 d4 d5 d6 d7 d8 d9 plate_columns plate_rows plate_numbers) → va_S A s.heap H locs → lv_has ls 2 [] → f_X7_setting_23 s0 = some out → W p l e ({ frames := 0, cells := 0, slots := 0, locals := 0 } : Room) s m ([.ref q0, .int x1] : List Value).toArray below meth c H locs 0 0 QQ (F0 m 23 ls [.int s0]) := by
    intro s0 H locs ls hP hD hS hl hf
    unfold f_X7_setting_23 at hf
    subst hout; obtain rfl := Option.some.inj hf
    subst hQQ
    exact W.iret hx hb hr (fun t ht hW => ⟨⟨_, (), rfl, rfl, by rw [ht]; exact hP, hD⟩, hS.F ht⟩) hS.2.2 dX7_setting_23
  have K_10 : ∀ {H : Heap} {locs : List Loc} {ls : Array Slot}, va_P Γ.1 vwCl (wd_X7_setting Γ q0 q1 q2 d0 d1 d2 d3 d4 d5 d6 d7 d8 d9 plate_columns plate_rows plate_numbers) H → va_D A (wd_X7_setting Γ q0 q1 q2 d0 d1 d2 d3 d4 d5 d6 d7 d8 d9 plate_columns plate_rows plate_numbers) → va_S A s.heap H locs → lv_has ls 2 [] → f_X7_setting_10 = some out → W p l e ({ frames := 0, cells := 0, slots := 0, locals := 0 } : Room) s m ([.ref q0, .int x1] : List Value).toArray below meth c H locs 0 0 QQ (F0 m 10 ls []) := by
    intro H locs ls hP hD hS hl hf
    unfold f_X7_setting_10 at hf
    refine lv_iconst (v := (-1)) hx hb dX7_setting_10 (by decide) ?_
    refine lv_goto (tgt := 23) hx hb dX7_setting_11 (by decide) ?_
    exact K_23 (-1) hP hD hS (lv_sub hl [] rfl) hf
  unfold f_X7_setting at hf
  refine lv_iload_n hx hb dX7_setting_0 rfl (lv_at hl 1 rfl) ?_
  refine lv_if_lt (tgt := 10) hx hb dX7_setting_1 (by decide) (fun hc_1 => ?_) (fun hc_1 => ?_)
  · have hf := vm_pos hc_1 hf
    exact K_10  hP hD hS (lv_sub hl [] rfl) hf
  · have hf := vm_neg hc_1 hf
    refine lv_iload_n hx hb dX7_setting_4 rfl (lv_at hl 1 rfl) ?_
    refine lv_bipush (v := 7) hx hb dX7_setting_5 (by decide) ?_
    refine lv_icmp_lt (tgt := 14) hx hb dX7_setting_7 (by decide) (fun hc_2 => ?_) (fun hc_2 => ?_)
    · have hf := vm_pos hc_2 hf
      refine lv_aload_n hx hb dX7_setting_14 rfl (lv_at hl 0 rfl) ?_
      refine va_get (D := Γ.1) (ci := 7) (v := .ref q1) (C := RX7) (T := TX7) (N := 9) hx hb hts hi7 hown hK hP 0 rfl rfl 0 (by decide) (hts (.fieldLink RX7 10 "SandPlates" "plate" "LSandPlates$Plate;") (List.mem_of_getElem? (i := 1) rfl)) (fun _ h9 => h9) rfl dX7_setting_15 ?_
      refine va_getN (D := Γ.1) (ci := 2) (v := .ref q2) (C := RX2) (T := TX2) (N := 5) hx hb hts hi2 hown hK hP 1 rfl rfl 2 (by decide) (va_Nw.use rfl (nfX7_144 hE.2.1)) (fun _ h9 => h9) rfl dX7_setting_18 ?_
      refine lv_iload_n hx hb dX7_setting_21 rfl (lv_at hl 1 rfl) ?_
      obtain ⟨hc_3, hf⟩ := vm_ck hf
      refine vm_iald hx hb hK hP 2 0 rfl rfl hc_3 (j := x1.toNatClampNeg) rfl dX7_setting_22 ?_
      exact K_23 (plate_numbers (x1.toNatClampNeg)) hP hD hS (lv_sub hl [] rfl) hf
    · have hf := vm_neg hc_2 hf
      exact K_10  hP hD hS (lv_sub hl [] rfl) hf
def wd_X7_height (Γ : GE) (q0 q1 q2 q3 q4 q5 d0 d1 d2 d3 d4 d5 d6 d7 d8 d9 d10 d11 d12 : Nat) (plate_columns : Int32) (plate_rows : Int32) (plate_numbers : Nat → Int32) (motions_columns : Int32) (motions_rows : Int32) (motions_heights : Nat → Int32) (motions_speeds : Nat → Int32) : va_W := [(q0, .inr (7, [.ref q1, .ref d0, .ref d1, .ref d2, .ref d3, .ref q3, .ref d4, .ref d5, .ref d6])), (q1, .inr (2, [.int plate_columns, .int plate_rows, .ref q2, .ref d7, .ref d8])), (q2, .inl (Γ.2.1 0, 7, .inl plate_numbers)), (q3, .inr (1, [.ref q4, .ref q5, .ref d9, .ref d10, .ref d11, .int motions_columns, .int motions_rows, .ref d12])), (q4, .inl (Γ.2.1 0, 36, .inl motions_heights)), (q5, .inl (Γ.2.1 0, 36, .inl motions_speeds))]
def f_X7_height_26 (motions_heights : Nat → Int32) (motions_speeds : Nat → Int32) : Option (Int32 × (Nat → Int32) × (Nat → Int32)) := some ((-1000000), motions_heights, motions_speeds)
def f_X7_height (plate_columns : Int32) (plate_rows : Int32) (plate_numbers : Nat → Int32) (motions_heights : Nat → Int32) (motions_speeds : Nat → Int32) (x1 : Int32) (x2 : Int32) (x3 : Int32) : Option (Int32 × (Nat → Int32) × (Nat → Int32)) := ob1 (f_X2_cellAt plate_columns plate_rows x1 x2) (fun r_1 => if r_1 < 0 then (f_X7_height_26 motions_heights motions_speeds) else (if x3 < 0 then (f_X7_height_26 motions_heights motions_speeds) else (if x3 ≤ 60 then (ob3 (f_X1_heightBehind motions_heights motions_speeds plate_columns plate_rows plate_numbers r_1 x3) (fun r_6 motions_heights_7 motions_speeds_8 => some (r_6, motions_heights_7, motions_speeds_8))) else (f_X7_height_26 motions_heights motions_speeds))))
set_option maxHeartbeats 4000000 in
set_option maxRecDepth 100000 in
theorem c_X7_height (l : Launch) (Γ : GE) (sz : Nat) (q0 q1 q2 q3 q4 q5 d0 d1 d2 d3 d4 d5 d6 d7 d8 d9 d10 d11 d12 : Nat) (plate_columns : Int32) (plate_rows : Int32) (plate_numbers : Nat → Int32) (motions_columns : Int32) (motions_rows : Int32) (motions_heights : Nat → Int32) (motions_speeds : Nat → Int32) (x1 : Int32) (x2 : Int32) (x3 : Int32) (ro : Int32) (o_motions_heights : Nat → Int32) (o_motions_speeds : Nat → Int32) (hf : f_X7_height plate_columns plate_rows plate_numbers motions_heights motions_speeds x1 x2 x3 = some (ro, o_motions_heights, o_motions_speeds)) : MetI l yX7_height wsX7_height ({ frames := 3, cells := 0, slots := 0, locals := 82 } : Room) Γ [.ref q0, .int x1, .int x2, .int x3] (wd_X7_height Γ q0 q1 q2 q3 q4 q5 d0 d1 d2 d3 d4 d5 d6 d7 d8 d9 d10 d11 d12 plate_columns plate_rows plate_numbers motions_columns motions_rows motions_heights motions_speeds) (wd_X7_height Γ q0 q1 q2 q3 q4 q5 d0 d1 d2 d3 d4 d5 d6 d7 d8 d9 d10 d11 d12 plate_columns plate_rows plate_numbers motions_columns motions_rows o_motions_heights o_motions_speeds) sz ro := by
  refine Met.ofW (cc := cX7_height) (maxL := 5) (ret := (some .int)) (by decide) rfl ?_
  intro p e s m args below meth c s₁ B hml hv
  obtain ⟨rfl, hsz, hE, hP, hD⟩ := hv
  have hx := B.exec
  have hb := B.bytes
  have hr := B.returns
  have hts := atoms_spec (ws := wsX7_height) B.pre
  have hown : s.vm.findClass RX7 = some m.cls := findClass_of_methodNamed B.named
  have hlocks := B.notSynchronized
  subst hsz
  generalize hAe : va_A (wd_X7_height Γ q0 q1 q2 q3 q4 q5 d0 d1 d2 d3 d4 d5 d6 d7 d8 d9 d10 d11 d12 plate_columns plate_rows plate_numbers motions_columns motions_rows motions_heights motions_speeds) s.heap.size = A at hE hD ⊢
  have hA : ∀ q : Nat, s.heap.size ≤ q → A q := fun q h => by rw [← hAe]; exact Or.inr h
  clear hAe
  have hS : va_S A s.heap s.heap [] := va_S.rf
  have hK := hE.1
  have hl := lv_entry ([.ref q0, .int x1, .int x2, .int x3]) (n := 5) (Nat.le_of_ble_eq_true rfl)
  rw [lg_entry_eq]
  generalize (lg_sl ([.ref q0, .int x1, .int x2, .int x3]) ++ List.replicate (5 - (lg_sl ([.ref q0, .int x1, .int x2, .int x3])).length) Slot.unset).toArray = ls at hl ⊢
  have hl : lv_has ls 5 [(0, .ref q0), (1, .int x1), (2, .int x2), (3, .int x3)] := hl
  have hi1 : ∀ w ∈ u_ws RX1 TX1 8, w ∈ wsX7_height := fun w h => (List.mem_cons_of_mem _ (List.mem_append_right _ h))
  have hi2 : ∀ w ∈ u_ws RX2 TX2 5, w ∈ wsX7_height := fun w h => (List.mem_cons_of_mem _ (List.mem_append_left _ (List.mem_append_right _ h)))
  have hi7 : ∀ w ∈ u_ws RX7 TX7 9, w ∈ wsX7_height := fun w h => (List.mem_cons_of_mem _ (List.mem_append_left _ (List.mem_append_left _ (List.mem_append_right _ h))))
  obtain ⟨out, hout⟩ : ∃ o, o = (ro, o_motions_heights, o_motions_speeds) := ⟨_, rfl⟩
  rw [← hout] at hf
  obtain ⟨QQ, hQQ⟩ : ∃ Q, Q = MQ below (va_Qi (fun (r' : Int32) (_ : Unit) => r' = ro) (CQ Γ (wd_X7_height Γ q0 q1 q2 q3 q4 q5 d0 d1 d2 d3 d4 d5 d6 d7 d8 d9 d10 d11 d12 plate_columns plate_rows plate_numbers motions_columns motions_rows o_motions_heights o_motions_speeds) A) A) (([.ref q0, .int x1, .int x2, .int x3] : List Value).toArray) s 0 0 A := ⟨_, rfl⟩
  show W p l e ({ frames := 3, cells := 0, slots := 0, locals := 82 } : Room) s m (([.ref q0, .int x1, .int x2, .int x3] : List Value).toArray) below meth c s.heap [] 0 0 (MQ below _ (([.ref q0, .int x1, .int x2, .int x3] : List Value).toArray) s 0 0 A) (F0 m 0 ls [])
  rw [← hQQ]
  have K_26 : ∀ (motions_heights : Nat → Int32) (motions_speeds : Nat → Int32) {H : Heap} {locs : List Loc} {ls : Array Slot}, va_P Γ.1 vwCl (wd_X7_height Γ q0 q1 q2 q3 q4 q5 d0 d1 d2 d3 d4 d5 d6 d7 d8 d9 d10 d11 d12 plate_columns plate_rows plate_numbers motions_columns motions_rows motions_heights motions_speeds) H → va_D A (wd_X7_height Γ q0 q1 q2 q3 q4 q5 d0 d1 d2 d3 d4 d5 d6 d7 d8 d9 d10 d11 d12 plate_columns plate_rows plate_numbers motions_columns motions_rows motions_heights motions_speeds) → va_S A s.heap H locs → lv_has ls 5 [] → f_X7_height_26 motions_heights motions_speeds = some out → W p l e ({ frames := 3, cells := 0, slots := 0, locals := 82 } : Room) s m ([.ref q0, .int x1, .int x2, .int x3] : List Value).toArray below meth c H locs 0 0 QQ (F0 m 26 ls []) := by
    intro motions_heights motions_speeds H locs ls hP hD hS hl hf
    unfold f_X7_height_26 at hf
    refine lv_ldc hx hb hown (hts (.constant RX7 147 (-1000000)) (List.mem_of_getElem? (i := 2) rfl)) dX7_height_26 ?_
    subst hout; obtain ⟨rfl, rfl, rfl⟩ := rt3 hf
    subst hQQ
    exact W.iret hx hb hr (fun t ht hW => ⟨⟨_, (), rfl, rfl, by rw [ht]; exact hP, hD⟩, hS.F ht⟩) hS.2.2 dX7_height_28
  unfold f_X7_height at hf
  refine lv_aload_n hx hb dX7_height_0 rfl (lv_at hl 0 rfl) ?_
  refine va_get (D := Γ.1) (ci := 7) (v := .ref q1) (C := RX7) (T := TX7) (N := 9) hx hb hts hi7 hown hK hP 0 rfl rfl 0 (by decide) (hts (.fieldLink RX7 10 "SandPlates" "plate" "LSandPlates$Plate;") (List.mem_of_getElem? (i := 1) rfl)) (fun _ h9 => h9) rfl dX7_height_1 ?_
  refine lv_iload_n hx hb dX7_height_4 rfl (lv_at hl 1 rfl) ?_
  refine lv_iload_n hx hb dX7_height_5 rfl (lv_at hl 2 rfl) ?_
  obtain ⟨r_1, hq_2, hf⟩ := ob1_some hf
  refine vm_cNi (isC := [1]) (wc := (wd_X2_cellAt Γ q1 q2 d7 d8 plate_columns plate_rows)) (w1 := (wd_X2_cellAt Γ q1 q2 d7 d8 plate_columns plate_rows)) (As := [.int x1, .int x2]) (rest := []) ⟨hx, hb, hml, hown, hts⟩ hE hP hD hS hA rfl rfl rfl (c_X2_cellAt l Γ _ q1 q2 d7 d8 plate_columns plate_rows x1 x2 r_1 hq_2) ⟨va_cnB 2 hts ggX7_height_X2_cellAt rfl rfl rfl (nmX7_111 hE.2.1) (hts (.initialized RX2) (List.mem_of_getElem? (i := 5) rfl)) (by decide +kernel) ⟨Nat.le_of_ble_eq_true rfl, Nat.le_of_ble_eq_true rfl⟩, (hts (.instanceMethod yX2_cellAt) (List.mem_of_getElem? (i := 4) rfl)), (hts (.selects RX2 yX2_cellAt yX2_cellAt) (List.mem_of_getElem? (i := 6) rfl))⟩ (va_recv (ci := 2) (q0 := 1) hK hP rfl rfl) rfl hl.1 rfl (Nat.le_of_ble_eq_true rfl) dX7_height_6 ⟨Nat.zero_le _, Nat.zero_le _⟩ (fun H locs hP hD hS => ?_)
  have hP : va_P Γ.1 vwCl (wd_X7_height Γ q0 q1 q2 q3 q4 q5 d0 d1 d2 d3 d4 d5 d6 d7 d8 d9 d10 d11 d12 plate_columns plate_rows plate_numbers motions_columns motions_rows motions_heights motions_speeds) H := hP
  have hD : va_D A (wd_X7_height Γ q0 q1 q2 q3 q4 q5 d0 d1 d2 d3 d4 d5 d6 d7 d8 d9 d10 d11 d12 plate_columns plate_rows plate_numbers motions_columns motions_rows motions_heights motions_speeds) := hD
  refine lv_istore (lv' := [(4, .int r_1), (0, .ref q0), (1, .int x1), (2, .int x2), (3, .int x3)]) hx hb dX7_height_9 hl (by decide) rfl (fun ls hl => ?_)
  refine lv_iload hx hb dX7_height_11 (lv_at hl 0 rfl) ?_
  refine lv_if_lt (tgt := 26) hx hb dX7_height_13 (by decide) (fun hc_3 => ?_) (fun hc_3 => ?_)
  · have hf := vm_pos hc_3 hf
    exact K_26 motions_heights motions_speeds hP hD hS (lv_sub hl [] rfl) hf
  · have hf := vm_neg hc_3 hf
    refine lv_iload_n hx hb dX7_height_16 rfl (lv_at hl 4 rfl) ?_
    refine lv_if_lt (tgt := 26) hx hb dX7_height_17 (by decide) (fun hc_4 => ?_) (fun hc_4 => ?_)
    · have hf := vm_pos hc_4 hf
      exact K_26 motions_heights motions_speeds hP hD hS (lv_sub hl [] rfl) hf
    · have hf := vm_neg hc_4 hf
      refine lv_iload_n hx hb dX7_height_20 rfl (lv_at hl 4 rfl) ?_
      refine lv_bipush (v := 60) hx hb dX7_height_21 (by decide) ?_
      refine lv_icmp_le (tgt := 29) hx hb dX7_height_23 (by decide) (fun hc_5 => ?_) (fun hc_5 => ?_)
      · have hf := vm_pos hc_5 hf
        refine lv_aload_n hx hb dX7_height_29 rfl (lv_at hl 1 rfl) ?_
        refine va_get (D := Γ.1) (ci := 7) (v := .ref q3) (C := RX7) (T := TX7) (N := 9) hx hb hts hi7 hown hK hP 0 rfl rfl 5 (by decide) (hts (.fieldLink RX7 41 "SandPlates" "motions" "LSandPlates$Motions;") (List.mem_of_getElem? (i := 3) rfl)) (fun _ h9 => h9) rfl dX7_height_30 ?_
        refine lv_aload_n hx hb dX7_height_33 rfl (lv_at hl 1 rfl) ?_
        refine va_get (D := Γ.1) (ci := 7) (v := .ref q1) (C := RX7) (T := TX7) (N := 9) hx hb hts hi7 hown hK hP 0 rfl rfl 0 (by decide) (hts (.fieldLink RX7 10 "SandPlates" "plate" "LSandPlates$Plate;") (List.mem_of_getElem? (i := 1) rfl)) (fun _ h9 => h9) rfl dX7_height_34 ?_
        refine lv_iload hx hb dX7_height_37 (lv_at hl 0 rfl) ?_
        refine lv_iload_n hx hb dX7_height_39 rfl (lv_at hl 4 rfl) ?_
        obtain ⟨r_6, motions_heights_7, motions_speeds_8, hq_9, hf⟩ := ob3_some hf
        refine vm_cNi (isC := [3, 4, 5, 1, 2]) (wc := (wd_X1_heightBehind Γ q3 q4 q5 q1 q2 d9 d10 d11 d12 d7 d8 motions_columns motions_rows motions_heights motions_speeds plate_columns plate_rows plate_numbers)) (w1 := (wd_X1_heightBehind Γ q3 q4 q5 q1 q2 d9 d10 d11 d12 d7 d8 motions_columns motions_rows motions_heights_7 motions_speeds_8 plate_columns plate_rows plate_numbers)) (As := [.ref q1, .int r_1, .int x3]) (rest := []) ⟨hx, hb, hml, hown, hts⟩ hE hP hD hS hA rfl rfl rfl (c_X1_heightBehind l Γ _ q3 q4 q5 q1 q2 d9 d10 d11 d12 d7 d8 motions_columns motions_rows motions_heights motions_speeds plate_columns plate_rows plate_numbers r_1 x3 r_6 motions_heights_7 motions_speeds_8 hq_9) ⟨va_cnB 3 hts ggX7_height_X1_heightBehind rfl rfl rfl (nmX7_148 hE.2.1) (hts (.initialized RX1) (List.mem_of_getElem? (i := 11) rfl)) (by decide +kernel) ⟨Nat.le_of_ble_eq_true rfl, Nat.le_of_ble_eq_true rfl⟩, (hts (.instanceMethod yX1_heightBehind) (List.mem_of_getElem? (i := 10) rfl)), (hts (.selects RX1 yX1_heightBehind yX1_heightBehind) (List.mem_of_getElem? (i := 12) rfl))⟩ (va_recv (ci := 1) (q0 := 3) hK hP rfl rfl) rfl hl.1 rfl (Nat.le_of_ble_eq_true rfl) dX7_height_40 ⟨Nat.zero_le _, Nat.zero_le _⟩ (fun H locs hP hD hS => ?_)
        have hP : va_P Γ.1 vwCl (wd_X7_height Γ q0 q1 q2 q3 q4 q5 d0 d1 d2 d3 d4 d5 d6 d7 d8 d9 d10 d11 d12 plate_columns plate_rows plate_numbers motions_columns motions_rows motions_heights_7 motions_speeds_8) H := hP
        have hD : va_D A (wd_X7_height Γ q0 q1 q2 q3 q4 q5 d0 d1 d2 d3 d4 d5 d6 d7 d8 d9 d10 d11 d12 plate_columns plate_rows plate_numbers motions_columns motions_rows motions_heights_7 motions_speeds_8) := hD
        subst hout; obtain ⟨rfl, rfl, rfl⟩ := rt3 hf
        subst hQQ
        exact W.iret hx hb hr (fun t ht hW => ⟨⟨_, (), rfl, rfl, by rw [ht]; exact hP, hD⟩, hS.F ht⟩) hS.2.2 dX7_height_43
      · have hf := vm_neg hc_5 hf
        exact K_26 motions_heights motions_speeds hP hD hS (lv_sub hl [] rfl) hf
def wd_X7_sees (Γ : GE) (q0 q1 q2 q3 d0 d1 d2 d3 d4 d5 d6 d7 : Nat) (seen_many : Int32) (seen_cells : Nat → Int32) (seen_wereStill : Nat → Int32) : va_W := [(q0, .inr (7, [.ref d0, .ref d1, .ref d2, .ref d3, .ref d4, .ref d5, .ref d6, .ref q1, .ref d7])), (q1, .inr (4, [.ref q2, .ref q3, .int seen_many])), (q2, .inl (Γ.2.1 0, 6, .inl seen_cells)), (q3, .inl (Γ.2.1 0, 6, .inl seen_wereStill))]
def f_X7_sees_45 (seen_many : Int32) (seen_cells : Nat → Int32) (seen_wereStill : Nat → Int32) (s0 : Int32) : Option (Int32 × Int32 × (Nat → Int32) × (Nat → Int32)) := some (s0, seen_many, seen_cells, seen_wereStill)
def f_X7_sees_19 (seen_many : Int32) (seen_cells : Nat → Int32) (seen_wereStill : Nat → Int32) : Option (Int32 × Int32 × (Nat → Int32) × (Nat → Int32)) := some ((-1), seen_many, seen_cells, seen_wereStill)
def f_X7_sees (seen_many : Int32) (seen_cells : Nat → Int32) (seen_wereStill : Nat → Int32) (x1 : Int32) (x2 : Int32) : Option (Int32 × Int32 × (Nat → Int32) × (Nat → Int32)) := if x1 < 0 then (f_X7_sees_19 seen_many seen_cells seen_wereStill) else (if 36 ≤ x1 then (f_X7_sees_19 seen_many seen_cells seen_wereStill) else (if x2 < 0 then (f_X7_sees_19 seen_many seen_cells seen_wereStill) else (if x2 ≤ 1 then (ob4 (f_X4_add seen_many seen_cells seen_wereStill x1 x2) (fun r_5 seen_many_6 seen_cells_7 seen_wereStill_8 => if r_5 = 0 then (f_X7_sees_45 seen_many_6 seen_cells_7 seen_wereStill_8 (-3)) else (f_X7_sees_45 seen_many_6 seen_cells_7 seen_wereStill_8 seen_many_6))) else (f_X7_sees_19 seen_many seen_cells seen_wereStill))))
set_option maxHeartbeats 4000000 in
set_option maxRecDepth 100000 in
theorem c_X7_sees (l : Launch) (Γ : GE) (sz : Nat) (q0 q1 q2 q3 d0 d1 d2 d3 d4 d5 d6 d7 : Nat) (seen_many : Int32) (seen_cells : Nat → Int32) (seen_wereStill : Nat → Int32) (x1 : Int32) (x2 : Int32) (ro : Int32) (o_seen_many : Int32) (o_seen_cells : Nat → Int32) (o_seen_wereStill : Nat → Int32) (hf : f_X7_sees seen_many seen_cells seen_wereStill x1 x2 = some (ro, o_seen_many, o_seen_cells, o_seen_wereStill)) : MetI l yX7_sees wsX7_sees ({ frames := 1, cells := 0, slots := 0, locals := 22 } : Room) Γ [.ref q0, .int x1, .int x2] (wd_X7_sees Γ q0 q1 q2 q3 d0 d1 d2 d3 d4 d5 d6 d7 seen_many seen_cells seen_wereStill) (wd_X7_sees Γ q0 q1 q2 q3 d0 d1 d2 d3 d4 d5 d6 d7 o_seen_many o_seen_cells o_seen_wereStill) sz ro := by
  refine Met.ofW (cc := cX7_sees) (maxL := 3) (ret := (some .int)) (by decide) rfl ?_
  intro p e s m args below meth c s₁ B hml hv
  obtain ⟨rfl, hsz, hE, hP, hD⟩ := hv
  have hx := B.exec
  have hb := B.bytes
  have hr := B.returns
  have hts := atoms_spec (ws := wsX7_sees) B.pre
  have hown : s.vm.findClass RX7 = some m.cls := findClass_of_methodNamed B.named
  have hlocks := B.notSynchronized
  subst hsz
  generalize hAe : va_A (wd_X7_sees Γ q0 q1 q2 q3 d0 d1 d2 d3 d4 d5 d6 d7 seen_many seen_cells seen_wereStill) s.heap.size = A at hE hD ⊢
  have hA : ∀ q : Nat, s.heap.size ≤ q → A q := fun q h => by rw [← hAe]; exact Or.inr h
  clear hAe
  have hS : va_S A s.heap s.heap [] := va_S.rf
  have hK := hE.1
  have hl := lv_entry ([.ref q0, .int x1, .int x2]) (n := 3) (Nat.le_of_ble_eq_true rfl)
  rw [lg_entry_eq]
  generalize (lg_sl ([.ref q0, .int x1, .int x2]) ++ List.replicate (3 - (lg_sl ([.ref q0, .int x1, .int x2])).length) Slot.unset).toArray = ls at hl ⊢
  have hl : lv_has ls 3 [(0, .ref q0), (1, .int x1), (2, .int x2)] := hl
  have hi4 : ∀ w ∈ u_ws RX4 TX4 3, w ∈ wsX7_sees := fun w h => (List.mem_cons_of_mem _ (List.mem_append_right _ h))
  have hi7 : ∀ w ∈ u_ws RX7 TX7 9, w ∈ wsX7_sees := fun w h => (List.mem_cons_of_mem _ (List.mem_append_left _ (List.mem_append_right _ h)))
  obtain ⟨out, hout⟩ : ∃ o, o = (ro, o_seen_many, o_seen_cells, o_seen_wereStill) := ⟨_, rfl⟩
  rw [← hout] at hf
  obtain ⟨QQ, hQQ⟩ : ∃ Q, Q = MQ below (va_Qi (fun (r' : Int32) (_ : Unit) => r' = ro) (CQ Γ (wd_X7_sees Γ q0 q1 q2 q3 d0 d1 d2 d3 d4 d5 d6 d7 o_seen_many o_seen_cells o_seen_wereStill) A) A) (([.ref q0, .int x1, .int x2] : List Value).toArray) s 0 0 A := ⟨_, rfl⟩
  show W p l e ({ frames := 1, cells := 0, slots := 0, locals := 22 } : Room) s m (([.ref q0, .int x1, .int x2] : List Value).toArray) below meth c s.heap [] 0 0 (MQ below _ (([.ref q0, .int x1, .int x2] : List Value).toArray) s 0 0 A) (F0 m 0 ls [])
  rw [← hQQ]
  have K_45 : ∀ (seen_many : Int32) (seen_cells : Nat → Int32) (seen_wereStill : Nat → Int32) (s0 : Int32) {H : Heap} {locs : List Loc} {ls : Array Slot}, va_P Γ.1 vwCl (wd_X7_sees Γ q0 q1 q2 q3 d0 d1 d2 d3 d4 d5 d6 d7 seen_many seen_cells seen_wereStill) H → va_D A (wd_X7_sees Γ q0 q1 q2 q3 d0 d1 d2 d3 d4 d5 d6 d7 seen_many seen_cells seen_wereStill) → va_S A s.heap H locs → lv_has ls 3 [] → f_X7_sees_45 seen_many seen_cells seen_wereStill s0 = some out → W p l e ({ frames := 1, cells := 0, slots := 0, locals := 22 } : Room) s m ([.ref q0, .int x1, .int x2] : List Value).toArray below meth c H locs 0 0 QQ (F0 m 45 ls [.int s0]) := by
    intro seen_many seen_cells seen_wereStill s0 H locs ls hP hD hS hl hf
    unfold f_X7_sees_45 at hf
    subst hout; obtain ⟨rfl, rfl, rfl, rfl⟩ := rt4 hf
    subst hQQ
    exact W.iret hx hb hr (fun t ht hW => ⟨⟨_, (), rfl, rfl, by rw [ht]; exact hP, hD⟩, hS.F ht⟩) hS.2.2 dX7_sees_45
  have K_19 : ∀ (seen_many : Int32) (seen_cells : Nat → Int32) (seen_wereStill : Nat → Int32) {H : Heap} {locs : List Loc} {ls : Array Slot}, va_P Γ.1 vwCl (wd_X7_sees Γ q0 q1 q2 q3 d0 d1 d2 d3 d4 d5 d6 d7 seen_many seen_cells seen_wereStill) H → va_D A (wd_X7_sees Γ q0 q1 q2 q3 d0 d1 d2 d3 d4 d5 d6 d7 seen_many seen_cells seen_wereStill) → va_S A s.heap H locs → lv_has ls 3 [] → f_X7_sees_19 seen_many seen_cells seen_wereStill = some out → W p l e ({ frames := 1, cells := 0, slots := 0, locals := 22 } : Room) s m ([.ref q0, .int x1, .int x2] : List Value).toArray below meth c H locs 0 0 QQ (F0 m 19 ls []) := by
    intro seen_many seen_cells seen_wereStill H locs ls hP hD hS hl hf
    unfold f_X7_sees_19 at hf
    refine lv_iconst (v := (-1)) hx hb dX7_sees_19 (by decide) ?_
    subst hout; obtain ⟨rfl, rfl, rfl, rfl⟩ := rt4 hf
    subst hQQ
    exact W.iret hx hb hr (fun t ht hW => ⟨⟨_, (), rfl, rfl, by rw [ht]; exact hP, hD⟩, hS.F ht⟩) hS.2.2 dX7_sees_20
  unfold f_X7_sees at hf
  refine lv_iload_n hx hb dX7_sees_0 rfl (lv_at hl 1 rfl) ?_
  refine lv_if_lt (tgt := 19) hx hb dX7_sees_1 (by decide) (fun hc_1 => ?_) (fun hc_1 => ?_)
  · have hf := vm_pos hc_1 hf
    exact K_19 seen_many seen_cells seen_wereStill hP hD hS (lv_sub hl [] rfl) hf
  · have hf := vm_neg hc_1 hf
    refine lv_iload_n hx hb dX7_sees_4 rfl (lv_at hl 1 rfl) ?_
    refine lv_bipush (v := 36) hx hb dX7_sees_5 (by decide) ?_
    refine lv_icmp_ge (tgt := 19) hx hb dX7_sees_7 (by decide) (fun hc_2 => ?_) (fun hc_2 => ?_)
    · have hf := vm_pos hc_2 hf
      exact K_19 seen_many seen_cells seen_wereStill hP hD hS (lv_sub hl [] rfl) hf
    · have hf := vm_neg hc_2 hf
      refine lv_iload_n hx hb dX7_sees_10 rfl (lv_at hl 2 rfl) ?_
      refine lv_if_lt (tgt := 19) hx hb dX7_sees_11 (by decide) (fun hc_3 => ?_) (fun hc_3 => ?_)
      · have hf := vm_pos hc_3 hf
        exact K_19 seen_many seen_cells seen_wereStill hP hD hS (lv_sub hl [] rfl) hf
      · have hf := vm_neg hc_3 hf
        refine lv_iload_n hx hb dX7_sees_14 rfl (lv_at hl 2 rfl) ?_
        refine lv_iconst (v := 1) hx hb dX7_sees_15 (by decide) ?_
        refine lv_icmp_le (tgt := 21) hx hb dX7_sees_16 (by decide) (fun hc_4 => ?_) (fun hc_4 => ?_)
        · have hf := vm_pos hc_4 hf
          refine lv_aload_n hx hb dX7_sees_21 rfl (lv_at hl 0 rfl) ?_
          refine va_get (D := Γ.1) (ci := 7) (v := .ref q1) (C := RX7) (T := TX7) (N := 9) hx hb hts hi7 hown hK hP 0 rfl rfl 7 (by decide) (hts (.fieldLink RX7 55 "SandPlates" "seen" "LSandPlates$Seen;") (List.mem_of_getElem? (i := 1) rfl)) (fun _ h9 => h9) rfl dX7_sees_22 ?_
          refine lv_iload_n hx hb dX7_sees_25 rfl (lv_at hl 1 rfl) ?_
          refine lv_iload_n hx hb dX7_sees_26 rfl (lv_at hl 2 rfl) ?_
          obtain ⟨r_5, seen_many_6, seen_cells_7, seen_wereStill_8, hq_9, hf⟩ := ob4_some hf
          refine vm_cNi (isC := [1, 2, 3]) (wc := (wd_X4_add Γ q1 q2 q3 seen_many seen_cells seen_wereStill)) (w1 := (wd_X4_add Γ q1 q2 q3 seen_many_6 seen_cells_7 seen_wereStill_8)) (As := [.int x1, .int x2]) (rest := []) ⟨hx, hb, hml, hown, hts⟩ hE hP hD hS hA rfl rfl rfl (c_X4_add l Γ _ q1 q2 q3 seen_many seen_cells seen_wereStill x1 x2 r_5 seen_many_6 seen_cells_7 seen_wereStill_8 hq_9) ⟨va_cnB 2 hts ggX7_sees_X4_add rfl rfl rfl (nmX7_166 hE.2.1) (hts (.initialized RX4) (List.mem_of_getElem? (i := 3) rfl)) (by decide +kernel) ⟨Nat.le_of_ble_eq_true rfl, Nat.le_of_ble_eq_true rfl⟩, (hts (.instanceMethod yX4_add) (List.mem_of_getElem? (i := 2) rfl)), (hts (.selects RX4 yX4_add yX4_add) (List.mem_of_getElem? (i := 4) rfl))⟩ (va_recv (ci := 4) (q0 := 1) hK hP rfl rfl) rfl hl.1 rfl (Nat.le_of_ble_eq_true rfl) dX7_sees_27 ⟨Nat.zero_le _, Nat.zero_le _⟩ (fun H locs hP hD hS => ?_)
          have hP : va_P Γ.1 vwCl (wd_X7_sees Γ q0 q1 q2 q3 d0 d1 d2 d3 d4 d5 d6 d7 seen_many_6 seen_cells_7 seen_wereStill_8) H := hP
          have hD : va_D A (wd_X7_sees Γ q0 q1 q2 q3 d0 d1 d2 d3 d4 d5 d6 d7 seen_many_6 seen_cells_7 seen_wereStill_8) := hD
          refine lv_if_eq (tgt := 43) hx hb dX7_sees_30 (by decide) (fun hc_10 => ?_) (fun hc_10 => ?_)
          · have hf := vm_pos hc_10 hf
            refine lv_bipush (v := (-3)) hx hb dX7_sees_43 (by decide) ?_
            exact K_45 seen_many_6 seen_cells_7 seen_wereStill_8 (-3) hP hD hS (lv_sub hl [] rfl) hf
          · have hf := vm_neg hc_10 hf
            refine lv_aload_n hx hb dX7_sees_33 rfl (lv_at hl 0 rfl) ?_
            refine va_get (D := Γ.1) (ci := 7) (v := .ref q1) (C := RX7) (T := TX7) (N := 9) hx hb hts hi7 hown hK hP 0 rfl rfl 7 (by decide) (hts (.fieldLink RX7 55 "SandPlates" "seen" "LSandPlates$Seen;") (List.mem_of_getElem? (i := 1) rfl)) (fun _ h9 => h9) rfl dX7_sees_34 ?_
            refine va_getN (D := Γ.1) (ci := 4) (v := .int seen_many_6) (C := RX4) (T := TX4) (N := 3) hx hb hts hi4 hown hK hP 1 rfl rfl 2 (by decide) (va_Nw.use rfl (nfX7_169 hE.2.1)) (fun _ h9 => h9) rfl dX7_sees_37 ?_
            refine lv_goto (tgt := 45) hx hb dX7_sees_40 (by decide) ?_
            exact K_45 seen_many_6 seen_cells_7 seen_wereStill_8 seen_many_6 hP hD hS (lv_sub hl [] rfl) hf
        · have hf := vm_neg hc_4 hf
          exact K_19 seen_many seen_cells seen_wereStill hP hD hS (lv_sub hl [] rfl) hf
def wd_X7_forget (Γ : GE) (q0 q1 d0 d1 d2 d3 d4 d5 d6 d7 d8 d9 : Nat) (seen_many : Int32) : va_W := [(q0, .inr (7, [.ref d0, .ref d1, .ref d2, .ref d3, .ref d4, .ref d5, .ref d6, .ref q1, .ref d7])), (q1, .inr (4, [.ref d8, .ref d9, .int seen_many]))]
def f_X7_forget (seen_many : Int32) : Option (Int32 × Int32) := some (seen_many, 0)
set_option maxHeartbeats 4000000 in
set_option maxRecDepth 100000 in
theorem c_X7_forget (l : Launch) (Γ : GE) (sz : Nat) (q0 q1 d0 d1 d2 d3 d4 d5 d6 d7 d8 d9 : Nat) (seen_many : Int32) (ro : Int32) (o_seen_many : Int32) (hf : f_X7_forget seen_many = some (ro, o_seen_many)) : MetI l yX7_forget wsX7_forget ({ frames := 0, cells := 0, slots := 0, locals := 0 } : Room) Γ [.ref q0] (wd_X7_forget Γ q0 q1 d0 d1 d2 d3 d4 d5 d6 d7 d8 d9 seen_many) (wd_X7_forget Γ q0 q1 d0 d1 d2 d3 d4 d5 d6 d7 d8 d9 o_seen_many) sz ro := by
  refine Met.ofW (cc := cX7_forget) (maxL := 2) (ret := (some .int)) (by decide) rfl ?_
  intro p e s m args below meth c s₁ B hml hv
  obtain ⟨rfl, hsz, hE, hP, hD⟩ := hv
  have hx := B.exec
  have hb := B.bytes
  have hr := B.returns
  have hts := atoms_spec (ws := wsX7_forget) B.pre
  have hown : s.vm.findClass RX7 = some m.cls := findClass_of_methodNamed B.named
  have hlocks := B.notSynchronized
  subst hsz
  generalize hAe : va_A (wd_X7_forget Γ q0 q1 d0 d1 d2 d3 d4 d5 d6 d7 d8 d9 seen_many) s.heap.size = A at hE hD ⊢
  have hA : ∀ q : Nat, s.heap.size ≤ q → A q := fun q h => by rw [← hAe]; exact Or.inr h
  clear hAe
  have hS : va_S A s.heap s.heap [] := va_S.rf
  have hK := hE.1
  have hl := lv_entry ([.ref q0]) (n := 2) (Nat.le_of_ble_eq_true rfl)
  rw [lg_entry_eq]
  generalize (lg_sl ([.ref q0]) ++ List.replicate (2 - (lg_sl ([.ref q0])).length) Slot.unset).toArray = ls at hl ⊢
  have hl : lv_has ls 2 [(0, .ref q0)] := hl
  have hi4 : ∀ w ∈ u_ws RX4 TX4 3, w ∈ wsX7_forget := fun w h => (List.mem_cons_of_mem _ (List.mem_append_right _ h))
  have hi7 : ∀ w ∈ u_ws RX7 TX7 9, w ∈ wsX7_forget := fun w h => (List.mem_cons_of_mem _ (List.mem_append_left _ (List.mem_append_right _ h)))
  obtain ⟨out, hout⟩ : ∃ o, o = (ro, o_seen_many) := ⟨_, rfl⟩
  rw [← hout] at hf
  obtain ⟨QQ, hQQ⟩ : ∃ Q, Q = MQ below (va_Qi (fun (r' : Int32) (_ : Unit) => r' = ro) (CQ Γ (wd_X7_forget Γ q0 q1 d0 d1 d2 d3 d4 d5 d6 d7 d8 d9 o_seen_many) A) A) (([.ref q0] : List Value).toArray) s 0 0 A := ⟨_, rfl⟩
  show W p l e ({ frames := 0, cells := 0, slots := 0, locals := 0 } : Room) s m (([.ref q0] : List Value).toArray) below meth c s.heap [] 0 0 (MQ below _ (([.ref q0] : List Value).toArray) s 0 0 A) (F0 m 0 ls [])
  rw [← hQQ]
  unfold f_X7_forget at hf
  refine lv_aload_n hx hb dX7_forget_0 rfl (lv_at hl 0 rfl) ?_
  refine va_get (D := Γ.1) (ci := 7) (v := .ref q1) (C := RX7) (T := TX7) (N := 9) hx hb hts hi7 hown hK hP 0 rfl rfl 7 (by decide) (hts (.fieldLink RX7 55 "SandPlates" "seen" "LSandPlates$Seen;") (List.mem_of_getElem? (i := 1) rfl)) (fun _ h9 => h9) rfl dX7_forget_1 ?_
  refine va_getN (D := Γ.1) (ci := 4) (v := .int seen_many) (C := RX4) (T := TX4) (N := 3) hx hb hts hi4 hown hK hP 1 rfl rfl 2 (by decide) (va_Nw.use rfl (nfX7_169 hE.2.1)) (fun _ h9 => h9) rfl dX7_forget_4 ?_
  refine lv_istore_n (lv' := [(1, .int seen_many), (0, .ref q0)]) hx hb dX7_forget_7 rfl hl (by decide) rfl (fun ls hl => ?_)
  refine lv_aload_n hx hb dX7_forget_8 rfl (lv_at hl 1 rfl) ?_
  refine va_get (D := Γ.1) (ci := 7) (v := .ref q1) (C := RX7) (T := TX7) (N := 9) hx hb hts hi7 hown hK hP 0 rfl rfl 7 (by decide) (hts (.fieldLink RX7 55 "SandPlates" "seen" "LSandPlates$Seen;") (List.mem_of_getElem? (i := 1) rfl)) (fun _ h9 => h9) rfl dX7_forget_9 ?_
  refine lv_iconst (v := 0) hx hb dX7_forget_12 (by decide) ?_
  refine va_putN (D := Γ.1) (ci := 4) (v := .int 0) (ty := .int) (C := RX4) (T := TX4) (N := 3) hx hb hts hi4 tyX4 tyX4_ok nmX4 hown hK hP hD hS 1 rfl rfl 2 (by decide) (va_Nw.use rfl (nfX7_169 hE.2.1)) (fun _ h9 => h9) rfl (by decide +kernel) rfl rfl (Nat.le_of_ble_eq_true rfl) dX7_forget_13 (fun H locs hP hD hS => ?_)
  have hP : va_P Γ.1 vwCl (wd_X7_forget Γ q0 q1 d0 d1 d2 d3 d4 d5 d6 d7 d8 d9 0) H := hP
  have hD : va_D A (wd_X7_forget Γ q0 q1 d0 d1 d2 d3 d4 d5 d6 d7 d8 d9 0) := hD
  refine lv_iload_n hx hb dX7_forget_16 rfl (lv_at hl 0 rfl) ?_
  subst hout; obtain ⟨rfl, rfl⟩ := rt2 hf
  subst hQQ
  exact W.iret hx hb hr (fun t ht hW => ⟨⟨_, (), rfl, rfl, by rw [ht]; exact hP, hD⟩, hS.F ht⟩) hS.2.2 dX7_forget_17
def wd_X7_keep (Γ : GE) (q0 q1 q2 q3 q4 q5 q6 d0 d1 d2 d3 d4 d5 : Nat) (plate_columns : Int32) (plate_rows : Int32) (plate_numbers : Nat → Int32) (plate_figure : Nat → Int32) (plate_grains : Nat → Int32) (iad : Nat → Nat) (iW : Nat → Int32) (iH : Nat → Int32) (iN : Nat → Nat → Int32) (iF : Nat → Nat → Int32) (iG : Nat → Nat → Int32) (isKept : Nat → Int32) : va_W := [(q0, .inr (7, [.ref q1, .ref d0, .ref q5, .ref q6, .ref d1, .ref d2, .ref d3, .ref d4, .ref d5])), (q1, .inr (2, [.int plate_columns, .int plate_rows, .ref q2, .ref q3, .ref q4])), (q2, .inl (Γ.2.1 0, 7, .inl plate_numbers)), (q3, .inl (Γ.2.1 0, 36, .inl plate_figure)), (q4, .inl (Γ.2.1 0, 36, .inl plate_grains))] ++ (segI Γ q5 iad iW iH iN iF iG ++ ([(q6, .inl (Γ.2.1 1, 2, .inl isKept))]))
def f_X7_keep_9 (iW : Nat → Int32) (iH : Nat → Int32) (iN : Nat → Nat → Int32) (iF : Nat → Nat → Int32) (iG : Nat → Nat → Int32) (isKept : Nat → Int32) : Option (Int32 × (Nat → Int32) × (Nat → Int32) × (Nat → Nat → Int32) × (Nat → Nat → Int32) × (Nat → Nat → Int32) × (Nat → Int32)) := some ((-1), iW, iH, iN, iF, iG, isKept)
def f_X7_keep (plate_columns : Int32) (plate_rows : Int32) (plate_numbers : Nat → Int32) (plate_figure : Nat → Int32) (plate_grains : Nat → Int32) (iad : Nat → Nat) (iW : Nat → Int32) (iH : Nat → Int32) (iN : Nat → Nat → Int32) (iF : Nat → Nat → Int32) (iG : Nat → Nat → Int32) (isKept : Nat → Int32) (x1 : Int32) : Option (Int32 × (Nat → Int32) × (Nat → Int32) × (Nat → Nat → Int32) × (Nat → Nat → Int32) × (Nat → Nat → Int32) × (Nat → Int32)) := if x1 < 0 then (f_X7_keep_9 iW iH iN iF iG isKept) else (if x1 < 2 then (if x1 = 0 then (ob5 (f_X2_takeFrom (iN 0) (iF 0) (iG 0) plate_columns plate_rows plate_numbers plate_figure plate_grains) (fun iW_4 iH_5 iN_6 iF_7 iG_8 => if inb x1 2 = true then ob1 (f_X2_cells plate_columns plate_rows) (fun r_11 => some (r_11, (va_up iW 0 iW_4), (va_up iH 0 iH_5), (va_up iN 0 iN_6), (va_up iF 0 iF_7), (va_up iG 0 iG_8), (upd isKept (x1.toNatClampNeg) (vp_nar .boolean 1)))) else none)) else if x1 = 1 then (ob5 (f_X2_takeFrom (iN 1) (iF 1) (iG 1) plate_columns plate_rows plate_numbers plate_figure plate_grains) (fun iW_14 iH_15 iN_16 iF_17 iG_18 => if inb x1 2 = true then ob1 (f_X2_cells plate_columns plate_rows) (fun r_21 => some (r_21, (va_up iW 1 iW_14), (va_up iH 1 iH_15), (va_up iN 1 iN_16), (va_up iF 1 iF_17), (va_up iG 1 iG_18), (upd isKept (x1.toNatClampNeg) (vp_nar .boolean 1)))) else none)) else none) else (f_X7_keep_9 iW iH iN iF iG isKept))
set_option maxHeartbeats 4000000 in
set_option maxRecDepth 100000 in
theorem c_X7_keep (l : Launch) (Γ : GE) (sz : Nat) (q0 q1 q2 q3 q4 q5 q6 d0 d1 d2 d3 d4 d5 : Nat) (plate_columns : Int32) (plate_rows : Int32) (plate_numbers : Nat → Int32) (plate_figure : Nat → Int32) (plate_grains : Nat → Int32) (iad : Nat → Nat) (iW : Nat → Int32) (iH : Nat → Int32) (iN : Nat → Nat → Int32) (iF : Nat → Nat → Int32) (iG : Nat → Nat → Int32) (isKept : Nat → Int32) (x1 : Int32) (ro : Int32) (o_iW : Nat → Int32) (o_iH : Nat → Int32) (o_iN : Nat → Nat → Int32) (o_iF : Nat → Nat → Int32) (o_iG : Nat → Nat → Int32) (o_isKept : Nat → Int32) (hf : f_X7_keep plate_columns plate_rows plate_numbers plate_figure plate_grains iad iW iH iN iF iG isKept x1 = some (ro, o_iW, o_iH, o_iN, o_iF, o_iG, o_isKept)) : MetI l yX7_keep wsX7_keep ({ frames := 2, cells := 0, slots := 0, locals := 69 } : Room) Γ [.ref q0, .int x1] (wd_X7_keep Γ q0 q1 q2 q3 q4 q5 q6 d0 d1 d2 d3 d4 d5 plate_columns plate_rows plate_numbers plate_figure plate_grains iad iW iH iN iF iG isKept) (wd_X7_keep Γ q0 q1 q2 q3 q4 q5 q6 d0 d1 d2 d3 d4 d5 plate_columns plate_rows plate_numbers plate_figure plate_grains iad o_iW o_iH o_iN o_iF o_iG o_isKept) sz ro := by
  refine Met.ofW (cc := cX7_keep) (maxL := 2) (ret := (some .int)) (by decide) rfl ?_
  intro p e s m args below meth c s₁ B hml hv
  obtain ⟨rfl, hsz, hE, hP, hD⟩ := hv
  have hx := B.exec
  have hb := B.bytes
  have hr := B.returns
  have hts := atoms_spec (ws := wsX7_keep) B.pre
  have hown : s.vm.findClass RX7 = some m.cls := findClass_of_methodNamed B.named
  have hlocks := B.notSynchronized
  subst hsz
  generalize hAe : va_A (wd_X7_keep Γ q0 q1 q2 q3 q4 q5 q6 d0 d1 d2 d3 d4 d5 plate_columns plate_rows plate_numbers plate_figure plate_grains iad iW iH iN iF iG isKept) s.heap.size = A at hE hD ⊢
  have hA : ∀ q : Nat, s.heap.size ≤ q → A q := fun q h => by rw [← hAe]; exact Or.inr h
  clear hAe
  have hS : va_S A s.heap s.heap [] := va_S.rf
  have hK := hE.1
  have hl := lv_entry ([.ref q0, .int x1]) (n := 2) (Nat.le_of_ble_eq_true rfl)
  rw [lg_entry_eq]
  generalize (lg_sl ([.ref q0, .int x1]) ++ List.replicate (2 - (lg_sl ([.ref q0, .int x1])).length) Slot.unset).toArray = ls at hl ⊢
  have hl : lv_has ls 2 [(0, .ref q0), (1, .int x1)] := hl
  have hi2 : ∀ w ∈ u_ws RX2 TX2 5, w ∈ wsX7_keep := fun w h => (List.mem_cons_of_mem _ (List.mem_append_right _ h))
  have hi7 : ∀ w ∈ u_ws RX7 TX7 9, w ∈ wsX7_keep := fun w h => (List.mem_cons_of_mem _ (List.mem_append_left _ (List.mem_append_right _ h)))
  obtain ⟨out, hout⟩ : ∃ o, o = (ro, o_iW, o_iH, o_iN, o_iF, o_iG, o_isKept) := ⟨_, rfl⟩
  rw [← hout] at hf
  obtain ⟨QQ, hQQ⟩ : ∃ Q, Q = MQ below (va_Qi (fun (r' : Int32) (_ : Unit) => r' = ro) (CQ Γ (wd_X7_keep Γ q0 q1 q2 q3 q4 q5 q6 d0 d1 d2 d3 d4 d5 plate_columns plate_rows plate_numbers plate_figure plate_grains iad o_iW o_iH o_iN o_iF o_iG o_isKept) A) A) (([.ref q0, .int x1] : List Value).toArray) s 0 0 A := ⟨_, rfl⟩
  show W p l e ({ frames := 2, cells := 0, slots := 0, locals := 69 } : Room) s m (([.ref q0, .int x1] : List Value).toArray) below meth c s.heap [] 0 0 (MQ below _ (([.ref q0, .int x1] : List Value).toArray) s 0 0 A) (F0 m 0 ls [])
  rw [← hQQ]
  have K_9 : ∀ (iW : Nat → Int32) (iH : Nat → Int32) (iN : Nat → Nat → Int32) (iF : Nat → Nat → Int32) (iG : Nat → Nat → Int32) (isKept : Nat → Int32) {H : Heap} {locs : List Loc} {ls : Array Slot}, va_P Γ.1 vwCl (wd_X7_keep Γ q0 q1 q2 q3 q4 q5 q6 d0 d1 d2 d3 d4 d5 plate_columns plate_rows plate_numbers plate_figure plate_grains iad iW iH iN iF iG isKept) H → va_D A (wd_X7_keep Γ q0 q1 q2 q3 q4 q5 q6 d0 d1 d2 d3 d4 d5 plate_columns plate_rows plate_numbers plate_figure plate_grains iad iW iH iN iF iG isKept) → va_S A s.heap H locs → lv_has ls 2 [] → f_X7_keep_9 iW iH iN iF iG isKept = some out → W p l e ({ frames := 2, cells := 0, slots := 0, locals := 69 } : Room) s m ([.ref q0, .int x1] : List Value).toArray below meth c H locs 0 0 QQ (F0 m 9 ls []) := by
    intro iW iH iN iF iG isKept H locs ls hP hD hS hl hf
    unfold f_X7_keep_9 at hf
    refine lv_iconst (v := (-1)) hx hb dX7_keep_9 (by decide) ?_
    subst hout; obtain ⟨rfl, rfl, rfl, rfl, rfl, rfl, rfl⟩ := rt7 hf
    subst hQQ
    exact W.iret hx hb hr (fun t ht hW => ⟨⟨_, (), rfl, rfl, by rw [ht]; exact hP, hD⟩, hS.F ht⟩) hS.2.2 dX7_keep_10
  unfold f_X7_keep at hf
  refine lv_iload_n hx hb dX7_keep_0 rfl (lv_at hl 1 rfl) ?_
  refine lv_if_lt (tgt := 9) hx hb dX7_keep_1 (by decide) (fun hc_1 => ?_) (fun hc_1 => ?_)
  · have hf := vm_pos hc_1 hf
    exact K_9 iW iH iN iF iG isKept hP hD hS (lv_sub hl [] rfl) hf
  · have hf := vm_neg hc_1 hf
    refine lv_iload_n hx hb dX7_keep_4 rfl (lv_at hl 1 rfl) ?_
    refine lv_iconst (v := 2) hx hb dX7_keep_5 (by decide) ?_
    refine lv_icmp_lt (tgt := 11) hx hb dX7_keep_6 (by decide) (fun hc_2 => ?_) (fun hc_2 => ?_)
    · have hf := vm_pos hc_2 hf
      refine lv_aload_n hx hb dX7_keep_11 rfl (lv_at hl 0 rfl) ?_
      refine va_get (D := Γ.1) (ci := 7) (v := .ref q5) (C := RX7) (T := TX7) (N := 9) hx hb hts hi7 hown hK hP 0 rfl rfl 2 (by decide) (hts (.fieldLink RX7 23 "SandPlates" "images" "[LSandPlates$Plate;") (List.mem_of_getElem? (i := 1) rfl)) (fun _ h9 => h9) rfl dX7_keep_12 ?_
      refine lv_iload_n hx hb dX7_keep_15 rfl (lv_at hl 1 rfl) ?_
      by_cases hc_3 : x1 = 0
      · have hf := vm_pos hc_3 hf
        refine vm_aald hx hb hK hP 5 2 rfl rfl (by rw [hc_3]; decide +kernel) (v := iad 0) (by rw [hc_3]; rfl) dX7_keep_16 ?_
        refine lv_aload_n hx hb dX7_keep_17 rfl (lv_at hl 0 rfl) ?_
        refine va_get (D := Γ.1) (ci := 7) (v := .ref q1) (C := RX7) (T := TX7) (N := 9) hx hb hts hi7 hown hK hP 0 rfl rfl 0 (by decide) (hts (.fieldLink RX7 10 "SandPlates" "plate" "LSandPlates$Plate;") (List.mem_of_getElem? (i := 2) rfl)) (fun _ h9 => h9) rfl dX7_keep_18 ?_
        obtain ⟨iW_4, iH_5, iN_6, iF_7, iG_8, hq_9, hf⟩ := ob5_some hf
        refine vm_cNv (isC := [6, 7, 8, 9, 1, 2, 3, 4]) (wc := (wd_X2_takeFrom Γ (iad 0) (iad 1) (iad 2) (iad 3) q1 q2 q3 q4 (iW 0) (iH 0) (iN 0) (iF 0) (iG 0) plate_columns plate_rows plate_numbers plate_figure plate_grains)) (w1 := (wd_X2_takeFrom Γ (iad 0) (iad 1) (iad 2) (iad 3) q1 q2 q3 q4 iW_4 iH_5 iN_6 iF_7 iG_8 plate_columns plate_rows plate_numbers plate_figure plate_grains)) (As := [.ref q1]) (rest := []) ⟨hx, hb, hml, hown, hts⟩ hE hP hD hS hA rfl rfl rfl (c_X2_takeFrom l Γ _ (iad 0) (iad 1) (iad 2) (iad 3) q1 q2 q3 q4 (iW 0) (iH 0) (iN 0) (iF 0) (iG 0) plate_columns plate_rows plate_numbers plate_figure plate_grains iW_4 iH_5 iN_6 iF_7 iG_8 hq_9) ⟨va_cnB 1 hts ggX7_keep_X2_takeFrom rfl rfl rfl (nmX7_86 hE.2.1) (hts (.initialized RX2) (List.mem_of_getElem? (i := 5) rfl)) (by decide +kernel) ⟨Nat.le_of_ble_eq_true rfl, Nat.le_of_ble_eq_true rfl⟩, (hts (.instanceMethod yX2_takeFrom) (List.mem_of_getElem? (i := 4) rfl)), (hts (.selects RX2 yX2_takeFrom yX2_takeFrom) (List.mem_of_getElem? (i := 6) rfl))⟩ (va_recv (ci := 2) (q0 := 6) hK hP rfl rfl) rfl hl.1 rfl (Nat.le_of_ble_eq_true rfl) dX7_keep_21 ⟨Nat.zero_le _, Nat.zero_le _⟩ (fun H locs hP hD hS => ?_)
        have hP : va_P Γ.1 vwCl (wd_X7_keep Γ q0 q1 q2 q3 q4 q5 q6 d0 d1 d2 d3 d4 d5 plate_columns plate_rows plate_numbers plate_figure plate_grains iad (va_up iW 0 iW_4) (va_up iH 0 iH_5) (va_up iN 0 iN_6) (va_up iF 0 iF_7) (va_up iG 0 iG_8) isKept) H := hP
        have hD : va_D A (wd_X7_keep Γ q0 q1 q2 q3 q4 q5 q6 d0 d1 d2 d3 d4 d5 plate_columns plate_rows plate_numbers plate_figure plate_grains iad (va_up iW 0 iW_4) (va_up iH 0 iH_5) (va_up iN 0 iN_6) (va_up iF 0 iF_7) (va_up iG 0 iG_8) isKept) := hD
        refine lv_aload_n hx hb dX7_keep_24 rfl (lv_at hl 0 rfl) ?_
        refine va_get (D := Γ.1) (ci := 7) (v := .ref q6) (C := RX7) (T := TX7) (N := 9) hx hb hts hi7 hown hK hP 0 rfl rfl 3 (by decide) (hts (.fieldLink RX7 27 "SandPlates" "isKept" "[Z") (List.mem_of_getElem? (i := 3) rfl)) (fun _ h9 => h9) rfl dX7_keep_25 ?_
        refine lv_iload_n hx hb dX7_keep_28 rfl (lv_at hl 1 rfl) ?_
        refine lv_iconst (v := 1) hx hb dX7_keep_29 (by decide) ?_
        obtain ⟨hc_10, hf⟩ := vm_ck hf
        refine vm_zast hx hb hK hP hD hS 14 1 rfl rfl hc_10 (j := (x1.toNatClampNeg)) rfl dX7_keep_30 (fun H locs hP hD hS => ?_)
        have hP : va_P Γ.1 vwCl (wd_X7_keep Γ q0 q1 q2 q3 q4 q5 q6 d0 d1 d2 d3 d4 d5 plate_columns plate_rows plate_numbers plate_figure plate_grains iad (va_up iW 0 iW_4) (va_up iH 0 iH_5) (va_up iN 0 iN_6) (va_up iF 0 iF_7) (va_up iG 0 iG_8) (upd isKept (x1.toNatClampNeg) (vp_nar .boolean 1))) H := hP
        have hD : va_D A (wd_X7_keep Γ q0 q1 q2 q3 q4 q5 q6 d0 d1 d2 d3 d4 d5 plate_columns plate_rows plate_numbers plate_figure plate_grains iad (va_up iW 0 iW_4) (va_up iH 0 iH_5) (va_up iN 0 iN_6) (va_up iF 0 iF_7) (va_up iG 0 iG_8) (upd isKept (x1.toNatClampNeg) (vp_nar .boolean 1))) := hD
        refine lv_aload_n hx hb dX7_keep_31 rfl (lv_at hl 0 rfl) ?_
        refine va_get (D := Γ.1) (ci := 7) (v := .ref q1) (C := RX7) (T := TX7) (N := 9) hx hb hts hi7 hown hK hP 0 rfl rfl 0 (by decide) (hts (.fieldLink RX7 10 "SandPlates" "plate" "LSandPlates$Plate;") (List.mem_of_getElem? (i := 2) rfl)) (fun _ h9 => h9) rfl dX7_keep_32 ?_
        obtain ⟨r_11, hq_12, hf⟩ := ob1_some hf
        refine vm_cNi (isC := [1]) (wc := (wd_X2_cells Γ q1 q2 q3 q4 plate_columns plate_rows)) (w1 := (wd_X2_cells Γ q1 q2 q3 q4 plate_columns plate_rows)) (As := []) (rest := []) ⟨hx, hb, hml, hown, hts⟩ hE hP hD hS hA rfl rfl rfl (c_X2_cells l Γ _ q1 q2 q3 q4 plate_columns plate_rows r_11 hq_12) ⟨va_cnB 0 hts ggX7_keep_X2_cells rfl rfl rfl (nmX7_120 hE.2.1) (hts (.initialized RX2) (List.mem_of_getElem? (i := 5) rfl)) (by decide +kernel) ⟨Nat.le_of_ble_eq_true rfl, Nat.le_of_ble_eq_true rfl⟩, (hts (.instanceMethod yX2_cells) (List.mem_of_getElem? (i := 17) rfl)), (hts (.selects RX2 yX2_cells yX2_cells) (List.mem_of_getElem? (i := 18) rfl))⟩ (va_recv (ci := 2) (q0 := 1) hK hP rfl rfl) rfl hl.1 rfl (Nat.le_of_ble_eq_true rfl) dX7_keep_35 ⟨Nat.zero_le _, Nat.zero_le _⟩ (fun H locs hP hD hS => ?_)
        have hP : va_P Γ.1 vwCl (wd_X7_keep Γ q0 q1 q2 q3 q4 q5 q6 d0 d1 d2 d3 d4 d5 plate_columns plate_rows plate_numbers plate_figure plate_grains iad (va_up iW 0 iW_4) (va_up iH 0 iH_5) (va_up iN 0 iN_6) (va_up iF 0 iF_7) (va_up iG 0 iG_8) (upd isKept (x1.toNatClampNeg) (vp_nar .boolean 1))) H := hP
        have hD : va_D A (wd_X7_keep Γ q0 q1 q2 q3 q4 q5 q6 d0 d1 d2 d3 d4 d5 plate_columns plate_rows plate_numbers plate_figure plate_grains iad (va_up iW 0 iW_4) (va_up iH 0 iH_5) (va_up iN 0 iN_6) (va_up iF 0 iF_7) (va_up iG 0 iG_8) (upd isKept (x1.toNatClampNeg) (vp_nar .boolean 1))) := hD
        subst hout; obtain ⟨rfl, rfl, rfl, rfl, rfl, rfl, rfl⟩ := rt7 hf
        subst hQQ
        exact W.iret hx hb hr (fun t ht hW => ⟨⟨_, (), rfl, rfl, by rw [ht]; exact hP, hD⟩, hS.F ht⟩) hS.2.2 dX7_keep_38
      · have hf := vm_neg hc_3 hf
        by_cases hc_13 : x1 = 1
        · have hf := vm_pos hc_13 hf
          refine vm_aald hx hb hK hP 5 2 rfl rfl (by rw [hc_13]; decide +kernel) (v := iad 4) (by rw [hc_13]; rfl) dX7_keep_16 ?_
          refine lv_aload_n hx hb dX7_keep_17 rfl (lv_at hl 0 rfl) ?_
          refine va_get (D := Γ.1) (ci := 7) (v := .ref q1) (C := RX7) (T := TX7) (N := 9) hx hb hts hi7 hown hK hP 0 rfl rfl 0 (by decide) (hts (.fieldLink RX7 10 "SandPlates" "plate" "LSandPlates$Plate;") (List.mem_of_getElem? (i := 2) rfl)) (fun _ h9 => h9) rfl dX7_keep_18 ?_
          obtain ⟨iW_14, iH_15, iN_16, iF_17, iG_18, hq_19, hf⟩ := ob5_some hf
          refine vm_cNv (isC := [10, 11, 12, 13, 1, 2, 3, 4]) (wc := (wd_X2_takeFrom Γ (iad 4) (iad 5) (iad 6) (iad 7) q1 q2 q3 q4 (iW 1) (iH 1) (iN 1) (iF 1) (iG 1) plate_columns plate_rows plate_numbers plate_figure plate_grains)) (w1 := (wd_X2_takeFrom Γ (iad 4) (iad 5) (iad 6) (iad 7) q1 q2 q3 q4 iW_14 iH_15 iN_16 iF_17 iG_18 plate_columns plate_rows plate_numbers plate_figure plate_grains)) (As := [.ref q1]) (rest := []) ⟨hx, hb, hml, hown, hts⟩ hE hP hD hS hA rfl rfl rfl (c_X2_takeFrom l Γ _ (iad 4) (iad 5) (iad 6) (iad 7) q1 q2 q3 q4 (iW 1) (iH 1) (iN 1) (iF 1) (iG 1) plate_columns plate_rows plate_numbers plate_figure plate_grains iW_14 iH_15 iN_16 iF_17 iG_18 hq_19) ⟨va_cnB 1 hts ggX7_keep_X2_takeFrom rfl rfl rfl (nmX7_86 hE.2.1) (hts (.initialized RX2) (List.mem_of_getElem? (i := 5) rfl)) (by decide +kernel) ⟨Nat.le_of_ble_eq_true rfl, Nat.le_of_ble_eq_true rfl⟩, (hts (.instanceMethod yX2_takeFrom) (List.mem_of_getElem? (i := 4) rfl)), (hts (.selects RX2 yX2_takeFrom yX2_takeFrom) (List.mem_of_getElem? (i := 6) rfl))⟩ (va_recv (ci := 2) (q0 := 10) hK hP rfl rfl) rfl hl.1 rfl (Nat.le_of_ble_eq_true rfl) dX7_keep_21 ⟨Nat.zero_le _, Nat.zero_le _⟩ (fun H locs hP hD hS => ?_)
          have hP : va_P Γ.1 vwCl (wd_X7_keep Γ q0 q1 q2 q3 q4 q5 q6 d0 d1 d2 d3 d4 d5 plate_columns plate_rows plate_numbers plate_figure plate_grains iad (va_up iW 1 iW_14) (va_up iH 1 iH_15) (va_up iN 1 iN_16) (va_up iF 1 iF_17) (va_up iG 1 iG_18) isKept) H := hP
          have hD : va_D A (wd_X7_keep Γ q0 q1 q2 q3 q4 q5 q6 d0 d1 d2 d3 d4 d5 plate_columns plate_rows plate_numbers plate_figure plate_grains iad (va_up iW 1 iW_14) (va_up iH 1 iH_15) (va_up iN 1 iN_16) (va_up iF 1 iF_17) (va_up iG 1 iG_18) isKept) := hD
          refine lv_aload_n hx hb dX7_keep_24 rfl (lv_at hl 0 rfl) ?_
          refine va_get (D := Γ.1) (ci := 7) (v := .ref q6) (C := RX7) (T := TX7) (N := 9) hx hb hts hi7 hown hK hP 0 rfl rfl 3 (by decide) (hts (.fieldLink RX7 27 "SandPlates" "isKept" "[Z") (List.mem_of_getElem? (i := 3) rfl)) (fun _ h9 => h9) rfl dX7_keep_25 ?_
          refine lv_iload_n hx hb dX7_keep_28 rfl (lv_at hl 1 rfl) ?_
          refine lv_iconst (v := 1) hx hb dX7_keep_29 (by decide) ?_
          obtain ⟨hc_20, hf⟩ := vm_ck hf
          refine vm_zast hx hb hK hP hD hS 14 1 rfl rfl hc_20 (j := (x1.toNatClampNeg)) rfl dX7_keep_30 (fun H locs hP hD hS => ?_)
          have hP : va_P Γ.1 vwCl (wd_X7_keep Γ q0 q1 q2 q3 q4 q5 q6 d0 d1 d2 d3 d4 d5 plate_columns plate_rows plate_numbers plate_figure plate_grains iad (va_up iW 1 iW_14) (va_up iH 1 iH_15) (va_up iN 1 iN_16) (va_up iF 1 iF_17) (va_up iG 1 iG_18) (upd isKept (x1.toNatClampNeg) (vp_nar .boolean 1))) H := hP
          have hD : va_D A (wd_X7_keep Γ q0 q1 q2 q3 q4 q5 q6 d0 d1 d2 d3 d4 d5 plate_columns plate_rows plate_numbers plate_figure plate_grains iad (va_up iW 1 iW_14) (va_up iH 1 iH_15) (va_up iN 1 iN_16) (va_up iF 1 iF_17) (va_up iG 1 iG_18) (upd isKept (x1.toNatClampNeg) (vp_nar .boolean 1))) := hD
          refine lv_aload_n hx hb dX7_keep_31 rfl (lv_at hl 0 rfl) ?_
          refine va_get (D := Γ.1) (ci := 7) (v := .ref q1) (C := RX7) (T := TX7) (N := 9) hx hb hts hi7 hown hK hP 0 rfl rfl 0 (by decide) (hts (.fieldLink RX7 10 "SandPlates" "plate" "LSandPlates$Plate;") (List.mem_of_getElem? (i := 2) rfl)) (fun _ h9 => h9) rfl dX7_keep_32 ?_
          obtain ⟨r_21, hq_22, hf⟩ := ob1_some hf
          refine vm_cNi (isC := [1]) (wc := (wd_X2_cells Γ q1 q2 q3 q4 plate_columns plate_rows)) (w1 := (wd_X2_cells Γ q1 q2 q3 q4 plate_columns plate_rows)) (As := []) (rest := []) ⟨hx, hb, hml, hown, hts⟩ hE hP hD hS hA rfl rfl rfl (c_X2_cells l Γ _ q1 q2 q3 q4 plate_columns plate_rows r_21 hq_22) ⟨va_cnB 0 hts ggX7_keep_X2_cells rfl rfl rfl (nmX7_120 hE.2.1) (hts (.initialized RX2) (List.mem_of_getElem? (i := 5) rfl)) (by decide +kernel) ⟨Nat.le_of_ble_eq_true rfl, Nat.le_of_ble_eq_true rfl⟩, (hts (.instanceMethod yX2_cells) (List.mem_of_getElem? (i := 17) rfl)), (hts (.selects RX2 yX2_cells yX2_cells) (List.mem_of_getElem? (i := 18) rfl))⟩ (va_recv (ci := 2) (q0 := 1) hK hP rfl rfl) rfl hl.1 rfl (Nat.le_of_ble_eq_true rfl) dX7_keep_35 ⟨Nat.zero_le _, Nat.zero_le _⟩ (fun H locs hP hD hS => ?_)
          have hP : va_P Γ.1 vwCl (wd_X7_keep Γ q0 q1 q2 q3 q4 q5 q6 d0 d1 d2 d3 d4 d5 plate_columns plate_rows plate_numbers plate_figure plate_grains iad (va_up iW 1 iW_14) (va_up iH 1 iH_15) (va_up iN 1 iN_16) (va_up iF 1 iF_17) (va_up iG 1 iG_18) (upd isKept (x1.toNatClampNeg) (vp_nar .boolean 1))) H := hP
          have hD : va_D A (wd_X7_keep Γ q0 q1 q2 q3 q4 q5 q6 d0 d1 d2 d3 d4 d5 plate_columns plate_rows plate_numbers plate_figure plate_grains iad (va_up iW 1 iW_14) (va_up iH 1 iH_15) (va_up iN 1 iN_16) (va_up iF 1 iF_17) (va_up iG 1 iG_18) (upd isKept (x1.toNatClampNeg) (vp_nar .boolean 1))) := hD
          subst hout; obtain ⟨rfl, rfl, rfl, rfl, rfl, rfl, rfl⟩ := rt7 hf
          subst hQQ
          exact W.iret hx hb hr (fun t ht hW => ⟨⟨_, (), rfl, rfl, by rw [ht]; exact hP, hD⟩, hS.F ht⟩) hS.2.2 dX7_keep_38
        · have hf := vm_neg hc_13 hf
          exact nomatch hf
    · have hf := vm_neg hc_2 hf
      exact K_9 iW iH iN iF iG isKept hP hD hS (lv_sub hl [] rfl) hf
def wd_X7_back (Γ : GE) (q0 q1 q2 q3 q4 q5 q6 q7 d0 d1 d2 d3 d4 d5 : Nat) (plate_columns : Int32) (plate_rows : Int32) (plate_numbers : Nat → Int32) (plate_figure : Nat → Int32) (plate_grains : Nat → Int32) (history_known : Int32) (iad : Nat → Nat) (iW : Nat → Int32) (iH : Nat → Int32) (iN : Nat → Nat → Int32) (iF : Nat → Nat → Int32) (iG : Nat → Nat → Int32) (isKept : Nat → Int32) : va_W := [(q0, .inr (7, [.ref q1, .ref q5, .ref q6, .ref q7, .ref d0, .ref d1, .ref d2, .ref d3, .ref d4])), (q1, .inr (2, [.int plate_columns, .int plate_rows, .ref q2, .ref q3, .ref q4])), (q2, .inl (Γ.2.1 0, 7, .inl plate_numbers)), (q3, .inl (Γ.2.1 0, 36, .inl plate_figure)), (q4, .inl (Γ.2.1 0, 36, .inl plate_grains)), (q5, .inr (0, [.ref d5, .int history_known]))] ++ (segI Γ q6 iad iW iH iN iF iG ++ ([(q7, .inl (Γ.2.1 1, 2, .inl isKept))]))
def f_X7_back_9 (plate_columns : Int32) (plate_rows : Int32) (plate_numbers : Nat → Int32) (plate_figure : Nat → Int32) (plate_grains : Nat → Int32) (history_known : Int32) : Option (Int32 × Int32 × Int32 × (Nat → Int32) × (Nat → Int32) × (Nat → Int32) × Int32) := some ((-1), plate_columns, plate_rows, plate_numbers, plate_figure, plate_grains, history_known)
def f_X7_back (plate_columns : Int32) (plate_rows : Int32) (plate_numbers : Nat → Int32) (plate_figure : Nat → Int32) (plate_grains : Nat → Int32) (history_known : Int32) (iad : Nat → Nat) (iW : Nat → Int32) (iH : Nat → Int32) (iN : Nat → Nat → Int32) (iF : Nat → Nat → Int32) (iG : Nat → Nat → Int32) (isKept : Nat → Int32) (x1 : Int32) : Option (Int32 × Int32 × Int32 × (Nat → Int32) × (Nat → Int32) × (Nat → Int32) × Int32) := if x1 < 0 then (f_X7_back_9 plate_columns plate_rows plate_numbers plate_figure plate_grains history_known) else (if x1 < 2 then (if inb x1 2 = true then if (isKept (x1.toNatClampNeg)) = 0 then (some ((-2), plate_columns, plate_rows, plate_numbers, plate_figure, plate_grains, history_known)) else (if x1 = 0 then (ob5 (f_X2_takeFrom plate_numbers plate_figure plate_grains (iW 0) (iH 0) (iN 0) (iF 0) (iG 0)) (fun plate_columns_6 plate_rows_7 plate_numbers_8 plate_figure_9 plate_grains_10 => ob1 (f_X2_cells plate_columns_6 plate_rows_7) (fun r_12 => some (r_12, plate_columns_6, plate_rows_7, plate_numbers_8, plate_figure_9, plate_grains_10, 0)))) else if x1 = 1 then (ob5 (f_X2_takeFrom plate_numbers plate_figure plate_grains (iW 1) (iH 1) (iN 1) (iF 1) (iG 1)) (fun plate_columns_15 plate_rows_16 plate_numbers_17 plate_figure_18 plate_grains_19 => ob1 (f_X2_cells plate_columns_15 plate_rows_16) (fun r_21 => some (r_21, plate_columns_15, plate_rows_16, plate_numbers_17, plate_figure_18, plate_grains_19, 0)))) else none) else none) else (f_X7_back_9 plate_columns plate_rows plate_numbers plate_figure plate_grains history_known))
set_option maxHeartbeats 4000000 in
set_option maxRecDepth 100000 in
theorem c_X7_back (l : Launch) (Γ : GE) (sz : Nat) (q0 q1 q2 q3 q4 q5 q6 q7 d0 d1 d2 d3 d4 d5 : Nat) (plate_columns : Int32) (plate_rows : Int32) (plate_numbers : Nat → Int32) (plate_figure : Nat → Int32) (plate_grains : Nat → Int32) (history_known : Int32) (iad : Nat → Nat) (iW : Nat → Int32) (iH : Nat → Int32) (iN : Nat → Nat → Int32) (iF : Nat → Nat → Int32) (iG : Nat → Nat → Int32) (isKept : Nat → Int32) (x1 : Int32) (ro : Int32) (o_plate_columns : Int32) (o_plate_rows : Int32) (o_plate_numbers : Nat → Int32) (o_plate_figure : Nat → Int32) (o_plate_grains : Nat → Int32) (o_history_known : Int32) (hf : f_X7_back plate_columns plate_rows plate_numbers plate_figure plate_grains history_known iad iW iH iN iF iG isKept x1 = some (ro, o_plate_columns, o_plate_rows, o_plate_numbers, o_plate_figure, o_plate_grains, o_history_known)) : MetI l yX7_back wsX7_back ({ frames := 2, cells := 0, slots := 0, locals := 69 } : Room) Γ [.ref q0, .int x1] (wd_X7_back Γ q0 q1 q2 q3 q4 q5 q6 q7 d0 d1 d2 d3 d4 d5 plate_columns plate_rows plate_numbers plate_figure plate_grains history_known iad iW iH iN iF iG isKept) (wd_X7_back Γ q0 q1 q2 q3 q4 q5 q6 q7 d0 d1 d2 d3 d4 d5 o_plate_columns o_plate_rows o_plate_numbers o_plate_figure o_plate_grains o_history_known iad iW iH iN iF iG isKept) sz ro := by
  refine Met.ofW (cc := cX7_back) (maxL := 2) (ret := (some .int)) (by decide) rfl ?_
  intro p e s m args below meth c s₁ B hml hv
  obtain ⟨rfl, hsz, hE, hP, hD⟩ := hv
  have hx := B.exec
  have hb := B.bytes
  have hr := B.returns
  have hts := atoms_spec (ws := wsX7_back) B.pre
  have hown : s.vm.findClass RX7 = some m.cls := findClass_of_methodNamed B.named
  have hlocks := B.notSynchronized
  subst hsz
  generalize hAe : va_A (wd_X7_back Γ q0 q1 q2 q3 q4 q5 q6 q7 d0 d1 d2 d3 d4 d5 plate_columns plate_rows plate_numbers plate_figure plate_grains history_known iad iW iH iN iF iG isKept) s.heap.size = A at hE hD ⊢
  have hA : ∀ q : Nat, s.heap.size ≤ q → A q := fun q h => by rw [← hAe]; exact Or.inr h
  clear hAe
  have hS : va_S A s.heap s.heap [] := va_S.rf
  have hK := hE.1
  have hl := lv_entry ([.ref q0, .int x1]) (n := 2) (Nat.le_of_ble_eq_true rfl)
  rw [lg_entry_eq]
  generalize (lg_sl ([.ref q0, .int x1]) ++ List.replicate (2 - (lg_sl ([.ref q0, .int x1])).length) Slot.unset).toArray = ls at hl ⊢
  have hl : lv_has ls 2 [(0, .ref q0), (1, .int x1)] := hl
  have hi0 : ∀ w ∈ u_ws RX0 TX0 2, w ∈ wsX7_back := fun w h => (List.mem_cons_of_mem _ (List.mem_append_left _ (List.mem_append_right _ h)))
  have hi2 : ∀ w ∈ u_ws RX2 TX2 5, w ∈ wsX7_back := fun w h => (List.mem_cons_of_mem _ (List.mem_append_right _ h))
  have hi7 : ∀ w ∈ u_ws RX7 TX7 9, w ∈ wsX7_back := fun w h => (List.mem_cons_of_mem _ (List.mem_append_left _ (List.mem_append_left _ (List.mem_append_right _ h))))
  obtain ⟨out, hout⟩ : ∃ o, o = (ro, o_plate_columns, o_plate_rows, o_plate_numbers, o_plate_figure, o_plate_grains, o_history_known) := ⟨_, rfl⟩
  rw [← hout] at hf
  obtain ⟨QQ, hQQ⟩ : ∃ Q, Q = MQ below (va_Qi (fun (r' : Int32) (_ : Unit) => r' = ro) (CQ Γ (wd_X7_back Γ q0 q1 q2 q3 q4 q5 q6 q7 d0 d1 d2 d3 d4 d5 o_plate_columns o_plate_rows o_plate_numbers o_plate_figure o_plate_grains o_history_known iad iW iH iN iF iG isKept) A) A) (([.ref q0, .int x1] : List Value).toArray) s 0 0 A := ⟨_, rfl⟩
  show W p l e ({ frames := 2, cells := 0, slots := 0, locals := 69 } : Room) s m (([.ref q0, .int x1] : List Value).toArray) below meth c s.heap [] 0 0 (MQ below _ (([.ref q0, .int x1] : List Value).toArray) s 0 0 A) (F0 m 0 ls [])
  rw [← hQQ]
  have K_9 : ∀ (plate_columns : Int32) (plate_rows : Int32) (plate_numbers : Nat → Int32) (plate_figure : Nat → Int32) (plate_grains : Nat → Int32) (history_known : Int32) {H : Heap} {locs : List Loc} {ls : Array Slot}, va_P Γ.1 vwCl (wd_X7_back Γ q0 q1 q2 q3 q4 q5 q6 q7 d0 d1 d2 d3 d4 d5 plate_columns plate_rows plate_numbers plate_figure plate_grains history_known iad iW iH iN iF iG isKept) H → va_D A (wd_X7_back Γ q0 q1 q2 q3 q4 q5 q6 q7 d0 d1 d2 d3 d4 d5 plate_columns plate_rows plate_numbers plate_figure plate_grains history_known iad iW iH iN iF iG isKept) → va_S A s.heap H locs → lv_has ls 2 [] → f_X7_back_9 plate_columns plate_rows plate_numbers plate_figure plate_grains history_known = some out → W p l e ({ frames := 2, cells := 0, slots := 0, locals := 69 } : Room) s m ([.ref q0, .int x1] : List Value).toArray below meth c H locs 0 0 QQ (F0 m 9 ls []) := by
    intro plate_columns plate_rows plate_numbers plate_figure plate_grains history_known H locs ls hP hD hS hl hf
    unfold f_X7_back_9 at hf
    refine lv_iconst (v := (-1)) hx hb dX7_back_9 (by decide) ?_
    subst hout; obtain ⟨rfl, rfl, rfl, rfl, rfl, rfl, rfl⟩ := rt7 hf
    subst hQQ
    exact W.iret hx hb hr (fun t ht hW => ⟨⟨_, (), rfl, rfl, by rw [ht]; exact hP, hD⟩, hS.F ht⟩) hS.2.2 dX7_back_10
  unfold f_X7_back at hf
  refine lv_iload_n hx hb dX7_back_0 rfl (lv_at hl 1 rfl) ?_
  refine lv_if_lt (tgt := 9) hx hb dX7_back_1 (by decide) (fun hc_1 => ?_) (fun hc_1 => ?_)
  · have hf := vm_pos hc_1 hf
    exact K_9 plate_columns plate_rows plate_numbers plate_figure plate_grains history_known hP hD hS (lv_sub hl [] rfl) hf
  · have hf := vm_neg hc_1 hf
    refine lv_iload_n hx hb dX7_back_4 rfl (lv_at hl 1 rfl) ?_
    refine lv_iconst (v := 2) hx hb dX7_back_5 (by decide) ?_
    refine lv_icmp_lt (tgt := 11) hx hb dX7_back_6 (by decide) (fun hc_2 => ?_) (fun hc_2 => ?_)
    · have hf := vm_pos hc_2 hf
      refine lv_aload_n hx hb dX7_back_11 rfl (lv_at hl 0 rfl) ?_
      refine va_get (D := Γ.1) (ci := 7) (v := .ref q7) (C := RX7) (T := TX7) (N := 9) hx hb hts hi7 hown hK hP 0 rfl rfl 3 (by decide) (hts (.fieldLink RX7 27 "SandPlates" "isKept" "[Z") (List.mem_of_getElem? (i := 1) rfl)) (fun _ h9 => h9) rfl dX7_back_12 ?_
      refine lv_iload_n hx hb dX7_back_15 rfl (lv_at hl 1 rfl) ?_
      obtain ⟨hc_3, hf⟩ := vm_ck hf
      refine vm_zald hx hb hK hP 15 1 rfl rfl hc_3 (j := x1.toNatClampNeg) rfl dX7_back_16 ?_
      refine lv_if_ne (tgt := 23) hx hb dX7_back_17 (by decide) (fun hc_4 => ?_) (fun hc_4 => ?_)
      · have hf := vm_neg hc_4 hf
        refine lv_aload_n hx hb dX7_back_23 rfl (lv_at hl 0 rfl) ?_
        refine va_get (D := Γ.1) (ci := 7) (v := .ref q1) (C := RX7) (T := TX7) (N := 9) hx hb hts hi7 hown hK hP 0 rfl rfl 0 (by decide) (hts (.fieldLink RX7 10 "SandPlates" "plate" "LSandPlates$Plate;") (List.mem_of_getElem? (i := 2) rfl)) (fun _ h9 => h9) rfl dX7_back_24 ?_
        refine lv_aload_n hx hb dX7_back_27 rfl (lv_at hl 0 rfl) ?_
        refine va_get (D := Γ.1) (ci := 7) (v := .ref q6) (C := RX7) (T := TX7) (N := 9) hx hb hts hi7 hown hK hP 0 rfl rfl 2 (by decide) (hts (.fieldLink RX7 23 "SandPlates" "images" "[LSandPlates$Plate;") (List.mem_of_getElem? (i := 3) rfl)) (fun _ h9 => h9) rfl dX7_back_28 ?_
        refine lv_iload_n hx hb dX7_back_31 rfl (lv_at hl 1 rfl) ?_
        by_cases hc_5 : x1 = 0
        · have hf := vm_pos hc_5 hf
          refine vm_aald hx hb hK hP 6 2 rfl rfl (by rw [hc_5]; decide +kernel) (v := iad 0) (by rw [hc_5]; rfl) dX7_back_32 ?_
          obtain ⟨plate_columns_6, plate_rows_7, plate_numbers_8, plate_figure_9, plate_grains_10, hq_11, hf⟩ := ob5_some hf
          refine vm_cNv (isC := [1, 2, 3, 4, 7, 8, 9, 10]) (wc := (wd_X2_takeFrom Γ q1 q2 q3 q4 (iad 0) (iad 1) (iad 2) (iad 3) plate_columns plate_rows plate_numbers plate_figure plate_grains (iW 0) (iH 0) (iN 0) (iF 0) (iG 0))) (w1 := (wd_X2_takeFrom Γ q1 q2 q3 q4 (iad 0) (iad 1) (iad 2) (iad 3) plate_columns_6 plate_rows_7 plate_numbers_8 plate_figure_9 plate_grains_10 (iW 0) (iH 0) (iN 0) (iF 0) (iG 0))) (As := [.ref (iad 0)]) (rest := []) ⟨hx, hb, hml, hown, hts⟩ hE hP hD hS hA rfl rfl rfl (c_X2_takeFrom l Γ _ q1 q2 q3 q4 (iad 0) (iad 1) (iad 2) (iad 3) plate_columns plate_rows plate_numbers plate_figure plate_grains (iW 0) (iH 0) (iN 0) (iF 0) (iG 0) plate_columns_6 plate_rows_7 plate_numbers_8 plate_figure_9 plate_grains_10 hq_11) ⟨va_cnB 1 hts ggX7_back_X2_takeFrom rfl rfl rfl (nmX7_86 hE.2.1) (hts (.initialized RX2) (List.mem_of_getElem? (i := 6) rfl)) (by decide +kernel) ⟨Nat.le_of_ble_eq_true rfl, Nat.le_of_ble_eq_true rfl⟩, (hts (.instanceMethod yX2_takeFrom) (List.mem_of_getElem? (i := 5) rfl)), (hts (.selects RX2 yX2_takeFrom yX2_takeFrom) (List.mem_of_getElem? (i := 7) rfl))⟩ (va_recv (ci := 2) (q0 := 1) hK hP rfl rfl) rfl hl.1 rfl (Nat.le_of_ble_eq_true rfl) dX7_back_33 ⟨Nat.zero_le _, Nat.zero_le _⟩ (fun H locs hP hD hS => ?_)
          have hP : va_P Γ.1 vwCl (wd_X7_back Γ q0 q1 q2 q3 q4 q5 q6 q7 d0 d1 d2 d3 d4 d5 plate_columns_6 plate_rows_7 plate_numbers_8 plate_figure_9 plate_grains_10 history_known iad iW iH iN iF iG isKept) H := hP
          have hD : va_D A (wd_X7_back Γ q0 q1 q2 q3 q4 q5 q6 q7 d0 d1 d2 d3 d4 d5 plate_columns_6 plate_rows_7 plate_numbers_8 plate_figure_9 plate_grains_10 history_known iad iW iH iN iF iG isKept) := hD
          refine lv_aload_n hx hb dX7_back_36 rfl (lv_at hl 0 rfl) ?_
          refine va_get (D := Γ.1) (ci := 7) (v := .ref q5) (C := RX7) (T := TX7) (N := 9) hx hb hts hi7 hown hK hP 0 rfl rfl 1 (by decide) (hts (.fieldLink RX7 19 "SandPlates" "history" "LSandPlates$History;") (List.mem_of_getElem? (i := 4) rfl)) (fun _ h9 => h9) rfl dX7_back_37 ?_
          refine lv_iconst (v := 0) hx hb dX7_back_40 (by decide) ?_
          refine va_putN (D := Γ.1) (ci := 0) (v := .int 0) (ty := .int) (C := RX0) (T := TX0) (N := 2) hx hb hts hi0 tyX0 tyX0_ok nmX0 hown hK hP hD hS 5 rfl rfl 1 (by decide) (va_Nw.use rfl (nfX7_134 hE.2.1)) (fun _ h9 => h9) rfl (by decide +kernel) rfl rfl (Nat.le_of_ble_eq_true rfl) dX7_back_41 (fun H locs hP hD hS => ?_)
          have hP : va_P Γ.1 vwCl (wd_X7_back Γ q0 q1 q2 q3 q4 q5 q6 q7 d0 d1 d2 d3 d4 d5 plate_columns_6 plate_rows_7 plate_numbers_8 plate_figure_9 plate_grains_10 0 iad iW iH iN iF iG isKept) H := hP
          have hD : va_D A (wd_X7_back Γ q0 q1 q2 q3 q4 q5 q6 q7 d0 d1 d2 d3 d4 d5 plate_columns_6 plate_rows_7 plate_numbers_8 plate_figure_9 plate_grains_10 0 iad iW iH iN iF iG isKept) := hD
          refine lv_aload_n hx hb dX7_back_44 rfl (lv_at hl 0 rfl) ?_
          refine va_get (D := Γ.1) (ci := 7) (v := .ref q1) (C := RX7) (T := TX7) (N := 9) hx hb hts hi7 hown hK hP 0 rfl rfl 0 (by decide) (hts (.fieldLink RX7 10 "SandPlates" "plate" "LSandPlates$Plate;") (List.mem_of_getElem? (i := 2) rfl)) (fun _ h9 => h9) rfl dX7_back_45 ?_
          obtain ⟨r_12, hq_13, hf⟩ := ob1_some hf
          refine vm_cNi (isC := [1]) (wc := (wd_X2_cells Γ q1 q2 q3 q4 plate_columns_6 plate_rows_7)) (w1 := (wd_X2_cells Γ q1 q2 q3 q4 plate_columns_6 plate_rows_7)) (As := []) (rest := []) ⟨hx, hb, hml, hown, hts⟩ hE hP hD hS hA rfl rfl rfl (c_X2_cells l Γ _ q1 q2 q3 q4 plate_columns_6 plate_rows_7 r_12 hq_13) ⟨va_cnB 0 hts ggX7_back_X2_cells rfl rfl rfl (nmX7_120 hE.2.1) (hts (.initialized RX2) (List.mem_of_getElem? (i := 6) rfl)) (by decide +kernel) ⟨Nat.le_of_ble_eq_true rfl, Nat.le_of_ble_eq_true rfl⟩, (hts (.instanceMethod yX2_cells) (List.mem_of_getElem? (i := 18) rfl)), (hts (.selects RX2 yX2_cells yX2_cells) (List.mem_of_getElem? (i := 19) rfl))⟩ (va_recv (ci := 2) (q0 := 1) hK hP rfl rfl) rfl hl.1 rfl (Nat.le_of_ble_eq_true rfl) dX7_back_48 ⟨Nat.zero_le _, Nat.zero_le _⟩ (fun H locs hP hD hS => ?_)
          have hP : va_P Γ.1 vwCl (wd_X7_back Γ q0 q1 q2 q3 q4 q5 q6 q7 d0 d1 d2 d3 d4 d5 plate_columns_6 plate_rows_7 plate_numbers_8 plate_figure_9 plate_grains_10 0 iad iW iH iN iF iG isKept) H := hP
          have hD : va_D A (wd_X7_back Γ q0 q1 q2 q3 q4 q5 q6 q7 d0 d1 d2 d3 d4 d5 plate_columns_6 plate_rows_7 plate_numbers_8 plate_figure_9 plate_grains_10 0 iad iW iH iN iF iG isKept) := hD
          subst hout; obtain ⟨rfl, rfl, rfl, rfl, rfl, rfl, rfl⟩ := rt7 hf
          subst hQQ
          exact W.iret hx hb hr (fun t ht hW => ⟨⟨_, (), rfl, rfl, by rw [ht]; exact hP, hD⟩, hS.F ht⟩) hS.2.2 dX7_back_51
        · have hf := vm_neg hc_5 hf
          by_cases hc_14 : x1 = 1
          · have hf := vm_pos hc_14 hf
            refine vm_aald hx hb hK hP 6 2 rfl rfl (by rw [hc_14]; decide +kernel) (v := iad 4) (by rw [hc_14]; rfl) dX7_back_32 ?_
            obtain ⟨plate_columns_15, plate_rows_16, plate_numbers_17, plate_figure_18, plate_grains_19, hq_20, hf⟩ := ob5_some hf
            refine vm_cNv (isC := [1, 2, 3, 4, 11, 12, 13, 14]) (wc := (wd_X2_takeFrom Γ q1 q2 q3 q4 (iad 4) (iad 5) (iad 6) (iad 7) plate_columns plate_rows plate_numbers plate_figure plate_grains (iW 1) (iH 1) (iN 1) (iF 1) (iG 1))) (w1 := (wd_X2_takeFrom Γ q1 q2 q3 q4 (iad 4) (iad 5) (iad 6) (iad 7) plate_columns_15 plate_rows_16 plate_numbers_17 plate_figure_18 plate_grains_19 (iW 1) (iH 1) (iN 1) (iF 1) (iG 1))) (As := [.ref (iad 4)]) (rest := []) ⟨hx, hb, hml, hown, hts⟩ hE hP hD hS hA rfl rfl rfl (c_X2_takeFrom l Γ _ q1 q2 q3 q4 (iad 4) (iad 5) (iad 6) (iad 7) plate_columns plate_rows plate_numbers plate_figure plate_grains (iW 1) (iH 1) (iN 1) (iF 1) (iG 1) plate_columns_15 plate_rows_16 plate_numbers_17 plate_figure_18 plate_grains_19 hq_20) ⟨va_cnB 1 hts ggX7_back_X2_takeFrom rfl rfl rfl (nmX7_86 hE.2.1) (hts (.initialized RX2) (List.mem_of_getElem? (i := 6) rfl)) (by decide +kernel) ⟨Nat.le_of_ble_eq_true rfl, Nat.le_of_ble_eq_true rfl⟩, (hts (.instanceMethod yX2_takeFrom) (List.mem_of_getElem? (i := 5) rfl)), (hts (.selects RX2 yX2_takeFrom yX2_takeFrom) (List.mem_of_getElem? (i := 7) rfl))⟩ (va_recv (ci := 2) (q0 := 1) hK hP rfl rfl) rfl hl.1 rfl (Nat.le_of_ble_eq_true rfl) dX7_back_33 ⟨Nat.zero_le _, Nat.zero_le _⟩ (fun H locs hP hD hS => ?_)
            have hP : va_P Γ.1 vwCl (wd_X7_back Γ q0 q1 q2 q3 q4 q5 q6 q7 d0 d1 d2 d3 d4 d5 plate_columns_15 plate_rows_16 plate_numbers_17 plate_figure_18 plate_grains_19 history_known iad iW iH iN iF iG isKept) H := hP
            have hD : va_D A (wd_X7_back Γ q0 q1 q2 q3 q4 q5 q6 q7 d0 d1 d2 d3 d4 d5 plate_columns_15 plate_rows_16 plate_numbers_17 plate_figure_18 plate_grains_19 history_known iad iW iH iN iF iG isKept) := hD
            refine lv_aload_n hx hb dX7_back_36 rfl (lv_at hl 0 rfl) ?_
            refine va_get (D := Γ.1) (ci := 7) (v := .ref q5) (C := RX7) (T := TX7) (N := 9) hx hb hts hi7 hown hK hP 0 rfl rfl 1 (by decide) (hts (.fieldLink RX7 19 "SandPlates" "history" "LSandPlates$History;") (List.mem_of_getElem? (i := 4) rfl)) (fun _ h9 => h9) rfl dX7_back_37 ?_
            refine lv_iconst (v := 0) hx hb dX7_back_40 (by decide) ?_
            refine va_putN (D := Γ.1) (ci := 0) (v := .int 0) (ty := .int) (C := RX0) (T := TX0) (N := 2) hx hb hts hi0 tyX0 tyX0_ok nmX0 hown hK hP hD hS 5 rfl rfl 1 (by decide) (va_Nw.use rfl (nfX7_134 hE.2.1)) (fun _ h9 => h9) rfl (by decide +kernel) rfl rfl (Nat.le_of_ble_eq_true rfl) dX7_back_41 (fun H locs hP hD hS => ?_)
            have hP : va_P Γ.1 vwCl (wd_X7_back Γ q0 q1 q2 q3 q4 q5 q6 q7 d0 d1 d2 d3 d4 d5 plate_columns_15 plate_rows_16 plate_numbers_17 plate_figure_18 plate_grains_19 0 iad iW iH iN iF iG isKept) H := hP
            have hD : va_D A (wd_X7_back Γ q0 q1 q2 q3 q4 q5 q6 q7 d0 d1 d2 d3 d4 d5 plate_columns_15 plate_rows_16 plate_numbers_17 plate_figure_18 plate_grains_19 0 iad iW iH iN iF iG isKept) := hD
            refine lv_aload_n hx hb dX7_back_44 rfl (lv_at hl 0 rfl) ?_
            refine va_get (D := Γ.1) (ci := 7) (v := .ref q1) (C := RX7) (T := TX7) (N := 9) hx hb hts hi7 hown hK hP 0 rfl rfl 0 (by decide) (hts (.fieldLink RX7 10 "SandPlates" "plate" "LSandPlates$Plate;") (List.mem_of_getElem? (i := 2) rfl)) (fun _ h9 => h9) rfl dX7_back_45 ?_
            obtain ⟨r_21, hq_22, hf⟩ := ob1_some hf
            refine vm_cNi (isC := [1]) (wc := (wd_X2_cells Γ q1 q2 q3 q4 plate_columns_15 plate_rows_16)) (w1 := (wd_X2_cells Γ q1 q2 q3 q4 plate_columns_15 plate_rows_16)) (As := []) (rest := []) ⟨hx, hb, hml, hown, hts⟩ hE hP hD hS hA rfl rfl rfl (c_X2_cells l Γ _ q1 q2 q3 q4 plate_columns_15 plate_rows_16 r_21 hq_22) ⟨va_cnB 0 hts ggX7_back_X2_cells rfl rfl rfl (nmX7_120 hE.2.1) (hts (.initialized RX2) (List.mem_of_getElem? (i := 6) rfl)) (by decide +kernel) ⟨Nat.le_of_ble_eq_true rfl, Nat.le_of_ble_eq_true rfl⟩, (hts (.instanceMethod yX2_cells) (List.mem_of_getElem? (i := 18) rfl)), (hts (.selects RX2 yX2_cells yX2_cells) (List.mem_of_getElem? (i := 19) rfl))⟩ (va_recv (ci := 2) (q0 := 1) hK hP rfl rfl) rfl hl.1 rfl (Nat.le_of_ble_eq_true rfl) dX7_back_48 ⟨Nat.zero_le _, Nat.zero_le _⟩ (fun H locs hP hD hS => ?_)
            have hP : va_P Γ.1 vwCl (wd_X7_back Γ q0 q1 q2 q3 q4 q5 q6 q7 d0 d1 d2 d3 d4 d5 plate_columns_15 plate_rows_16 plate_numbers_17 plate_figure_18 plate_grains_19 0 iad iW iH iN iF iG isKept) H := hP
            have hD : va_D A (wd_X7_back Γ q0 q1 q2 q3 q4 q5 q6 q7 d0 d1 d2 d3 d4 d5 plate_columns_15 plate_rows_16 plate_numbers_17 plate_figure_18 plate_grains_19 0 iad iW iH iN iF iG isKept) := hD
            subst hout; obtain ⟨rfl, rfl, rfl, rfl, rfl, rfl, rfl⟩ := rt7 hf
            subst hQQ
            exact W.iret hx hb hr (fun t ht hW => ⟨⟨_, (), rfl, rfl, by rw [ht]; exact hP, hD⟩, hS.F ht⟩) hS.2.2 dX7_back_51
          · have hf := vm_neg hc_14 hf
            exact nomatch hf
      · have hf := vm_pos hc_4 hf
        refine lv_bipush (v := (-2)) hx hb dX7_back_20 (by decide) ?_
        subst hout; obtain ⟨rfl, rfl, rfl, rfl, rfl, rfl, rfl⟩ := rt7 hf
        subst hQQ
        exact W.iret hx hb hr (fun t ht hW => ⟨⟨_, (), rfl, rfl, by rw [ht]; exact hP, hD⟩, hS.F ht⟩) hS.2.2 dX7_back_22
    · have hf := vm_neg hc_2 hf
      exact K_9 plate_columns plate_rows plate_numbers plate_figure plate_grains history_known hP hD hS (lv_sub hl [] rfl) hf
def wd_X7_count (Γ : GE) (q0 q1 q2 q3 q4 q5 q6 q7 d0 d1 d2 d3 d4 d5 d6 d7 d8 d9 d10 : Nat) (plate_columns : Int32) (plate_rows : Int32) (plate_figure : Nat → Int32) (plate_grains : Nat → Int32) (history_known : Int32) (teller_isPlateFixed : Int32) (teller_rowsTold : Int32) (teller_text_length : Int32) (teller_text_kind : Int32) (teller_text_first : Int32) (teller_text_fin : Int32) (seen_many : Int32) : va_W := [(q0, .inr (7, [.ref q1, .ref q4, .ref d0, .ref d1, .ref q5, .ref d2, .ref d3, .ref q7, .ref d4])), (q1, .inr (2, [.int plate_columns, .int plate_rows, .ref d5, .ref q2, .ref q3])), (q2, .inl (Γ.2.1 0, 36, .inl plate_figure)), (q3, .inl (Γ.2.1 0, 36, .inl plate_grains)), (q4, .inr (0, [.ref d6, .int history_known])), (q5, .inr (5, [.ref q6, .ref d7, .int teller_isPlateFixed, .int teller_rowsTold])), (q6, .inr (6, [.ref d8, .int teller_text_length, .int teller_text_kind, .int teller_text_first, .int teller_text_fin])), (q7, .inr (4, [.ref d9, .ref d10, .int seen_many]))]
def f_X7_count (plate_columns : Int32) (plate_rows : Int32) (plate_figure : Nat → Int32) (plate_grains : Nat → Int32) (history_known : Int32) (teller_text_length : Int32) (seen_many : Int32) (x1 : Int32) : Option Int32 := if x1 = 0 then (some plate_columns) else if x1 = 1 then (some plate_rows) else if x1 = 2 then (ob1 (f_X2_cellsOfFigure plate_columns plate_rows plate_figure) (fun r_4 => some r_4)) else if x1 = 3 then (ob1 (f_X2_mostGrains plate_columns plate_rows plate_grains) (fun r_7 => some r_7)) else if x1 = 4 then (ob1 (f_X2_cellsWithGrains plate_columns plate_rows plate_grains 0) (fun r_10 => some r_10)) else if x1 = 5 then (some seen_many) else if x1 = 6 then (some teller_text_length) else if x1 = 7 then (some history_known) else (some (-1))
set_option maxHeartbeats 4000000 in
set_option maxRecDepth 100000 in
theorem c_X7_count (l : Launch) (Γ : GE) (sz : Nat) (q0 q1 q2 q3 q4 q5 q6 q7 d0 d1 d2 d3 d4 d5 d6 d7 d8 d9 d10 : Nat) (plate_columns : Int32) (plate_rows : Int32) (plate_figure : Nat → Int32) (plate_grains : Nat → Int32) (history_known : Int32) (teller_isPlateFixed : Int32) (teller_rowsTold : Int32) (teller_text_length : Int32) (teller_text_kind : Int32) (teller_text_first : Int32) (teller_text_fin : Int32) (seen_many : Int32) (x1 : Int32) (ro : Int32) (hf : f_X7_count plate_columns plate_rows plate_figure plate_grains history_known teller_text_length seen_many x1 = some ro) : MetI l yX7_count wsX7_count ({ frames := 2, cells := 0, slots := 0, locals := 43 } : Room) Γ [.ref q0, .int x1] (wd_X7_count Γ q0 q1 q2 q3 q4 q5 q6 q7 d0 d1 d2 d3 d4 d5 d6 d7 d8 d9 d10 plate_columns plate_rows plate_figure plate_grains history_known teller_isPlateFixed teller_rowsTold teller_text_length teller_text_kind teller_text_first teller_text_fin seen_many) (wd_X7_count Γ q0 q1 q2 q3 q4 q5 q6 q7 d0 d1 d2 d3 d4 d5 d6 d7 d8 d9 d10 plate_columns plate_rows plate_figure plate_grains history_known teller_isPlateFixed teller_rowsTold teller_text_length teller_text_kind teller_text_first teller_text_fin seen_many) sz ro := by
  refine Met.ofW (cc := cX7_count) (maxL := 2) (ret := (some .int)) (by decide) rfl ?_
  intro p e s m args below meth c s₁ B hml hv
  obtain ⟨rfl, hsz, hE, hP, hD⟩ := hv
  have hx := B.exec
  have hb := B.bytes
  have hr := B.returns
  have hts := atoms_spec (ws := wsX7_count) B.pre
  have hown : s.vm.findClass RX7 = some m.cls := findClass_of_methodNamed B.named
  have hlocks := B.notSynchronized
  subst hsz
  generalize hAe : va_A (wd_X7_count Γ q0 q1 q2 q3 q4 q5 q6 q7 d0 d1 d2 d3 d4 d5 d6 d7 d8 d9 d10 plate_columns plate_rows plate_figure plate_grains history_known teller_isPlateFixed teller_rowsTold teller_text_length teller_text_kind teller_text_first teller_text_fin seen_many) s.heap.size = A at hE hD ⊢
  have hA : ∀ q : Nat, s.heap.size ≤ q → A q := fun q h => by rw [← hAe]; exact Or.inr h
  clear hAe
  have hS : va_S A s.heap s.heap [] := va_S.rf
  have hK := hE.1
  have hl := lv_entry ([.ref q0, .int x1]) (n := 2) (Nat.le_of_ble_eq_true rfl)
  rw [lg_entry_eq]
  generalize (lg_sl ([.ref q0, .int x1]) ++ List.replicate (2 - (lg_sl ([.ref q0, .int x1])).length) Slot.unset).toArray = ls at hl ⊢
  have hl : lv_has ls 2 [(0, .ref q0), (1, .int x1)] := hl
  have hi0 : ∀ w ∈ u_ws RX0 TX0 2, w ∈ wsX7_count := fun w h => (List.mem_cons_of_mem _ (List.mem_append_right _ h))
  have hi2 : ∀ w ∈ u_ws RX2 TX2 5, w ∈ wsX7_count := fun w h => (List.mem_cons_of_mem _ (List.mem_append_left _ (List.mem_append_left _ (List.mem_append_left _ (List.mem_append_left _ (List.mem_append_right _ h))))))
  have hi4 : ∀ w ∈ u_ws RX4 TX4 3, w ∈ wsX7_count := fun w h => (List.mem_cons_of_mem _ (List.mem_append_left _ (List.mem_append_left _ (List.mem_append_left _ (List.mem_append_right _ h)))))
  have hi5 : ∀ w ∈ u_ws RX5 TX5 4, w ∈ wsX7_count := fun w h => (List.mem_cons_of_mem _ (List.mem_append_left _ (List.mem_append_left _ (List.mem_append_right _ h))))
  have hi6 : ∀ w ∈ u_ws RX6 TX6 5, w ∈ wsX7_count := fun w h => (List.mem_cons_of_mem _ (List.mem_append_left _ (List.mem_append_right _ h)))
  have hi7 : ∀ w ∈ u_ws RX7 TX7 9, w ∈ wsX7_count := fun w h => (List.mem_cons_of_mem _ (List.mem_append_left _ (List.mem_append_left _ (List.mem_append_left _ (List.mem_append_left _ (List.mem_append_left _ (List.mem_append_right _ h)))))))
  obtain ⟨out, hout⟩ : ∃ o, o = ro := ⟨_, rfl⟩
  rw [← hout] at hf
  obtain ⟨QQ, hQQ⟩ : ∃ Q, Q = MQ below (va_Qi (fun (r' : Int32) (_ : Unit) => r' = ro) (CQ Γ (wd_X7_count Γ q0 q1 q2 q3 q4 q5 q6 q7 d0 d1 d2 d3 d4 d5 d6 d7 d8 d9 d10 plate_columns plate_rows plate_figure plate_grains history_known teller_isPlateFixed teller_rowsTold teller_text_length teller_text_kind teller_text_first teller_text_fin seen_many) A) A) (([.ref q0, .int x1] : List Value).toArray) s 0 0 A := ⟨_, rfl⟩
  show W p l e ({ frames := 2, cells := 0, slots := 0, locals := 43 } : Room) s m (([.ref q0, .int x1] : List Value).toArray) below meth c s.heap [] 0 0 (MQ below _ (([.ref q0, .int x1] : List Value).toArray) s 0 0 A) (F0 m 0 ls [])
  rw [← hQQ]
  unfold f_X7_count at hf
  refine lv_iload_n hx hb dX7_count_0 rfl (lv_at hl 1 rfl) ?_
  by_cases hc_1 : x1 = 0
  · have hf := vm_pos hc_1 hf
    refine lv_tableIn (x := x1) (tgt := 48) hx hb dX7_count_1 (by rw [hc_1]; decide) (by rw [hc_1]; decide) (by rw [hc_1]; rfl) (by decide) ?_
    refine lv_aload_n hx hb dX7_count_48 rfl (lv_at hl 0 rfl) ?_
    refine va_get (D := Γ.1) (ci := 7) (v := .ref q1) (C := RX7) (T := TX7) (N := 9) hx hb hts hi7 hown hK hP 0 rfl rfl 0 (by decide) (hts (.fieldLink RX7 10 "SandPlates" "plate" "LSandPlates$Plate;") (List.mem_of_getElem? (i := 1) rfl)) (fun _ h9 => h9) rfl dX7_count_49 ?_
    refine va_getN (D := Γ.1) (ci := 2) (v := .int plate_columns) (C := RX2) (T := TX2) (N := 5) hx hb hts hi2 hown hK hP 1 rfl rfl 0 (by decide) (va_Nw.use rfl (nfX7_184 hE.2.1)) (fun _ h9 => h9) rfl dX7_count_52 ?_
    subst hout; obtain rfl := Option.some.inj hf
    subst hQQ
    exact W.iret hx hb hr (fun t ht hW => ⟨⟨_, (), rfl, rfl, by rw [ht]; exact hP, hD⟩, hS.F ht⟩) hS.2.2 dX7_count_55
  · have hf := vm_neg hc_1 hf
    by_cases hc_2 : x1 = 1
    · have hf := vm_pos hc_2 hf
      refine lv_tableIn (x := x1) (tgt := 56) hx hb dX7_count_1 (by rw [hc_2]; decide) (by rw [hc_2]; decide) (by rw [hc_2]; rfl) (by decide) ?_
      refine lv_aload_n hx hb dX7_count_56 rfl (lv_at hl 0 rfl) ?_
      refine va_get (D := Γ.1) (ci := 7) (v := .ref q1) (C := RX7) (T := TX7) (N := 9) hx hb hts hi7 hown hK hP 0 rfl rfl 0 (by decide) (hts (.fieldLink RX7 10 "SandPlates" "plate" "LSandPlates$Plate;") (List.mem_of_getElem? (i := 1) rfl)) (fun _ h9 => h9) rfl dX7_count_57 ?_
      refine va_getN (D := Γ.1) (ci := 2) (v := .int plate_rows) (C := RX2) (T := TX2) (N := 5) hx hb hts hi2 hown hK hP 1 rfl rfl 1 (by decide) (va_Nw.use rfl (nfX7_187 hE.2.1)) (fun _ h9 => h9) rfl dX7_count_60 ?_
      subst hout; obtain rfl := Option.some.inj hf
      subst hQQ
      exact W.iret hx hb hr (fun t ht hW => ⟨⟨_, (), rfl, rfl, by rw [ht]; exact hP, hD⟩, hS.F ht⟩) hS.2.2 dX7_count_63
    · have hf := vm_neg hc_2 hf
      by_cases hc_3 : x1 = 2
      · have hf := vm_pos hc_3 hf
        refine lv_tableIn (x := x1) (tgt := 64) hx hb dX7_count_1 (by rw [hc_3]; decide) (by rw [hc_3]; decide) (by rw [hc_3]; rfl) (by decide) ?_
        refine lv_aload_n hx hb dX7_count_64 rfl (lv_at hl 0 rfl) ?_
        refine va_get (D := Γ.1) (ci := 7) (v := .ref q1) (C := RX7) (T := TX7) (N := 9) hx hb hts hi7 hown hK hP 0 rfl rfl 0 (by decide) (hts (.fieldLink RX7 10 "SandPlates" "plate" "LSandPlates$Plate;") (List.mem_of_getElem? (i := 1) rfl)) (fun _ h9 => h9) rfl dX7_count_65 ?_
        obtain ⟨r_4, hq_5, hf⟩ := ob1_some hf
        refine vm_cNi (isC := [1, 2]) (wc := (wd_X2_cellsOfFigure Γ q1 q2 d5 q3 plate_columns plate_rows plate_figure)) (w1 := (wd_X2_cellsOfFigure Γ q1 q2 d5 q3 plate_columns plate_rows plate_figure)) (As := []) (rest := []) ⟨hx, hb, hml, hown, hts⟩ hE hP hD hS hA rfl rfl rfl (c_X2_cellsOfFigure l Γ _ q1 q2 d5 q3 plate_columns plate_rows plate_figure r_4 hq_5) ⟨va_cnB 0 hts ggX7_count_X2_cellsOfFigure rfl rfl rfl (nmX7_117 hE.2.1) (hts (.initialized RX2) (List.mem_of_getElem? (i := 6) rfl)) (by decide +kernel) ⟨Nat.le_of_ble_eq_true rfl, Nat.le_of_ble_eq_true rfl⟩, (hts (.instanceMethod yX2_cellsOfFigure) (List.mem_of_getElem? (i := 5) rfl)), (hts (.selects RX2 yX2_cellsOfFigure yX2_cellsOfFigure) (List.mem_of_getElem? (i := 7) rfl))⟩ (va_recv (ci := 2) (q0 := 1) hK hP rfl rfl) rfl hl.1 rfl (Nat.le_of_ble_eq_true rfl) dX7_count_68 ⟨Nat.zero_le _, Nat.zero_le _⟩ (fun H locs hP hD hS => ?_)
        have hP : va_P Γ.1 vwCl (wd_X7_count Γ q0 q1 q2 q3 q4 q5 q6 q7 d0 d1 d2 d3 d4 d5 d6 d7 d8 d9 d10 plate_columns plate_rows plate_figure plate_grains history_known teller_isPlateFixed teller_rowsTold teller_text_length teller_text_kind teller_text_first teller_text_fin seen_many) H := hP
        have hD : va_D A (wd_X7_count Γ q0 q1 q2 q3 q4 q5 q6 q7 d0 d1 d2 d3 d4 d5 d6 d7 d8 d9 d10 plate_columns plate_rows plate_figure plate_grains history_known teller_isPlateFixed teller_rowsTold teller_text_length teller_text_kind teller_text_first teller_text_fin seen_many) := hD
        subst hout; obtain rfl := Option.some.inj hf
        subst hQQ
        exact W.iret hx hb hr (fun t ht hW => ⟨⟨_, (), rfl, rfl, by rw [ht]; exact hP, hD⟩, hS.F ht⟩) hS.2.2 dX7_count_71
      · have hf := vm_neg hc_3 hf
        by_cases hc_6 : x1 = 3
        · have hf := vm_pos hc_6 hf
          refine lv_tableIn (x := x1) (tgt := 72) hx hb dX7_count_1 (by rw [hc_6]; decide) (by rw [hc_6]; decide) (by rw [hc_6]; rfl) (by decide) ?_
          refine lv_aload_n hx hb dX7_count_72 rfl (lv_at hl 0 rfl) ?_
          refine va_get (D := Γ.1) (ci := 7) (v := .ref q1) (C := RX7) (T := TX7) (N := 9) hx hb hts hi7 hown hK hP 0 rfl rfl 0 (by decide) (hts (.fieldLink RX7 10 "SandPlates" "plate" "LSandPlates$Plate;") (List.mem_of_getElem? (i := 1) rfl)) (fun _ h9 => h9) rfl dX7_count_73 ?_
          obtain ⟨r_7, hq_8, hf⟩ := ob1_some hf
          refine vm_cNi (isC := [1, 3]) (wc := (wd_X2_mostGrains Γ q1 q3 d5 q2 plate_columns plate_rows plate_grains)) (w1 := (wd_X2_mostGrains Γ q1 q3 d5 q2 plate_columns plate_rows plate_grains)) (As := []) (rest := []) ⟨hx, hb, hml, hown, hts⟩ hE hP hD hS hA rfl rfl rfl (c_X2_mostGrains l Γ _ q1 q3 d5 q2 plate_columns plate_rows plate_grains r_7 hq_8) ⟨va_cnB 0 hts ggX7_count_X2_mostGrains rfl rfl rfl (nmX7_190 hE.2.1) (hts (.initialized RX2) (List.mem_of_getElem? (i := 6) rfl)) (by decide +kernel) ⟨Nat.le_of_ble_eq_true rfl, Nat.le_of_ble_eq_true rfl⟩, (hts (.instanceMethod yX2_mostGrains) (List.mem_of_getElem? (i := 16) rfl)), (hts (.selects RX2 yX2_mostGrains yX2_mostGrains) (List.mem_of_getElem? (i := 17) rfl))⟩ (va_recv (ci := 2) (q0 := 1) hK hP rfl rfl) rfl hl.1 rfl (Nat.le_of_ble_eq_true rfl) dX7_count_76 ⟨Nat.zero_le _, Nat.zero_le _⟩ (fun H locs hP hD hS => ?_)
          have hP : va_P Γ.1 vwCl (wd_X7_count Γ q0 q1 q2 q3 q4 q5 q6 q7 d0 d1 d2 d3 d4 d5 d6 d7 d8 d9 d10 plate_columns plate_rows plate_figure plate_grains history_known teller_isPlateFixed teller_rowsTold teller_text_length teller_text_kind teller_text_first teller_text_fin seen_many) H := hP
          have hD : va_D A (wd_X7_count Γ q0 q1 q2 q3 q4 q5 q6 q7 d0 d1 d2 d3 d4 d5 d6 d7 d8 d9 d10 plate_columns plate_rows plate_figure plate_grains history_known teller_isPlateFixed teller_rowsTold teller_text_length teller_text_kind teller_text_first teller_text_fin seen_many) := hD
          subst hout; obtain rfl := Option.some.inj hf
          subst hQQ
          exact W.iret hx hb hr (fun t ht hW => ⟨⟨_, (), rfl, rfl, by rw [ht]; exact hP, hD⟩, hS.F ht⟩) hS.2.2 dX7_count_79
        · have hf := vm_neg hc_6 hf
          by_cases hc_9 : x1 = 4
          · have hf := vm_pos hc_9 hf
            refine lv_tableIn (x := x1) (tgt := 80) hx hb dX7_count_1 (by rw [hc_9]; decide) (by rw [hc_9]; decide) (by rw [hc_9]; rfl) (by decide) ?_
            refine lv_aload_n hx hb dX7_count_80 rfl (lv_at hl 0 rfl) ?_
            refine va_get (D := Γ.1) (ci := 7) (v := .ref q1) (C := RX7) (T := TX7) (N := 9) hx hb hts hi7 hown hK hP 0 rfl rfl 0 (by decide) (hts (.fieldLink RX7 10 "SandPlates" "plate" "LSandPlates$Plate;") (List.mem_of_getElem? (i := 1) rfl)) (fun _ h9 => h9) rfl dX7_count_81 ?_
            refine lv_iconst (v := 0) hx hb dX7_count_84 (by decide) ?_
            obtain ⟨r_10, hq_11, hf⟩ := ob1_some hf
            refine vm_cNi (isC := [1, 3]) (wc := (wd_X2_cellsWithGrains Γ q1 q3 d5 q2 plate_columns plate_rows plate_grains)) (w1 := (wd_X2_cellsWithGrains Γ q1 q3 d5 q2 plate_columns plate_rows plate_grains)) (As := [.int 0]) (rest := []) ⟨hx, hb, hml, hown, hts⟩ hE hP hD hS hA rfl rfl rfl (c_X2_cellsWithGrains l Γ _ q1 q3 d5 q2 plate_columns plate_rows plate_grains 0 r_10 hq_11) ⟨va_cnB 1 hts ggX7_count_X2_cellsWithGrains rfl rfl rfl (nmX7_123 hE.2.1) (hts (.initialized RX2) (List.mem_of_getElem? (i := 6) rfl)) (by decide +kernel) ⟨Nat.le_of_ble_eq_true rfl, Nat.le_of_ble_eq_true rfl⟩, (hts (.instanceMethod yX2_cellsWithGrains) (List.mem_of_getElem? (i := 24) rfl)), (hts (.selects RX2 yX2_cellsWithGrains yX2_cellsWithGrains) (List.mem_of_getElem? (i := 25) rfl))⟩ (va_recv (ci := 2) (q0 := 1) hK hP rfl rfl) rfl hl.1 rfl (Nat.le_of_ble_eq_true rfl) dX7_count_85 ⟨Nat.zero_le _, Nat.zero_le _⟩ (fun H locs hP hD hS => ?_)
            have hP : va_P Γ.1 vwCl (wd_X7_count Γ q0 q1 q2 q3 q4 q5 q6 q7 d0 d1 d2 d3 d4 d5 d6 d7 d8 d9 d10 plate_columns plate_rows plate_figure plate_grains history_known teller_isPlateFixed teller_rowsTold teller_text_length teller_text_kind teller_text_first teller_text_fin seen_many) H := hP
            have hD : va_D A (wd_X7_count Γ q0 q1 q2 q3 q4 q5 q6 q7 d0 d1 d2 d3 d4 d5 d6 d7 d8 d9 d10 plate_columns plate_rows plate_figure plate_grains history_known teller_isPlateFixed teller_rowsTold teller_text_length teller_text_kind teller_text_first teller_text_fin seen_many) := hD
            subst hout; obtain rfl := Option.some.inj hf
            subst hQQ
            exact W.iret hx hb hr (fun t ht hW => ⟨⟨_, (), rfl, rfl, by rw [ht]; exact hP, hD⟩, hS.F ht⟩) hS.2.2 dX7_count_88
          · have hf := vm_neg hc_9 hf
            by_cases hc_12 : x1 = 5
            · have hf := vm_pos hc_12 hf
              refine lv_tableIn (x := x1) (tgt := 89) hx hb dX7_count_1 (by rw [hc_12]; decide) (by rw [hc_12]; decide) (by rw [hc_12]; rfl) (by decide) ?_
              refine lv_aload_n hx hb dX7_count_89 rfl (lv_at hl 0 rfl) ?_
              refine va_get (D := Γ.1) (ci := 7) (v := .ref q7) (C := RX7) (T := TX7) (N := 9) hx hb hts hi7 hown hK hP 0 rfl rfl 7 (by decide) (hts (.fieldLink RX7 55 "SandPlates" "seen" "LSandPlates$Seen;") (List.mem_of_getElem? (i := 2) rfl)) (fun _ h9 => h9) rfl dX7_count_90 ?_
              refine va_getN (D := Γ.1) (ci := 4) (v := .int seen_many) (C := RX4) (T := TX4) (N := 3) hx hb hts hi4 hown hK hP 7 rfl rfl 2 (by decide) (va_Nw.use rfl (nfX7_169 hE.2.1)) (fun _ h9 => h9) rfl dX7_count_93 ?_
              subst hout; obtain rfl := Option.some.inj hf
              subst hQQ
              exact W.iret hx hb hr (fun t ht hW => ⟨⟨_, (), rfl, rfl, by rw [ht]; exact hP, hD⟩, hS.F ht⟩) hS.2.2 dX7_count_96
            · have hf := vm_neg hc_12 hf
              by_cases hc_13 : x1 = 6
              · have hf := vm_pos hc_13 hf
                refine lv_tableIn (x := x1) (tgt := 97) hx hb dX7_count_1 (by rw [hc_13]; decide) (by rw [hc_13]; decide) (by rw [hc_13]; rfl) (by decide) ?_
                refine lv_aload_n hx hb dX7_count_97 rfl (lv_at hl 0 rfl) ?_
                refine va_get (D := Γ.1) (ci := 7) (v := .ref q5) (C := RX7) (T := TX7) (N := 9) hx hb hts hi7 hown hK hP 0 rfl rfl 4 (by decide) (hts (.fieldLink RX7 34 "SandPlates" "teller" "LSandPlates$Teller;") (List.mem_of_getElem? (i := 3) rfl)) (fun _ h9 => h9) rfl dX7_count_98 ?_
                refine va_getN (D := Γ.1) (ci := 5) (v := .ref q6) (C := RX5) (T := TX5) (N := 4) hx hb hts hi5 hown hK hP 5 rfl rfl 0 (by decide) (va_Nw.use rfl (nfX7_63 hE.2.1)) (fun _ h9 => h9) rfl dX7_count_101 ?_
                refine va_getN (D := Γ.1) (ci := 6) (v := .int teller_text_length) (C := RX6) (T := TX6) (N := 5) hx hb hts hi6 hown hK hP 6 rfl rfl 1 (by decide) (va_Nw.use rfl (nfX7_73 hE.2.1)) (fun _ h9 => h9) rfl dX7_count_104 ?_
                subst hout; obtain rfl := Option.some.inj hf
                subst hQQ
                exact W.iret hx hb hr (fun t ht hW => ⟨⟨_, (), rfl, rfl, by rw [ht]; exact hP, hD⟩, hS.F ht⟩) hS.2.2 dX7_count_107
              · have hf := vm_neg hc_13 hf
                by_cases hc_14 : x1 = 7
                · have hf := vm_pos hc_14 hf
                  refine lv_tableIn (x := x1) (tgt := 108) hx hb dX7_count_1 (by rw [hc_14]; decide) (by rw [hc_14]; decide) (by rw [hc_14]; rfl) (by decide) ?_
                  refine lv_aload_n hx hb dX7_count_108 rfl (lv_at hl 0 rfl) ?_
                  refine va_get (D := Γ.1) (ci := 7) (v := .ref q4) (C := RX7) (T := TX7) (N := 9) hx hb hts hi7 hown hK hP 0 rfl rfl 1 (by decide) (hts (.fieldLink RX7 19 "SandPlates" "history" "LSandPlates$History;") (List.mem_of_getElem? (i := 4) rfl)) (fun _ h9 => h9) rfl dX7_count_109 ?_
                  refine va_getN (D := Γ.1) (ci := 0) (v := .int history_known) (C := RX0) (T := TX0) (N := 2) hx hb hts hi0 hown hK hP 4 rfl rfl 1 (by decide) (va_Nw.use rfl (nfX7_134 hE.2.1)) (fun _ h9 => h9) rfl dX7_count_112 ?_
                  subst hout; obtain rfl := Option.some.inj hf
                  subst hQQ
                  exact W.iret hx hb hr (fun t ht hW => ⟨⟨_, (), rfl, rfl, by rw [ht]; exact hP, hD⟩, hS.F ht⟩) hS.2.2 dX7_count_115
                · have hf := vm_neg hc_14 hf
                  refine lv_tableOut (x := x1) (tgt := 116) hx hb dX7_count_1 (by have z0 : x1.toInt ≠ 0 := vm_neI hc_1 rfl; have z1 : x1.toInt ≠ 1 := vm_neI hc_2 rfl; have z2 : x1.toInt ≠ 2 := vm_neI hc_3 rfl; have z3 : x1.toInt ≠ 3 := vm_neI hc_6 rfl; have z4 : x1.toInt ≠ 4 := vm_neI hc_9 rfl; have z5 : x1.toInt ≠ 5 := vm_neI hc_12 rfl; have z6 : x1.toInt ≠ 6 := vm_neI hc_13 rfl; have z7 : x1.toInt ≠ 7 := vm_neI hc_14 rfl; omega) (by decide) ?_
                  refine lv_iconst (v := (-1)) hx hb dX7_count_116 (by decide) ?_
                  subst hout; obtain rfl := Option.some.inj hf
                  subst hQQ
                  exact W.iret hx hb hr (fun t ht hW => ⟨⟨_, (), rfl, rfl, by rw [ht]; exact hP, hD⟩, hS.F ht⟩) hS.2.2 dX7_count_117
