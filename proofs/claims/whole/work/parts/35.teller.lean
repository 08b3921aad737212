def wd_X5_startAnew (Γ : GE) (q0 q1 q2 q3 q4 q5 d0 : Nat) (isPlateFixed : Int32) (rowsTold : Int32) (text_length : Int32) (text_kind : Int32) (text_first : Int32) (text_fin : Int32) (plate_columns : Int32) (plate_rows : Int32) (plate_numbers : Nat → Int32) (plate_figure : Nat → Int32) (plate_grains : Nat → Int32) : va_W := [(q0, .inr (5, [.ref q1, .ref q2, .int isPlateFixed, .int rowsTold])), (q1, .inr (6, [.ref d0, .int text_length, .int text_kind, .int text_first, .int text_fin])), (q2, .inr (2, [.int plate_columns, .int plate_rows, .ref q3, .ref q4, .ref q5])), (q3, .inl (Γ.2.1 0, 7, .inl plate_numbers)), (q4, .inl (Γ.2.1 0, 36, .inl plate_figure)), (q5, .inl (Γ.2.1 0, 36, .inl plate_grains))]
def f_X5_startAnew (plate_numbers : Nat → Int32) (plate_figure : Nat → Int32) (plate_grains : Nat → Int32) : Option (Int32 × Int32 × Int32 × Int32 × Int32 × (Nat → Int32) × (Nat → Int32) × (Nat → Int32)) := ob1 (f_X6_rewind) (fun text_fin_1 => ob5 (f_X2_beAsAtFirst plate_numbers plate_figure plate_grains) (fun plate_columns_3 plate_rows_4 plate_numbers_5 plate_figure_6 plate_grains_7 => some (0, 0, text_fin_1, plate_columns_3, plate_rows_4, plate_numbers_5, plate_figure_6, plate_grains_7)))
set_option maxHeartbeats 4000000 in
set_option maxRecDepth 100000 in
theorem c_X5_startAnew (l : Launch) (Γ : GE) (sz : Nat) (q0 q1 q2 q3 q4 q5 d0 : Nat) (isPlateFixed : Int32) (rowsTold : Int32) (text_length : Int32) (text_kind : Int32) (text_first : Int32) (text_fin : Int32) (plate_columns : Int32) (plate_rows : Int32) (plate_numbers : Nat → Int32) (plate_figure : Nat → Int32) (plate_grains : Nat → Int32) (o_isPlateFixed : Int32) (o_rowsTold : Int32) (o_text_fin : Int32) (o_plate_columns : Int32) (o_plate_rows : Int32) (o_plate_numbers : Nat → Int32) (o_plate_figure : Nat → Int32) (o_plate_grains : Nat → Int32) (hf : f_X5_startAnew plate_numbers plate_figure plate_grains = some (o_isPlateFixed, o_rowsTold, o_text_fin, o_plate_columns, o_plate_rows, o_plate_numbers, o_plate_figure, o_plate_grains)) : MetV l yX5_startAnew wsX5_startAnew ({ frames := 3, cells := 0, slots := 0, locals := 68 } : Room) Γ [.ref q0] (wd_X5_startAnew Γ q0 q1 q2 q3 q4 q5 d0 isPlateFixed rowsTold text_length text_kind text_first text_fin plate_columns plate_rows plate_numbers plate_figure plate_grains) (wd_X5_startAnew Γ q0 q1 q2 q3 q4 q5 d0 o_isPlateFixed o_rowsTold text_length text_kind text_first o_text_fin o_plate_columns o_plate_rows o_plate_numbers o_plate_figure o_plate_grains) sz := by
  refine Met.ofW (cc := cX5_startAnew) (maxL := 1) (ret := none) (by decide) rfl ?_
  intro p e s m args below meth c s₁ B hml hv
  obtain ⟨rfl, hsz, hE, hP, hD⟩ := hv
  have hx := B.exec
  have hb := B.bytes
  have hr := B.returns
  have hts := atoms_spec (ws := wsX5_startAnew) B.pre
  have hown : s.vm.findClass RX5 = some m.cls := findClass_of_methodNamed B.named
  have hlocks := B.notSynchronized
  subst hsz
  generalize hAe : va_A (wd_X5_startAnew Γ q0 q1 q2 q3 q4 q5 d0 isPlateFixed rowsTold text_length text_kind text_first text_fin plate_columns plate_rows plate_numbers plate_figure plate_grains) s.heap.size = A at hE hD ⊢
  have hA : ∀ q : Nat, s.heap.size ≤ q → A q := fun q h => by rw [← hAe]; exact Or.inr h
  clear hAe
  have hS : va_S A s.heap s.heap [] := va_S.rf
  have hK := hE.1
  have hl := lv_entry ([.ref q0]) (n := 1) (Nat.le_of_ble_eq_true rfl)
  rw [lg_entry_eq]
  generalize (lg_sl ([.ref q0]) ++ List.replicate (1 - (lg_sl ([.ref q0])).length) Slot.unset).toArray = ls at hl ⊢
  have hl : lv_has ls 1 [(0, .ref q0)] := hl
  have hi2 : ∀ w ∈ u_ws RX2 TX2 5, w ∈ wsX5_startAnew := fun w h => (List.mem_cons_of_mem _ (List.mem_append_right _ h))
  have hi5 : ∀ w ∈ u_ws RX5 TX5 4, w ∈ wsX5_startAnew := fun w h => (List.mem_cons_of_mem _ (List.mem_append_left _ (List.mem_append_left _ (List.mem_append_right _ h))))
  have hi6 : ∀ w ∈ u_ws RX6 TX6 5, w ∈ wsX5_startAnew := fun w h => (List.mem_cons_of_mem _ (List.mem_append_left _ (List.mem_append_right _ h)))
  obtain ⟨out, hout⟩ : ∃ o, o = (o_isPlateFixed, o_rowsTold, o_text_fin, o_plate_columns, o_plate_rows, o_plate_numbers, o_plate_figure, o_plate_grains) := ⟨_, rfl⟩
  rw [← hout] at hf
  obtain ⟨QQ, hQQ⟩ : ∃ Q, Q = MQ below (va_Qv (fun _ : Unit => True) (CQ Γ (wd_X5_startAnew Γ q0 q1 q2 q3 q4 q5 d0 o_isPlateFixed o_rowsTold text_length text_kind text_first o_text_fin o_plate_columns o_plate_rows o_plate_numbers o_plate_figure o_plate_grains) A) A) (([.ref q0] : List Value).toArray) s 0 0 A := ⟨_, rfl⟩
  show W p l e ({ frames := 3, cells := 0, slots := 0, locals := 68 } : Room) s m (([.ref q0] : List Value).toArray) below meth c s.heap [] 0 0 (MQ below _ (([.ref q0] : List Value).toArray) s 0 0 A) (F0 m 0 ls [])
  rw [← hQQ]
  unfold f_X5_startAnew at hf
  refine lv_aload_n hx hb dX5_startAnew_0 rfl (lv_at hl 0 rfl) ?_
  refine va_get (D := Γ.1) (ci := 5) (v := .ref q1) (C := RX5) (T := TX5) (N := 4) hx hb hts hi5 hown hK hP 0 rfl rfl 0 (by decide) (hts (.fieldLink RX5 12 "SandPlates$Teller" "text" "LSandPlates$Text;") (List.mem_of_getElem? (i := 1) rfl)) (fun _ h9 => h9) rfl dX5_startAnew_1 ?_
  obtain ⟨text_fin_1, hq_2, hf⟩ := ob1_some hf
  refine vm_cNv (isC := [1]) (wc := (wd_X6_rewind Γ q1 d0 text_length text_kind text_first text_fin)) (w1 := (wd_X6_rewind Γ q1 d0 text_length text_kind text_first text_fin_1)) (As := []) (rest := []) ⟨hx, hb, hml, hown, hts⟩ hE hP hD hS hA rfl rfl rfl (c_X6_rewind l Γ _ q1 d0 text_length text_kind text_first text_fin text_fin_1 hq_2) ⟨va_cnB 0 hts ggX5_startAnew_X6_rewind rfl rfl rfl (nmX5_50 hE.2.1) (hts (.initialized RX6) (List.mem_of_getElem? (i := 6) rfl)) (by decide +kernel) ⟨Nat.le_of_ble_eq_true rfl, Nat.le_of_ble_eq_true rfl⟩, (hts (.instanceMethod yX6_rewind) (List.mem_of_getElem? (i := 5) rfl)), (hts (.selects RX6 yX6_rewind yX6_rewind) (List.mem_of_getElem? (i := 7) rfl))⟩ (va_recv (ci := 6) (q0 := 1) hK hP rfl rfl) rfl hl.1 rfl (Nat.le_of_ble_eq_true rfl) dX5_startAnew_4 ⟨Nat.zero_le _, Nat.zero_le _⟩ (fun H locs hP hD hS => ?_)
  have hP : va_P Γ.1 vwCl (wd_X5_startAnew Γ q0 q1 q2 q3 q4 q5 d0 isPlateFixed rowsTold text_length text_kind text_first text_fin_1 plate_columns plate_rows plate_numbers plate_figure plate_grains) H := hP
  have hD : va_D A (wd_X5_startAnew Γ q0 q1 q2 q3 q4 q5 d0 isPlateFixed rowsTold text_length text_kind text_first text_fin_1 plate_columns plate_rows plate_numbers plate_figure plate_grains) := hD
  refine lv_aload_n hx hb dX5_startAnew_7 rfl (lv_at hl 0 rfl) ?_
  refine va_get (D := Γ.1) (ci := 5) (v := .ref q2) (C := RX5) (T := TX5) (N := 4) hx hb hts hi5 hown hK hP 0 rfl rfl 1 (by decide) (hts (.fieldLink RX5 21 "SandPlates$Teller" "plate" "LSandPlates$Plate;") (List.mem_of_getElem? (i := 2) rfl)) (fun _ h9 => h9) rfl dX5_startAnew_8 ?_
  obtain ⟨plate_columns_3, plate_rows_4, plate_numbers_5, plate_figure_6, plate_grains_7, hq_8, hf⟩ := ob5_some hf
  refine vm_cNv (isC := [2, 3, 4, 5]) (wc := (wd_X2_beAsAtFirst Γ q2 q3 q4 q5 plate_columns plate_rows plate_numbers plate_figure plate_grains)) (w1 := (wd_X2_beAsAtFirst Γ q2 q3 q4 q5 plate_columns_3 plate_rows_4 plate_numbers_5 plate_figure_6 plate_grains_7)) (As := []) (rest := []) ⟨hx, hb, hml, hown, hts⟩ hE hP hD hS hA rfl rfl rfl (c_X2_beAsAtFirst l Γ _ q2 q3 q4 q5 plate_columns plate_rows plate_numbers plate_figure plate_grains plate_columns_3 plate_rows_4 plate_numbers_5 plate_figure_6 plate_grains_7 hq_8) ⟨va_cnB 0 hts ggX5_startAnew_X2_beAsAtFirst rfl rfl rfl (nmX5_53 hE.2.1) (hts (.initialized RX2) (List.mem_of_getElem? (i := 11) rfl)) (by decide +kernel) ⟨Nat.le_of_ble_eq_true rfl, Nat.le_of_ble_eq_true rfl⟩, (hts (.instanceMethod yX2_beAsAtFirst) (List.mem_of_getElem? (i := 10) rfl)), (hts (.selects RX2 yX2_beAsAtFirst yX2_beAsAtFirst) (List.mem_of_getElem? (i := 12) rfl))⟩ (va_recv (ci := 2) (q0 := 2) hK hP rfl rfl) rfl hl.1 rfl (Nat.le_of_ble_eq_true rfl) dX5_startAnew_11 ⟨Nat.zero_le _, Nat.zero_le _⟩ (fun H locs hP hD hS => ?_)
  have hP : va_P Γ.1 vwCl (wd_X5_startAnew Γ q0 q1 q2 q3 q4 q5 d0 isPlateFixed rowsTold text_length text_kind text_first text_fin_1 plate_columns_3 plate_rows_4 plate_numbers_5 plate_figure_6 plate_grains_7) H := hP
  have hD : va_D A (wd_X5_startAnew Γ q0 q1 q2 q3 q4 q5 d0 isPlateFixed rowsTold text_length text_kind text_first text_fin_1 plate_columns_3 plate_rows_4 plate_numbers_5 plate_figure_6 plate_grains_7) := hD
  refine lv_aload_n hx hb dX5_startAnew_14 rfl (lv_at hl 0 rfl) ?_
  refine lv_iconst (v := 0) hx hb dX5_startAnew_15 (by decide) ?_
  refine va_put (D := Γ.1) (ci := 5) (v := .int 0) (ty := .boolean) (C := RX5) (T := TX5) (N := 4) hx hb hts hi5 tyX5 tyX5_ok nmX5 hown hK hP hD hS 0 rfl rfl 2 (by decide) (hts (.fieldLink RX5 56 "SandPlates$Teller" "isPlateFixed" "Z") (List.mem_of_getElem? (i := 3) rfl)) (fun _ h9 => h9) rfl (by decide +kernel) rfl rfl (Nat.le_of_ble_eq_true rfl) dX5_startAnew_16 (fun H locs hP hD hS => ?_)
  have hP : va_P Γ.1 vwCl (wd_X5_startAnew Γ q0 q1 q2 q3 q4 q5 d0 0 rowsTold text_length text_kind text_first text_fin_1 plate_columns_3 plate_rows_4 plate_numbers_5 plate_figure_6 plate_grains_7) H := hP
  have hD : va_D A (wd_X5_startAnew Γ q0 q1 q2 q3 q4 q5 d0 0 rowsTold text_length text_kind text_first text_fin_1 plate_columns_3 plate_rows_4 plate_numbers_5 plate_figure_6 plate_grains_7) := hD
  refine lv_aload_n hx hb dX5_startAnew_19 rfl (lv_at hl 0 rfl) ?_
  refine lv_iconst (v := 0) hx hb dX5_startAnew_20 (by decide) ?_
  refine va_put (D := Γ.1) (ci := 5) (v := .int 0) (ty := .int) (C := RX5) (T := TX5) (N := 4) hx hb hts hi5 tyX5 tyX5_ok nmX5 hown hK hP hD hS 0 rfl rfl 3 (by decide) (hts (.fieldLink RX5 60 "SandPlates$Teller" "rowsTold" "I") (List.mem_of_getElem? (i := 4) rfl)) (fun _ h9 => h9) rfl (by decide +kernel) rfl rfl (Nat.le_of_ble_eq_true rfl) dX5_startAnew_21 (fun H locs hP hD hS => ?_)
  have hP : va_P Γ.1 vwCl (wd_X5_startAnew Γ q0 q1 q2 q3 q4 q5 d0 0 0 text_length text_kind text_first text_fin_1 plate_columns_3 plate_rows_4 plate_numbers_5 plate_figure_6 plate_grains_7) H := hP
  have hD : va_D A (wd_X5_startAnew Γ q0 q1 q2 q3 q4 q5 d0 0 0 text_length text_kind text_first text_fin_1 plate_columns_3 plate_rows_4 plate_numbers_5 plate_figure_6 plate_grains_7) := hD
  subst hout; obtain ⟨rfl, rfl, rfl, rfl, rfl, rfl, rfl, rfl⟩ := rt8 hf
  subst hQQ
  exact W.vret hx hb hr (fun t ht hW => ⟨⟨(), rfl, trivial, by rw [ht]; exact hP, hD⟩, hS.F ht⟩) hS.2.2 dX5_startAnew_24
def wd_X5_readSemicolon (Γ : GE) (q0 q1 q2 d0 : Nat) (isPlateFixed : Int32) (rowsTold : Int32) (text_length : Int32) (text_kind : Int32) (text_first : Int32) (text_fin : Int32) (text_letters : Nat → Int32) : va_W := [(q0, .inr (5, [.ref q1, .ref d0, .int isPlateFixed, .int rowsTold])), (q1, .inr (6, [.ref q2, .int text_length, .int text_kind, .int text_first, .int text_fin])), (q2, .inl (Γ.2.1 0, 120, .inl text_letters))]
def f_X5_readSemicolon_23 (text_kind : Int32) (text_first : Int32) (text_fin : Int32) (s0 : Int32) : Option (Int32 × Int32 × Int32 × Int32) := if s0 = 0 ∨ s0 = 1 then some (s0, text_kind, text_first, text_fin) else none
def f_X5_readSemicolon (text_length : Int32) (text_fin : Int32) (text_letters : Nat → Int32) : Option (Int32 × Int32 × Int32 × Int32) := ob3 (f_X6_advance text_length text_fin text_letters) (fun text_kind_2 text_first_3 text_fin_4 => if text_kind_2 = 3 then (f_X5_readSemicolon_23 text_kind_2 text_first_3 text_fin_4 1) else (f_X5_readSemicolon_23 text_kind_2 text_first_3 text_fin_4 0))
set_option maxHeartbeats 4000000 in
set_option maxRecDepth 100000 in
theorem c_X5_readSemicolon (l : Launch) (Γ : GE) (sz : Nat) (q0 q1 q2 d0 : Nat) (isPlateFixed : Int32) (rowsTold : Int32) (text_length : Int32) (text_kind : Int32) (text_first : Int32) (text_fin : Int32) (text_letters : Nat → Int32) (ro : Int32) (o_text_kind : Int32) (o_text_first : Int32) (o_text_fin : Int32) (hf : f_X5_readSemicolon text_length text_fin text_letters = some (ro, o_text_kind, o_text_first, o_text_fin)) : MetI l yX5_readSemicolon wsX5_readSemicolon ({ frames := 2, cells := 0, slots := 0, locals := 41 } : Room) Γ [.ref q0] (wd_X5_readSemicolon Γ q0 q1 q2 d0 isPlateFixed rowsTold text_length text_kind text_first text_fin text_letters) (wd_X5_readSemicolon Γ q0 q1 q2 d0 isPlateFixed rowsTold text_length o_text_kind o_text_first o_text_fin text_letters) sz ro := by
  refine Met.ofW (cc := cX5_readSemicolon) (maxL := 1) (ret := (some .boolean)) (by decide) rfl ?_
  intro p e s m args below meth c s₁ B hml hv
  obtain ⟨rfl, hsz, hE, hP, hD⟩ := hv
  have hx := B.exec
  have hb := B.bytes
  have hr := B.returns
  have hts := atoms_spec (ws := wsX5_readSemicolon) B.pre
  have hown : s.vm.findClass RX5 = some m.cls := findClass_of_methodNamed B.named
  have hlocks := B.notSynchronized
  subst hsz
  generalize hAe : va_A (wd_X5_readSemicolon Γ q0 q1 q2 d0 isPlateFixed rowsTold text_length text_kind text_first text_fin text_letters) s.heap.size = A at hE hD ⊢
  have hA : ∀ q : Nat, s.heap.size ≤ q → A q := fun q h => by rw [← hAe]; exact Or.inr h
  clear hAe
  have hS : va_S A s.heap s.heap [] := va_S.rf
  have hK := hE.1
  have hl := lv_entry ([.ref q0]) (n := 1) (Nat.le_of_ble_eq_true rfl)
  rw [lg_entry_eq]
  generalize (lg_sl ([.ref q0]) ++ List.replicate (1 - (lg_sl ([.ref q0])).length) Slot.unset).toArray = ls at hl ⊢
  have hl : lv_has ls 1 [(0, .ref q0)] := hl
  have hi5 : ∀ w ∈ u_ws RX5 TX5 4, w ∈ wsX5_readSemicolon := fun w h => (List.mem_cons_of_mem _ (List.mem_append_left _ (List.mem_append_right _ h)))
  have hi6 : ∀ w ∈ u_ws RX6 TX6 5, w ∈ wsX5_readSemicolon := fun w h => (List.mem_cons_of_mem _ (List.mem_append_right _ h))
  obtain ⟨out, hout⟩ : ∃ o, o = (ro, o_text_kind, o_text_first, o_text_fin) := ⟨_, rfl⟩
  rw [← hout] at hf
  obtain ⟨QQ, hQQ⟩ : ∃ Q, Q = MQ below (va_Qi (fun (r' : Int32) (_ : Unit) => r' = ro) (CQ Γ (wd_X5_readSemicolon Γ q0 q1 q2 d0 isPlateFixed rowsTold text_length o_text_kind o_text_first o_text_fin text_letters) A) A) (([.ref q0] : List Value).toArray) s 0 0 A := ⟨_, rfl⟩
  show W p l e ({ frames := 2, cells := 0, slots := 0, locals := 41 } : Room) s m (([.ref q0] : List Value).toArray) below meth c s.heap [] 0 0 (MQ below _ (([.ref q0] : List Value).toArray) s 0 0 A) (F0 m 0 ls [])
  rw [← hQQ]
  have K_23 : ∀ (text_kind : Int32) (text_first : Int32) (text_fin : Int32) (s0 : Int32) {H : Heap} {locs : List Loc} {ls : Array Slot}, va_P Γ.1 vwCl (wd_X5_readSemicolon Γ q0 q1 q2 d0 isPlateFixed rowsTold text_length text_kind text_first text_fin text_letters) H → va_D A (wd_X5_readSemicolon Γ q0 q1 q2 d0 isPlateFixed rowsTold text_length text_kind text_first text_fin text_letters) → va_S A s.heap H locs → lv_has ls 1 [] → f_X5_readSemicolon_23 text_kind text_first text_fin s0 = some out → W p l e ({ frames := 2, cells := 0, slots := 0, locals := 41 } : Room) s m ([.ref q0] : List Value).toArray below meth c H locs 0 0 QQ (F0 m 23 ls [.int s0]) := by
    intro text_kind text_first text_fin s0 H locs ls hP hD hS hl hf
    unfold f_X5_readSemicolon_23 at hf
    obtain ⟨hc_1, hf⟩ := vm_ck hf
    subst hout; obtain ⟨rfl, rfl, rfl, rfl⟩ := rt4 hf
    subst hQQ
    exact W.zret hx hb hr (vm_nz hc_1) (fun t ht hW => ⟨⟨_, (), rfl, rfl, by rw [ht]; exact hP, hD⟩, hS.F ht⟩) hS.2.2 dX5_readSemicolon_23
  unfold f_X5_readSemicolon at hf
  refine lv_aload_n hx hb dX5_readSemicolon_0 rfl (lv_at hl 0 rfl) ?_
  refine va_get (D := Γ.1) (ci := 5) (v := .ref q1) (C := RX5) (T := TX5) (N := 4) hx hb hts hi5 hown hK hP 0 rfl rfl 0 (by decide) (hts (.fieldLink RX5 12 "SandPlates$Teller" "text" "LSandPlates$Text;") (List.mem_of_getElem? (i := 1) rfl)) (fun _ h9 => h9) rfl dX5_readSemicolon_1 ?_
  obtain ⟨text_kind_2, text_first_3, text_fin_4, hq_5, hf⟩ := ob3_some hf
  refine vm_cNv (isC := [1, 2]) (wc := (wd_X6_advance Γ q1 q2 text_length text_kind text_first text_fin text_letters)) (w1 := (wd_X6_advance Γ q1 q2 text_length text_kind_2 text_first_3 text_fin_4 text_letters)) (As := []) (rest := []) ⟨hx, hb, hml, hown, hts⟩ hE hP hD hS hA rfl rfl rfl (c_X6_advance l Γ _ q1 q2 text_length text_kind text_first text_fin text_letters text_kind_2 text_first_3 text_fin_4 hq_5) ⟨va_cnB 0 hts ggX5_readSemicolon_X6_advance rfl rfl rfl (nmX5_28 hE.2.1) (hts (.initialized RX6) (List.mem_of_getElem? (i := 3) rfl)) (by decide +kernel) ⟨Nat.le_of_ble_eq_true rfl, Nat.le_of_ble_eq_true rfl⟩, (hts (.instanceMethod yX6_advance) (List.mem_of_getElem? (i := 2) rfl)), (hts (.selects RX6 yX6_advance yX6_advance) (List.mem_of_getElem? (i := 4) rfl))⟩ (va_recv (ci := 6) (q0 := 1) hK hP rfl rfl) rfl hl.1 rfl (Nat.le_of_ble_eq_true rfl) dX5_readSemicolon_4 ⟨Nat.zero_le _, Nat.zero_le _⟩ (fun H locs hP hD hS => ?_)
  have hP : va_P Γ.1 vwCl (wd_X5_readSemicolon Γ q0 q1 q2 d0 isPlateFixed rowsTold text_length text_kind_2 text_first_3 text_fin_4 text_letters) H := hP
  have hD : va_D A (wd_X5_readSemicolon Γ q0 q1 q2 d0 isPlateFixed rowsTold text_length text_kind_2 text_first_3 text_fin_4 text_letters) := hD
  refine lv_aload_n hx hb dX5_readSemicolon_7 rfl (lv_at hl 0 rfl) ?_
  refine va_get (D := Γ.1) (ci := 5) (v := .ref q1) (C := RX5) (T := TX5) (N := 4) hx hb hts hi5 hown hK hP 0 rfl rfl 0 (by decide) (hts (.fieldLink RX5 12 "SandPlates$Teller" "text" "LSandPlates$Text;") (List.mem_of_getElem? (i := 1) rfl)) (fun _ h9 => h9) rfl dX5_readSemicolon_8 ?_
  refine va_getN (D := Γ.1) (ci := 6) (v := .int text_kind_2) (C := RX6) (T := TX6) (N := 5) hx hb hts hi6 hown hK hP 1 rfl rfl 2 (by decide) (va_Nw.use rfl (nfX5_31 hE.2.1)) (fun _ h9 => h9) rfl dX5_readSemicolon_11 ?_
  refine lv_iconst (v := 3) hx hb dX5_readSemicolon_14 (by decide) ?_
  refine lv_icmp_ne (tgt := 22) hx hb dX5_readSemicolon_15 (by decide) (fun hc_6 => ?_) (fun hc_6 => ?_)
  · have hf := vm_neg hc_6 hf
    refine lv_iconst (v := 0) hx hb dX5_readSemicolon_22 (by decide) ?_
    exact K_23 text_kind_2 text_first_3 text_fin_4 0 hP hD hS (lv_sub hl [] rfl) hf
  · have hf := vm_pos hc_6 hf
    refine lv_iconst (v := 1) hx hb dX5_readSemicolon_18 (by decide) ?_
    refine lv_goto (tgt := 23) hx hb dX5_readSemicolon_19 (by decide) ?_
    exact K_23 text_kind_2 text_first_3 text_fin_4 1 hP hD hS (lv_sub hl [] rfl) hf
def wd_X5_readNumber (Γ : GE) (q0 q1 q2 d0 : Nat) (isPlateFixed : Int32) (rowsTold : Int32) (text_length : Int32) (text_kind : Int32) (text_first : Int32) (text_fin : Int32) (text_letters : Nat → Int32) : va_W := [(q0, .inr (5, [.ref q1, .ref d0, .int isPlateFixed, .int rowsTold])), (q1, .inr (6, [.ref q2, .int text_length, .int text_kind, .int text_first, .int text_fin])), (q2, .inl (Γ.2.1 0, 120, .inl text_letters))]
def f_X5_readNumber_30 (text_kind : Int32) (text_first : Int32) (text_fin : Int32) (s0 : Int32) : Option (Int32 × Int32 × Int32 × Int32) := some (s0, text_kind, text_first, text_fin)
def f_X5_readNumber_25 (text_kind : Int32) (text_first : Int32) (text_fin : Int32) : Option (Int32 × Int32 × Int32 × Int32) := f_X5_readNumber_30 text_kind text_first text_fin (-1)
def f_X5_readNumber (text_length : Int32) (text_fin : Int32) (text_letters : Nat → Int32) (x1 : Int32) (x2 : Int32) : Option (Int32 × Int32 × Int32 × Int32) := ob3 (f_X6_advance text_length text_fin text_letters) (fun text_kind_1 text_first_2 text_fin_3 => ob1 (f_X6_number text_kind_1 text_first_2 text_fin_3 text_letters) (fun r_5 => if r_5 < x1 then (f_X5_readNumber_25 text_kind_1 text_first_2 text_fin_3) else (if r_5 ≤ x2 then (f_X5_readNumber_30 text_kind_1 text_first_2 text_fin_3 r_5) else (f_X5_readNumber_25 text_kind_1 text_first_2 text_fin_3))))
set_option maxHeartbeats 4000000 in
set_option maxRecDepth 100000 in
theorem c_X5_readNumber (l : Launch) (Γ : GE) (sz : Nat) (q0 q1 q2 d0 : Nat) (isPlateFixed : Int32) (rowsTold : Int32) (text_length : Int32) (text_kind : Int32) (text_first : Int32) (text_fin : Int32) (text_letters : Nat → Int32) (x1 : Int32) (x2 : Int32) (ro : Int32) (o_text_kind : Int32) (o_text_first : Int32) (o_text_fin : Int32) (hf : f_X5_readNumber text_length text_fin text_letters x1 x2 = some (ro, o_text_kind, o_text_first, o_text_fin)) : MetI l yX5_readNumber wsX5_readNumber ({ frames := 2, cells := 0, slots := 0, locals := 41 } : Room) Γ [.ref q0, .int x1, .int x2] (wd_X5_readNumber Γ q0 q1 q2 d0 isPlateFixed rowsTold text_length text_kind text_first text_fin text_letters) (wd_X5_readNumber Γ q0 q1 q2 d0 isPlateFixed rowsTold text_length o_text_kind o_text_first o_text_fin text_letters) sz ro := by
  refine Met.ofW (cc := cX5_readNumber) (maxL := 4) (ret := (some .int)) (by decide) rfl ?_
  intro p e s m args below meth c s₁ B hml hv
  obtain ⟨rfl, hsz, hE, hP, hD⟩ := hv
  have hx := B.exec
  have hb := B.bytes
  have hr := B.returns
  have hts := atoms_spec (ws := wsX5_readNumber) B.pre
  have hown : s.vm.findClass RX5 = some m.cls := findClass_of_methodNamed B.named
  have hlocks := B.notSynchronized
  subst hsz
  generalize hAe : va_A (wd_X5_readNumber Γ q0 q1 q2 d0 isPlateFixed rowsTold text_length text_kind text_first text_fin text_letters) s.heap.size = A at hE hD ⊢
  have hA : ∀ q : Nat, s.heap.size ≤ q → A q := fun q h => by rw [← hAe]; exact Or.inr h
  clear hAe
  have hS : va_S A s.heap s.heap [] := va_S.rf
  have hK := hE.1
  have hl := lv_entry ([.ref q0, .int x1, .int x2]) (n := 4) (Nat.le_of_ble_eq_true rfl)
  rw [lg_entry_eq]
  generalize (lg_sl ([.ref q0, .int x1, .int x2]) ++ List.replicate (4 - (lg_sl ([.ref q0, .int x1, .int x2])).length) Slot.unset).toArray = ls at hl ⊢
  have hl : lv_has ls 4 [(0, .ref q0), (1, .int x1), (2, .int x2)] := hl
  have hi5 : ∀ w ∈ u_ws RX5 TX5 4, w ∈ wsX5_readNumber := fun w h => (List.mem_cons_of_mem _ (List.mem_append_left _ (List.mem_append_right _ h)))
  have hi6 : ∀ w ∈ u_ws RX6 TX6 5, w ∈ wsX5_readNumber := fun w h => (List.mem_cons_of_mem _ (List.mem_append_right _ h))
  obtain ⟨out, hout⟩ : ∃ o, o = (ro, o_text_kind, o_text_first, o_text_fin) := ⟨_, rfl⟩
  rw [← hout] at hf
  obtain ⟨QQ, hQQ⟩ : ∃ Q, Q = MQ below (va_Qi (fun (r' : Int32) (_ : Unit) => r' = ro) (CQ Γ (wd_X5_readNumber Γ q0 q1 q2 d0 isPlateFixed rowsTold text_length o_text_kind o_text_first o_text_fin text_letters) A) A) (([.ref q0, .int x1, .int x2] : List Value).toArray) s 0 0 A := ⟨_, rfl⟩
  show W p l e ({ frames := 2, cells := 0, slots := 0, locals := 41 } : Room) s m (([.ref q0, .int x1, .int x2] : List Value).toArray) below meth c s.heap [] 0 0 (MQ below _ (([.ref q0, .int x1, .int x2] : List Value).toArray) s 0 0 A) (F0 m 0 ls [])
  rw [← hQQ]
  have K_30 : ∀ (text_kind : Int32) (text_first : Int32) (text_fin : Int32) (s0 : Int32) {H : Heap} {locs : List Loc} {ls : Array Slot}, va_P Γ.1 vwCl (wd_X5_readNumber Γ q0 q1 q2 d0 isPlateFixed rowsTold text_length text_kind text_first text_fin text_letters) H → va_D A (wd_X5_readNumber Γ q0 q1 q2 d0 isPlateFixed rowsTold text_length text_kind text_first text_fin text_letters) → va_S A s.heap H locs → lv_has ls 4 [] → f_X5_readNumber_30 text_kind text_first text_fin s0 = some out → W p l e ({ frames := 2, cells := 0, slots := 0, locals := 41 } : Room) s m ([.ref q0, .int x1, .int x2] : List Value).toArray below meth c H locs 0 0 QQ (F0 m 30 ls [.int s0]) := by
    intro text_kind text_first text_fin s0 H locs ls hP hD hS hl hf
    unfold f_X5_readNumber_30 at hf
    subst hout; obtain ⟨rfl, rfl, rfl, rfl⟩ := rt4 hf
    subst hQQ
    exact W.iret hx hb hr (fun t ht hW => ⟨⟨_, (), rfl, rfl, by rw [ht]; exact hP, hD⟩, hS.F ht⟩) hS.2.2 dX5_readNumber_30
  have K_25 : ∀ (text_kind : Int32) (text_first : Int32) (text_fin : Int32) {H : Heap} {locs : List Loc} {ls : Array Slot}, va_P Γ.1 vwCl (wd_X5_readNumber Γ q0 q1 q2 d0 isPlateFixed rowsTold text_length text_kind text_first text_fin text_letters) H → va_D A (wd_X5_readNumber Γ q0 q1 q2 d0 isPlateFixed rowsTold text_length text_kind text_first text_fin text_letters) → va_S A s.heap H locs → lv_has ls 4 [] → f_X5_readNumber_25 text_kind text_first text_fin = some out → W p l e ({ frames := 2, cells := 0, slots := 0, locals := 41 } : Room) s m ([.ref q0, .int x1, .int x2] : List Value).toArray below meth c H locs 0 0 QQ (F0 m 25 ls []) := by
    intro text_kind text_first text_fin H locs ls hP hD hS hl hf
    unfold f_X5_readNumber_25 at hf
    refine lv_iconst (v := (-1)) hx hb dX5_readNumber_25 (by decide) ?_
    refine lv_goto (tgt := 30) hx hb dX5_readNumber_26 (by decide) ?_
    exact K_30 text_kind text_first text_fin (-1) hP hD hS (lv_sub hl [] rfl) hf
  unfold f_X5_readNumber at hf
  refine lv_aload_n hx hb dX5_readNumber_0 rfl (lv_at hl 0 rfl) ?_
  refine va_get (D := Γ.1) (ci := 5) (v := .ref q1) (C := RX5) (T := TX5) (N := 4) hx hb hts hi5 hown hK hP 0 rfl rfl 0 (by decide) (hts (.fieldLink RX5 12 "SandPlates$Teller" "text" "LSandPlates$Text;") (List.mem_of_getElem? (i := 1) rfl)) (fun _ h9 => h9) rfl dX5_readNumber_1 ?_
  obtain ⟨text_kind_1, text_first_2, text_fin_3, hq_4, hf⟩ := ob3_some hf
  refine vm_cNv (isC := [1, 2]) (wc := (wd_X6_advance Γ q1 q2 text_length text_kind text_first text_fin text_letters)) (w1 := (wd_X6_advance Γ q1 q2 text_length text_kind_1 text_first_2 text_fin_3 text_letters)) (As := []) (rest := []) ⟨hx, hb, hml, hown, hts⟩ hE hP hD hS hA rfl rfl rfl (c_X6_advance l Γ _ q1 q2 text_length text_kind text_first text_fin text_letters text_kind_1 text_first_2 text_fin_3 hq_4) ⟨va_cnB 0 hts ggX5_readNumber_X6_advance rfl rfl rfl (nmX5_28 hE.2.1) (hts (.initialized RX6) (List.mem_of_getElem? (i := 3) rfl)) (by decide +kernel) ⟨Nat.le_of_ble_eq_true rfl, Nat.le_of_ble_eq_true rfl⟩, (hts (.instanceMethod yX6_advance) (List.mem_of_getElem? (i := 2) rfl)), (hts (.selects RX6 yX6_advance yX6_advance) (List.mem_of_getElem? (i := 4) rfl))⟩ (va_recv (ci := 6) (q0 := 1) hK hP rfl rfl) rfl hl.1 rfl (Nat.le_of_ble_eq_true rfl) dX5_readNumber_4 ⟨Nat.zero_le _, Nat.zero_le _⟩ (fun H locs hP hD hS => ?_)
  have hP : va_P Γ.1 vwCl (wd_X5_readNumber Γ q0 q1 q2 d0 isPlateFixed rowsTold text_length text_kind_1 text_first_2 text_fin_3 text_letters) H := hP
  have hD : va_D A (wd_X5_readNumber Γ q0 q1 q2 d0 isPlateFixed rowsTold text_length text_kind_1 text_first_2 text_fin_3 text_letters) := hD
  refine lv_aload_n hx hb dX5_readNumber_7 rfl (lv_at hl 0 rfl) ?_
  refine va_get (D := Γ.1) (ci := 5) (v := .ref q1) (C := RX5) (T := TX5) (N := 4) hx hb hts hi5 hown hK hP 0 rfl rfl 0 (by decide) (hts (.fieldLink RX5 12 "SandPlates$Teller" "text" "LSandPlates$Text;") (List.mem_of_getElem? (i := 1) rfl)) (fun _ h9 => h9) rfl dX5_readNumber_8 ?_
  obtain ⟨r_5, hq_6, hf⟩ := ob1_some hf
  refine vm_cNi (isC := [1, 2]) (wc := (wd_X6_number Γ q1 q2 text_length text_kind_1 text_first_2 text_fin_3 text_letters)) (w1 := (wd_X6_number Γ q1 q2 text_length text_kind_1 text_first_2 text_fin_3 text_letters)) (As := []) (rest := []) ⟨hx, hb, hml, hown, hts⟩ hE hP hD hS hA rfl rfl rfl (c_X6_number l Γ _ q1 q2 text_length text_kind_1 text_first_2 text_fin_3 text_letters r_5 hq_6) ⟨va_cnB 0 hts ggX5_readNumber_X6_number rfl rfl rfl (nmX5_129 hE.2.1) (hts (.initialized RX6) (List.mem_of_getElem? (i := 3) rfl)) (by decide +kernel) ⟨Nat.le_of_ble_eq_true rfl, Nat.le_of_ble_eq_true rfl⟩, (hts (.instanceMethod yX6_number) (List.mem_of_getElem? (i := 14) rfl)), (hts (.selects RX6 yX6_number yX6_number) (List.mem_of_getElem? (i := 15) rfl))⟩ (va_recv (ci := 6) (q0 := 1) hK hP rfl rfl) rfl hl.1 rfl (Nat.le_of_ble_eq_true rfl) dX5_readNumber_11 ⟨Nat.zero_le _, Nat.zero_le _⟩ (fun H locs hP hD hS => ?_)
  have hP : va_P Γ.1 vwCl (wd_X5_readNumber Γ q0 q1 q2 d0 isPlateFixed rowsTold text_length text_kind_1 text_first_2 text_fin_3 text_letters) H := hP
  have hD : va_D A (wd_X5_readNumber Γ q0 q1 q2 d0 isPlateFixed rowsTold text_length text_kind_1 text_first_2 text_fin_3 text_letters) := hD
  refine lv_istore_n (lv' := [(3, .int r_5), (0, .ref q0), (1, .int x1), (2, .int x2)]) hx hb dX5_readNumber_14 rfl hl (by decide) rfl (fun ls hl => ?_)
  refine lv_iload_n hx hb dX5_readNumber_15 rfl (lv_at hl 0 rfl) ?_
  refine lv_iload_n hx hb dX5_readNumber_16 rfl (lv_at hl 2 rfl) ?_
  refine lv_icmp_lt (tgt := 25) hx hb dX5_readNumber_17 (by decide) (fun hc_7 => ?_) (fun hc_7 => ?_)
  · have hf := vm_pos hc_7 hf
    exact K_25 text_kind_1 text_first_2 text_fin_3 hP hD hS (lv_sub hl [] rfl) hf
  · have hf := vm_neg hc_7 hf
    refine lv_iload_n hx hb dX5_readNumber_20 rfl (lv_at hl 0 rfl) ?_
    refine lv_iload_n hx hb dX5_readNumber_21 rfl (lv_at hl 3 rfl) ?_
    refine lv_icmp_le (tgt := 29) hx hb dX5_readNumber_22 (by decide) (fun hc_8 => ?_) (fun hc_8 => ?_)
    · have hf := vm_pos hc_8 hf
      refine lv_iload_n hx hb dX5_readNumber_29 rfl (lv_at hl 0 rfl) ?_
      exact K_30 text_kind_1 text_first_2 text_fin_3 r_5 hP hD hS (lv_sub hl [] rfl) hf
    · have hf := vm_neg hc_8 hf
      exact K_25 text_kind_1 text_first_2 text_fin_3 hP hD hS (lv_sub hl [] rfl) hf
def wd_X5_readPlate (Γ : GE) (q0 q1 q2 q3 d0 d1 d2 : Nat) (isPlateFixed : Int32) (rowsTold : Int32) (text_length : Int32) (text_kind : Int32) (text_first : Int32) (text_fin : Int32) (text_letters : Nat → Int32) (plate_columns : Int32) (plate_rows : Int32) : va_W := [(q0, .inr (5, [.ref q1, .ref q3, .int isPlateFixed, .int rowsTold])), (q1, .inr (6, [.ref q2, .int text_length, .int text_kind, .int text_first, .int text_fin])), (q2, .inl (Γ.2.1 0, 120, .inl text_letters)), (q3, .inr (2, [.int plate_columns, .int plate_rows, .ref d0, .ref d1, .ref d2]))]
def f_X5_readPlate (isPlateFixed : Int32) (text_length : Int32) (text_kind : Int32) (text_first : Int32) (text_fin : Int32) (text_letters : Nat → Int32) (plate_columns : Int32) (plate_rows : Int32) : Option (Int32 × Int32 × Int32 × Int32 × Int32 × Int32 × Int32) := if isPlateFixed = 0 then (ob4 (f_X5_readNumber text_length text_fin text_letters 2 6) (fun r_2 text_kind_3 text_first_4 text_fin_5 => if 0 ≤ r_2 then (ob4 (f_X5_readNumber text_length text_fin_5 text_letters 2 6) (fun r_8 text_kind_9 text_first_10 text_fin_11 => if 0 ≤ r_8 then (some (1, 1, text_kind_9, text_first_10, text_fin_11, r_2, r_8)) else (some (0, 1, text_kind_9, text_first_10, text_fin_11, plate_columns, plate_rows)))) else (some (0, 1, text_kind_3, text_first_4, text_fin_5, plate_columns, plate_rows)))) else (some (0, isPlateFixed, text_kind, text_first, text_fin, plate_columns, plate_rows))
set_option maxHeartbeats 4000000 in
set_option maxRecDepth 100000 in
theorem c_X5_readPlate (l : Launch) (Γ : GE) (sz : Nat) (q0 q1 q2 q3 d0 d1 d2 : Nat) (isPlateFixed : Int32) (rowsTold : Int32) (text_length : Int32) (text_kind : Int32) (text_first : Int32) (text_fin : Int32) (text_letters : Nat → Int32) (plate_columns : Int32) (plate_rows : Int32) (ro : Int32) (o_isPlateFixed : Int32) (o_text_kind : Int32) (o_text_first : Int32) (o_text_fin : Int32) (o_plate_columns : Int32) (o_plate_rows : Int32) (hf : f_X5_readPlate isPlateFixed text_length text_kind text_first text_fin text_letters plate_columns plate_rows = some (ro, o_isPlateFixed, o_text_kind, o_text_first, o_text_fin, o_plate_columns, o_plate_rows)) : MetI l yX5_readPlate wsX5_readPlate ({ frames := 3, cells := 0, slots := 0, locals := 64 } : Room) Γ [.ref q0] (wd_X5_readPlate Γ q0 q1 q2 q3 d0 d1 d2 isPlateFixed rowsTold text_length text_kind text_first text_fin text_letters plate_columns plate_rows) (wd_X5_readPlate Γ q0 q1 q2 q3 d0 d1 d2 o_isPlateFixed rowsTold text_length o_text_kind o_text_first o_text_fin text_letters o_plate_columns o_plate_rows) sz ro := by
  refine Met.ofW (cc := cX5_readPlate) (maxL := 3) (ret := (some .boolean)) (by decide) rfl ?_
  intro p e s m args below meth c s₁ B hml hv
  obtain ⟨rfl, hsz, hE, hP, hD⟩ := hv
  have hx := B.exec
  have hb := B.bytes
  have hr := B.returns
  have hts := atoms_spec (ws := wsX5_readPlate) B.pre
  have hown : s.vm.findClass RX5 = some m.cls := findClass_of_methodNamed B.named
  have hlocks := B.notSynchronized
  subst hsz
  generalize hAe : va_A (wd_X5_readPlate Γ q0 q1 q2 q3 d0 d1 d2 isPlateFixed rowsTold text_length text_kind text_first text_fin text_letters plate_columns plate_rows) s.heap.size = A at hE hD ⊢
  have hA : ∀ q : Nat, s.heap.size ≤ q → A q := fun q h => by rw [← hAe]; exact Or.inr h
  clear hAe
  have hS : va_S A s.heap s.heap [] := va_S.rf
  have hK := hE.1
  have hl := lv_entry ([.ref q0]) (n := 3) (Nat.le_of_ble_eq_true rfl)
  rw [lg_entry_eq]
  generalize (lg_sl ([.ref q0]) ++ List.replicate (3 - (lg_sl ([.ref q0])).length) Slot.unset).toArray = ls at hl ⊢
  have hl : lv_has ls 3 [(0, .ref q0)] := hl
  have hi2 : ∀ w ∈ u_ws RX2 TX2 5, w ∈ wsX5_readPlate := fun w h => (List.mem_cons_of_mem _ (List.mem_append_left _ (List.mem_append_right _ h)))
  have hi5 : ∀ w ∈ u_ws RX5 TX5 4, w ∈ wsX5_readPlate := fun w h => (List.mem_cons_of_mem _ (List.mem_append_left _ (List.mem_append_left _ (List.mem_append_right _ h))))
  have hi6 : ∀ w ∈ u_ws RX6 TX6 5, w ∈ wsX5_readPlate := fun w h => (List.mem_cons_of_mem _ (List.mem_append_right _ h))
  obtain ⟨out, hout⟩ : ∃ o, o = (ro, o_isPlateFixed, o_text_kind, o_text_first, o_text_fin, o_plate_columns, o_plate_rows) := ⟨_, rfl⟩
  rw [← hout] at hf
  obtain ⟨QQ, hQQ⟩ : ∃ Q, Q = MQ below (va_Qi (fun (r' : Int32) (_ : Unit) => r' = ro) (CQ Γ (wd_X5_readPlate Γ q0 q1 q2 q3 d0 d1 d2 o_isPlateFixed rowsTold text_length o_text_kind o_text_first o_text_fin text_letters o_plate_columns o_plate_rows) A) A) (([.ref q0] : List Value).toArray) s 0 0 A := ⟨_, rfl⟩
  show W p l e ({ frames := 3, cells := 0, slots := 0, locals := 64 } : Room) s m (([.ref q0] : List Value).toArray) below meth c s.heap [] 0 0 (MQ below _ (([.ref q0] : List Value).toArray) s 0 0 A) (F0 m 0 ls [])
  rw [← hQQ]
  unfold f_X5_readPlate at hf
  refine lv_aload_n hx hb dX5_readPlate_0 rfl (lv_at hl 0 rfl) ?_
  refine va_get (D := Γ.1) (ci := 5) (v := .int isPlateFixed) (C := RX5) (T := TX5) (N := 4) hx hb hts hi5 hown hK hP 0 rfl rfl 2 (by decide) (hts (.fieldLink RX5 56 "SandPlates$Teller" "isPlateFixed" "Z") (List.mem_of_getElem? (i := 1) rfl)) (fun _ h9 => h9) rfl dX5_readPlate_1 ?_
  refine lv_if_eq (tgt := 9) hx hb dX5_readPlate_4 (by decide) (fun hc_1 => ?_) (fun hc_1 => ?_)
  · have hf := vm_pos hc_1 hf
    refine lv_aload_n hx hb dX5_readPlate_9 rfl (lv_at hl 0 rfl) ?_
    refine lv_iconst (v := 1) hx hb dX5_readPlate_10 (by decide) ?_
    refine va_put (D := Γ.1) (ci := 5) (v := .int 1) (ty := .boolean) (C := RX5) (T := TX5) (N := 4) hx hb hts hi5 tyX5 tyX5_ok nmX5 hown hK hP hD hS 0 rfl rfl 2 (by decide) (hts (.fieldLink RX5 56 "SandPlates$Teller" "isPlateFixed" "Z") (List.mem_of_getElem? (i := 1) rfl)) (fun _ h9 => h9) rfl (by decide +kernel) rfl rfl (Nat.le_of_ble_eq_true rfl) dX5_readPlate_11 (fun H locs hP hD hS => ?_)
    have hP : va_P Γ.1 vwCl (wd_X5_readPlate Γ q0 q1 q2 q3 d0 d1 d2 1 rowsTold text_length text_kind text_first text_fin text_letters plate_columns plate_rows) H := hP
    have hD : va_D A (wd_X5_readPlate Γ q0 q1 q2 q3 d0 d1 d2 1 rowsTold text_length text_kind text_first text_fin text_letters plate_columns plate_rows) := hD
    refine lv_aload_n hx hb dX5_readPlate_14 rfl (lv_at hl 0 rfl) ?_
    refine lv_iconst (v := 2) hx hb dX5_readPlate_15 (by decide) ?_
    refine lv_bipush (v := 6) hx hb dX5_readPlate_16 (by decide) ?_
    obtain ⟨r_2, text_kind_3, text_first_4, text_fin_5, hq_6, hf⟩ := ob4_some hf
    refine vm_cVi (isC := [0, 1, 2]) (wc := (wd_X5_readNumber Γ q0 q1 q2 q3 1 rowsTold text_length text_kind text_first text_fin text_letters)) (w1 := (wd_X5_readNumber Γ q0 q1 q2 q3 1 rowsTold text_length text_kind_3 text_first_4 text_fin_5 text_letters)) (As := [.int 2, .int 6]) (rest := []) ⟨hx, hb, hml, hown, hts⟩ hE hP hD hS hA rfl rfl rfl (c_X5_readNumber l Γ _ q0 q1 q2 q3 1 rowsTold text_length text_kind text_first text_fin text_letters 2 6 r_2 text_kind_3 text_first_4 text_fin_5 hq_6) (cwV 2 hts gX5_readPlate_X5_readNumber rfl rfl rfl (by decide +kernel) ⟨Nat.le_of_ble_eq_true rfl, Nat.le_of_ble_eq_true rfl⟩) (va_recv (ci := 5) (q0 := 0) hK hP rfl rfl) rfl hl.1 rfl (Nat.le_of_ble_eq_true rfl) dX5_readPlate_18 ⟨Nat.zero_le _, Nat.zero_le _⟩ (fun H locs hP hD hS => ?_)
    have hP : va_P Γ.1 vwCl (wd_X5_readPlate Γ q0 q1 q2 q3 d0 d1 d2 1 rowsTold text_length text_kind_3 text_first_4 text_fin_5 text_letters plate_columns plate_rows) H := hP
    have hD : va_D A (wd_X5_readPlate Γ q0 q1 q2 q3 d0 d1 d2 1 rowsTold text_length text_kind_3 text_first_4 text_fin_5 text_letters plate_columns plate_rows) := hD
    refine lv_istore_n (lv' := [(1, .int r_2), (0, .ref q0)]) hx hb dX5_readPlate_21 rfl hl (by decide) rfl (fun ls hl => ?_)
    refine lv_iload_n hx hb dX5_readPlate_22 rfl (lv_at hl 0 rfl) ?_
    refine lv_if_ge (tgt := 28) hx hb dX5_readPlate_23 (by decide) (fun hc_7 => ?_) (fun hc_7 => ?_)
    · have hf := vm_pos hc_7 hf
      refine lv_aload_n hx hb dX5_readPlate_28 rfl (lv_at hl 1 rfl) ?_
      refine lv_iconst (v := 2) hx hb dX5_readPlate_29 (by decide) ?_
      refine lv_bipush (v := 6) hx hb dX5_readPlate_30 (by decide) ?_
      obtain ⟨r_8, text_kind_9, text_first_10, text_fin_11, hq_12, hf⟩ := ob4_some hf
      refine vm_cVi (isC := [0, 1, 2]) (wc := (wd_X5_readNumber Γ q0 q1 q2 q3 1 rowsTold text_length text_kind_3 text_first_4 text_fin_5 text_letters)) (w1 := (wd_X5_readNumber Γ q0 q1 q2 q3 1 rowsTold text_length text_kind_9 text_first_10 text_fin_11 text_letters)) (As := [.int 2, .int 6]) (rest := []) ⟨hx, hb, hml, hown, hts⟩ hE hP hD hS hA rfl rfl rfl (c_X5_readNumber l Γ _ q0 q1 q2 q3 1 rowsTold text_length text_kind_3 text_first_4 text_fin_5 text_letters 2 6 r_8 text_kind_9 text_first_10 text_fin_11 hq_12) (cwV 2 hts gX5_readPlate_X5_readNumber rfl rfl rfl (by decide +kernel) ⟨Nat.le_of_ble_eq_true rfl, Nat.le_of_ble_eq_true rfl⟩) (va_recv (ci := 5) (q0 := 0) hK hP rfl rfl) rfl hl.1 rfl (Nat.le_of_ble_eq_true rfl) dX5_readPlate_32 ⟨Nat.zero_le _, Nat.zero_le _⟩ (fun H locs hP hD hS => ?_)
      have hP : va_P Γ.1 vwCl (wd_X5_readPlate Γ q0 q1 q2 q3 d0 d1 d2 1 rowsTold text_length text_kind_9 text_first_10 text_fin_11 text_letters plate_columns plate_rows) H := hP
      have hD : va_D A (wd_X5_readPlate Γ q0 q1 q2 q3 d0 d1 d2 1 rowsTold text_length text_kind_9 text_first_10 text_fin_11 text_letters plate_columns plate_rows) := hD
      refine lv_istore_n (lv' := [(2, .int r_8), (1, .int r_2), (0, .ref q0)]) hx hb dX5_readPlate_35 rfl hl (by decide) rfl (fun ls hl => ?_)
      refine lv_iload_n hx hb dX5_readPlate_36 rfl (lv_at hl 0 rfl) ?_
      refine lv_if_ge (tgt := 42) hx hb dX5_readPlate_37 (by decide) (fun hc_13 => ?_) (fun hc_13 => ?_)
      · have hf := vm_pos hc_13 hf
        refine lv_aload_n hx hb dX5_readPlate_42 rfl (lv_at hl 2 rfl) ?_
        refine va_get (D := Γ.1) (ci := 5) (v := .ref q3) (C := RX5) (T := TX5) (N := 4) hx hb hts hi5 hown hK hP 0 rfl rfl 1 (by decide) (hts (.fieldLink RX5 21 "SandPlates$Teller" "plate" "LSandPlates$Plate;") (List.mem_of_getElem? (i := 2) rfl)) (fun _ h9 => h9) rfl dX5_readPlate_43 ?_
        refine lv_iload_n hx hb dX5_readPlate_46 rfl (lv_at hl 1 rfl) ?_
        refine va_putN (D := Γ.1) (ci := 2) (v := .int r_2) (ty := .int) (C := RX2) (T := TX2) (N := 5) hx hb hts hi2 tyX2 tyX2_ok nmX2 hown hK hP hD hS 3 rfl rfl 0 (by decide) (va_Nw.use rfl (nfX5_104 hE.2.1)) (fun _ h9 => h9) rfl (by decide +kernel) rfl rfl (Nat.le_of_ble_eq_true rfl) dX5_readPlate_47 (fun H locs hP hD hS => ?_)
        have hP : va_P Γ.1 vwCl (wd_X5_readPlate Γ q0 q1 q2 q3 d0 d1 d2 1 rowsTold text_length text_kind_9 text_first_10 text_fin_11 text_letters r_2 plate_rows) H := hP
        have hD : va_D A (wd_X5_readPlate Γ q0 q1 q2 q3 d0 d1 d2 1 rowsTold text_length text_kind_9 text_first_10 text_fin_11 text_letters r_2 plate_rows) := hD
        refine lv_aload_n hx hb dX5_readPlate_50 rfl (lv_at hl 2 rfl) ?_
        refine va_get (D := Γ.1) (ci := 5) (v := .ref q3) (C := RX5) (T := TX5) (N := 4) hx hb hts hi5 hown hK hP 0 rfl rfl 1 (by decide) (hts (.fieldLink RX5 21 "SandPlates$Teller" "plate" "LSandPlates$Plate;") (List.mem_of_getElem? (i := 2) rfl)) (fun _ h9 => h9) rfl dX5_readPlate_51 ?_
        refine lv_iload_n hx hb dX5_readPlate_54 rfl (lv_at hl 0 rfl) ?_
        refine va_putN (D := Γ.1) (ci := 2) (v := .int r_8) (ty := .int) (C := RX2) (T := TX2) (N := 5) hx hb hts hi2 tyX2 tyX2_ok nmX2 hown hK hP hD hS 3 rfl rfl 1 (by decide) (va_Nw.use rfl (nfX5_107 hE.2.1)) (fun _ h9 => h9) rfl (by decide +kernel) rfl rfl (Nat.le_of_ble_eq_true rfl) dX5_readPlate_55 (fun H locs hP hD hS => ?_)
        have hP : va_P Γ.1 vwCl (wd_X5_readPlate Γ q0 q1 q2 q3 d0 d1 d2 1 rowsTold text_length text_kind_9 text_first_10 text_fin_11 text_letters r_2 r_8) H := hP
        have hD : va_D A (wd_X5_readPlate Γ q0 q1 q2 q3 d0 d1 d2 1 rowsTold text_length text_kind_9 text_first_10 text_fin_11 text_letters r_2 r_8) := hD
        refine lv_iconst (v := 1) hx hb dX5_readPlate_58 (by decide) ?_
        subst hout; obtain ⟨rfl, rfl, rfl, rfl, rfl, rfl, rfl⟩ := rt7 hf
        subst hQQ
        exact W.zret hx hb hr rfl (fun t ht hW => ⟨⟨_, (), rfl, rfl, by rw [ht]; exact hP, hD⟩, hS.F ht⟩) hS.2.2 dX5_readPlate_59
      · have hf := vm_neg hc_13 hf
        refine lv_iconst (v := 0) hx hb dX5_readPlate_40 (by decide) ?_
        subst hout; obtain ⟨rfl, rfl, rfl, rfl, rfl, rfl, rfl⟩ := rt7 hf
        subst hQQ
        exact W.zret hx hb hr rfl (fun t ht hW => ⟨⟨_, (), rfl, rfl, by rw [ht]; exact hP, hD⟩, hS.F ht⟩) hS.2.2 dX5_readPlate_41
    · have hf := vm_neg hc_7 hf
      refine lv_iconst (v := 0) hx hb dX5_readPlate_26 (by decide) ?_
      subst hout; obtain ⟨rfl, rfl, rfl, rfl, rfl, rfl, rfl⟩ := rt7 hf
      subst hQQ
      exact W.zret hx hb hr rfl (fun t ht hW => ⟨⟨_, (), rfl, rfl, by rw [ht]; exact hP, hD⟩, hS.F ht⟩) hS.2.2 dX5_readPlate_27
  · have hf := vm_neg hc_1 hf
    refine lv_iconst (v := 0) hx hb dX5_readPlate_7 (by decide) ?_
    subst hout; obtain ⟨rfl, rfl, rfl, rfl, rfl, rfl, rfl⟩ := rt7 hf
    subst hQQ
    exact W.zret hx hb hr rfl (fun t ht hW => ⟨⟨_, (), rfl, rfl, by rw [ht]; exact hP, hD⟩, hS.F ht⟩) hS.2.2 dX5_readPlate_8
def wd_X5_readSetting (Γ : GE) (q0 q1 q2 q3 q4 d0 d1 : Nat) (isPlateFixed : Int32) (rowsTold : Int32) (text_length : Int32) (text_kind : Int32) (text_first : Int32) (text_fin : Int32) (text_letters : Nat → Int32) (plate_columns : Int32) (plate_rows : Int32) (plate_numbers : Nat → Int32) : va_W := [(q0, .inr (5, [.ref q1, .ref q3, .int isPlateFixed, .int rowsTold])), (q1, .inr (6, [.ref q2, .int text_length, .int text_kind, .int text_first, .int text_fin])), (q2, .inl (Γ.2.1 0, 120, .inl text_letters)), (q3, .inr (2, [.int plate_columns, .int plate_rows, .ref q4, .ref d0, .ref d1])), (q4, .inl (Γ.2.1 0, 7, .inl plate_numbers))]
def f_X5_readSetting_10 (text_kind : Int32) (text_first : Int32) (text_fin : Int32) (plate_numbers : Nat → Int32) : Option (Int32 × Int32 × Int32 × Int32 × (Nat → Int32)) := some (0, text_kind, text_first, text_fin, plate_numbers)
def f_X5_readSetting (text_length : Int32) (text_kind : Int32) (text_first : Int32) (text_fin : Int32) (text_letters : Nat → Int32) (plate_numbers : Nat → Int32) (x1 : Int32) : Option (Int32 × Int32 × Int32 × Int32 × (Nat → Int32)) := if x1 < 0 then (f_X5_readSetting_10 text_kind text_first text_fin plate_numbers) else (if x1 < 6 then (if inb x1 6 = true then if inb x1 6 = true then ob4 (f_X5_readNumber text_length text_fin text_letters (tbl1 x1.toNatClampNeg) (tbl2 x1.toNatClampNeg)) (fun r_5 text_kind_6 text_first_7 text_fin_8 => if 0 ≤ r_5 then (if inb x1 7 = true then some (1, text_kind_6, text_first_7, text_fin_8, (upd plate_numbers (x1.toNatClampNeg) r_5)) else none) else (some (0, text_kind_6, text_first_7, text_fin_8, plate_numbers))) else none else none) else (f_X5_readSetting_10 text_kind text_first text_fin plate_numbers))
set_option maxHeartbeats 4000000 in
set_option maxRecDepth 100000 in
theorem c_X5_readSetting (l : Launch) (Γ : GE) (sz : Nat) (q0 q1 q2 q3 q4 d0 d1 : Nat) (isPlateFixed : Int32) (rowsTold : Int32) (text_length : Int32) (text_kind : Int32) (text_first : Int32) (text_fin : Int32) (text_letters : Nat → Int32) (plate_columns : Int32) (plate_rows : Int32) (plate_numbers : Nat → Int32) (x1 : Int32) (ro : Int32) (o_text_kind : Int32) (o_text_first : Int32) (o_text_fin : Int32) (o_plate_numbers : Nat → Int32) (hf : f_X5_readSetting text_length text_kind text_first text_fin text_letters plate_numbers x1 = some (ro, o_text_kind, o_text_first, o_text_fin, o_plate_numbers)) : MetI l yX5_readSetting wsX5_readSetting ({ frames := 3, cells := 0, slots := 0, locals := 64 } : Room) Γ [.ref q0, .int x1] (wd_X5_readSetting Γ q0 q1 q2 q3 q4 d0 d1 isPlateFixed rowsTold text_length text_kind text_first text_fin text_letters plate_columns plate_rows plate_numbers) (wd_X5_readSetting Γ q0 q1 q2 q3 q4 d0 d1 isPlateFixed rowsTold text_length o_text_kind o_text_first o_text_fin text_letters plate_columns plate_rows o_plate_numbers) sz ro := by
  refine Met.ofW (cc := cX5_readSetting) (maxL := 3) (ret := (some .boolean)) (by decide) rfl ?_
  intro p e s m args below meth c s₁ B hml hv
  obtain ⟨rfl, hsz, hE, hP, hD⟩ := hv
  have hx := B.exec
  have hb := B.bytes
  have hr := B.returns
  have hts := atoms_spec (ws := wsX5_readSetting) B.pre
  have hown : s.vm.findClass RX5 = some m.cls := findClass_of_methodNamed B.named
  have hlocks := B.notSynchronized
  subst hsz
  generalize hAe : va_A (wd_X5_readSetting Γ q0 q1 q2 q3 q4 d0 d1 isPlateFixed rowsTold text_length text_kind text_first text_fin text_letters plate_columns plate_rows plate_numbers) s.heap.size = A at hE hD ⊢
  have hA : ∀ q : Nat, s.heap.size ≤ q → A q := fun q h => by rw [← hAe]; exact Or.inr h
  clear hAe
  have hS : va_S A s.heap s.heap [] := va_S.rf
  have hK := hE.1
  have hl := lv_entry ([.ref q0, .int x1]) (n := 3) (Nat.le_of_ble_eq_true rfl)
  rw [lg_entry_eq]
  generalize (lg_sl ([.ref q0, .int x1]) ++ List.replicate (3 - (lg_sl ([.ref q0, .int x1])).length) Slot.unset).toArray = ls at hl ⊢
  have hl : lv_has ls 3 [(0, .ref q0), (1, .int x1)] := hl
  have hi2 : ∀ w ∈ u_ws RX2 TX2 5, w ∈ wsX5_readSetting := fun w h => (List.mem_cons_of_mem _ (List.mem_append_left _ (List.mem_append_right _ h)))
  have hi5 : ∀ w ∈ u_ws RX5 TX5 4, w ∈ wsX5_readSetting := fun w h => (List.mem_cons_of_mem _ (List.mem_append_left _ (List.mem_append_left _ (List.mem_append_right _ h))))
  have hi6 : ∀ w ∈ u_ws RX6 TX6 5, w ∈ wsX5_readSetting := fun w h => (List.mem_cons_of_mem _ (List.mem_append_right _ h))
  obtain ⟨out, hout⟩ : ∃ o, o = (ro, o_text_kind, o_text_first, o_text_fin, o_plate_numbers) := ⟨_, rfl⟩
  rw [← hout] at hf
  obtain ⟨QQ, hQQ⟩ : ∃ Q, Q = MQ below (va_Qi (fun (r' : Int32) (_ : Unit) => r' = ro) (CQ Γ (wd_X5_readSetting Γ q0 q1 q2 q3 q4 d0 d1 isPlateFixed rowsTold text_length o_text_kind o_text_first o_text_fin text_letters plate_columns plate_rows o_plate_numbers) A) A) (([.ref q0, .int x1] : List Value).toArray) s 0 0 A := ⟨_, rfl⟩
  show W p l e ({ frames := 3, cells := 0, slots := 0, locals := 64 } : Room) s m (([.ref q0, .int x1] : List Value).toArray) below meth c s.heap [] 0 0 (MQ below _ (([.ref q0, .int x1] : List Value).toArray) s 0 0 A) (F0 m 0 ls [])
  rw [← hQQ]
  have K_10 : ∀ (text_kind : Int32) (text_first : Int32) (text_fin : Int32) (plate_numbers : Nat → Int32) {H : Heap} {locs : List Loc} {ls : Array Slot}, va_P Γ.1 vwCl (wd_X5_readSetting Γ q0 q1 q2 q3 q4 d0 d1 isPlateFixed rowsTold text_length text_kind text_first text_fin text_letters plate_columns plate_rows plate_numbers) H → va_D A (wd_X5_readSetting Γ q0 q1 q2 q3 q4 d0 d1 isPlateFixed rowsTold text_length text_kind text_first text_fin text_letters plate_columns plate_rows plate_numbers) → va_S A s.heap H locs → lv_has ls 3 [] → f_X5_readSetting_10 text_kind text_first text_fin plate_numbers = some out → W p l e ({ frames := 3, cells := 0, slots := 0, locals := 64 } : Room) s m ([.ref q0, .int x1] : List Value).toArray below meth c H locs 0 0 QQ (F0 m 10 ls []) := by
    intro text_kind text_first text_fin plate_numbers H locs ls hP hD hS hl hf
    unfold f_X5_readSetting_10 at hf
    refine lv_iconst (v := 0) hx hb dX5_readSetting_10 (by decide) ?_
    subst hout; obtain ⟨rfl, rfl, rfl, rfl, rfl⟩ := rt5 hf
    subst hQQ
    exact W.zret hx hb hr rfl (fun t ht hW => ⟨⟨_, (), rfl, rfl, by rw [ht]; exact hP, hD⟩, hS.F ht⟩) hS.2.2 dX5_readSetting_11
  unfold f_X5_readSetting at hf
  refine lv_iload_n hx hb dX5_readSetting_0 rfl (lv_at hl 1 rfl) ?_
  refine lv_if_lt (tgt := 10) hx hb dX5_readSetting_1 (by decide) (fun hc_1 => ?_) (fun hc_1 => ?_)
  · have hf := vm_pos hc_1 hf
    exact K_10 text_kind text_first text_fin plate_numbers hP hD hS (lv_sub hl [] rfl) hf
  · have hf := vm_neg hc_1 hf
    refine lv_iload_n hx hb dX5_readSetting_4 rfl (lv_at hl 1 rfl) ?_
    refine lv_bipush (v := 6) hx hb dX5_readSetting_5 (by decide) ?_
    refine lv_icmp_lt (tgt := 12) hx hb dX5_readSetting_7 (by decide) (fun hc_2 => ?_) (fun hc_2 => ?_)
    · have hf := vm_pos hc_2 hf
      refine lv_aload_n hx hb dX5_readSetting_12 rfl (lv_at hl 0 rfl) ?_
      refine va_getsN hx hb hE.2.2.1.2.1.1 hS hown (va_Nw.use rfl (nfX5_110 hE.2.1)) (fun _ h9 => h9) dX5_readSetting_13 ?_
      refine lv_iload_n hx hb dX5_readSetting_16 rfl (lv_at hl 1 rfl) ?_
      obtain ⟨hc_3, hf⟩ := vm_ck hf
      refine va_ti hx hb hE.2.2.1.2.1.2 hS (inb_vp hc_3) rfl dX5_readSetting_17 ?_
      refine va_getsN hx hb hE.2.2.1.2.2.1.1 hS hown (va_Nw.use rfl (nfX5_114 hE.2.1)) (fun _ h9 => h9) dX5_readSetting_18 ?_
      refine lv_iload_n hx hb dX5_readSetting_21 rfl (lv_at hl 1 rfl) ?_
      obtain ⟨hc_4, hf⟩ := vm_ck hf
      refine va_ti hx hb hE.2.2.1.2.2.1.2 hS (inb_vp hc_4) rfl dX5_readSetting_22 ?_
      obtain ⟨r_5, text_kind_6, text_first_7, text_fin_8, hq_9, hf⟩ := ob4_some hf
      refine vm_cVi (isC := [0, 1, 2]) (wc := (wd_X5_readNumber Γ q0 q1 q2 q3 isPlateFixed rowsTold text_length text_kind text_first text_fin text_letters)) (w1 := (wd_X5_readNumber Γ q0 q1 q2 q3 isPlateFixed rowsTold text_length text_kind_6 text_first_7 text_fin_8 text_letters)) (As := [.int (tbl1 x1.toNatClampNeg), .int (tbl2 x1.toNatClampNeg)]) (rest := []) ⟨hx, hb, hml, hown, hts⟩ hE hP hD hS hA rfl rfl rfl (c_X5_readNumber l Γ _ q0 q1 q2 q3 isPlateFixed rowsTold text_length text_kind text_first text_fin text_letters (tbl1 x1.toNatClampNeg) (tbl2 x1.toNatClampNeg) r_5 text_kind_6 text_first_7 text_fin_8 hq_9) (cwV 2 hts gX5_readSetting_X5_readNumber rfl rfl rfl (by decide +kernel) ⟨Nat.le_of_ble_eq_true rfl, Nat.le_of_ble_eq_true rfl⟩) (va_recv (ci := 5) (q0 := 0) hK hP rfl rfl) rfl hl.1 rfl (Nat.le_of_ble_eq_true rfl) dX5_readSetting_23 ⟨Nat.zero_le _, Nat.zero_le _⟩ (fun H locs hP hD hS => ?_)
      have hP : va_P Γ.1 vwCl (wd_X5_readSetting Γ q0 q1 q2 q3 q4 d0 d1 isPlateFixed rowsTold text_length text_kind_6 text_first_7 text_fin_8 text_letters plate_columns plate_rows plate_numbers) H := hP
      have hD : va_D A (wd_X5_readSetting Γ q0 q1 q2 q3 q4 d0 d1 isPlateFixed rowsTold text_length text_kind_6 text_first_7 text_fin_8 text_letters plate_columns plate_rows plate_numbers) := hD
      refine lv_istore_n (lv' := [(2, .int r_5), (0, .ref q0), (1, .int x1)]) hx hb dX5_readSetting_26 rfl hl (by decide) rfl (fun ls hl => ?_)
      refine lv_iload_n hx hb dX5_readSetting_27 rfl (lv_at hl 0 rfl) ?_
      refine lv_if_ge (tgt := 33) hx hb dX5_readSetting_28 (by decide) (fun hc_10 => ?_) (fun hc_10 => ?_)
      · have hf := vm_pos hc_10 hf
        refine lv_aload_n hx hb dX5_readSetting_33 rfl (lv_at hl 1 rfl) ?_
        refine va_get (D := Γ.1) (ci := 5) (v := .ref q3) (C := RX5) (T := TX5) (N := 4) hx hb hts hi5 hown hK hP 0 rfl rfl 1 (by decide) (hts (.fieldLink RX5 21 "SandPlates$Teller" "plate" "LSandPlates$Plate;") (List.mem_of_getElem? (i := 1) rfl)) (fun _ h9 => h9) rfl dX5_readSetting_34 ?_
        refine va_getN (D := Γ.1) (ci := 2) (v := .ref q4) (C := RX2) (T := TX2) (N := 5) hx hb hts hi2 hown hK hP 3 rfl rfl 2 (by decide) (va_Nw.use rfl (nfX5_117 hE.2.1)) (fun _ h9 => h9) rfl dX5_readSetting_37 ?_
        refine lv_iload_n hx hb dX5_readSetting_40 rfl (lv_at hl 2 rfl) ?_
        refine lv_iload_n hx hb dX5_readSetting_41 rfl (lv_at hl 0 rfl) ?_
        obtain ⟨hc_11, hf⟩ := vm_ck hf
        refine vm_iast hx hb hK hP hD hS 4 0 rfl rfl hc_11 (j := (x1.toNatClampNeg)) rfl dX5_readSetting_42 (fun H locs hP hD hS => ?_)
        have hP : va_P Γ.1 vwCl (wd_X5_readSetting Γ q0 q1 q2 q3 q4 d0 d1 isPlateFixed rowsTold text_length text_kind_6 text_first_7 text_fin_8 text_letters plate_columns plate_rows (upd plate_numbers (x1.toNatClampNeg) r_5)) H := hP
        have hD : va_D A (wd_X5_readSetting Γ q0 q1 q2 q3 q4 d0 d1 isPlateFixed rowsTold text_length text_kind_6 text_first_7 text_fin_8 text_letters plate_columns plate_rows (upd plate_numbers (x1.toNatClampNeg) r_5)) := hD
        refine lv_iconst (v := 1) hx hb dX5_readSetting_43 (by decide) ?_
        subst hout; obtain ⟨rfl, rfl, rfl, rfl, rfl⟩ := rt5 hf
        subst hQQ
        exact W.zret hx hb hr rfl (fun t ht hW => ⟨⟨_, (), rfl, rfl, by rw [ht]; exact hP, hD⟩, hS.F ht⟩) hS.2.2 dX5_readSetting_44
      · have hf := vm_neg hc_10 hf
        refine lv_iconst (v := 0) hx hb dX5_readSetting_31 (by decide) ?_
        subst hout; obtain ⟨rfl, rfl, rfl, rfl, rfl⟩ := rt5 hf
        subst hQQ
        exact W.zret hx hb hr rfl (fun t ht hW => ⟨⟨_, (), rfl, rfl, by rw [ht]; exact hP, hD⟩, hS.F ht⟩) hS.2.2 dX5_readSetting_32
    · have hf := vm_neg hc_2 hf
      exact K_10 text_kind text_first text_fin plate_numbers hP hD hS (lv_sub hl [] rfl) hf
def wd_X5_readDrive (Γ : GE) (q0 q1 q2 q3 q4 d0 d1 : Nat) (isPlateFixed : Int32) (rowsTold : Int32) (text_length : Int32) (text_kind : Int32) (text_first : Int32) (text_fin : Int32) (text_letters : Nat → Int32) (plate_columns : Int32) (plate_rows : Int32) (plate_numbers : Nat → Int32) : va_W := [(q0, .inr (5, [.ref q1, .ref q3, .int isPlateFixed, .int rowsTold])), (q1, .inr (6, [.ref q2, .int text_length, .int text_kind, .int text_first, .int text_fin])), (q2, .inl (Γ.2.1 0, 120, .inl text_letters)), (q3, .inr (2, [.int plate_columns, .int plate_rows, .ref q4, .ref d0, .ref d1])), (q4, .inl (Γ.2.1 0, 7, .inl plate_numbers))]
def f_X5_readDrive (text_length : Int32) (text_fin : Int32) (text_letters : Nat → Int32) (plate_columns : Int32) (plate_rows : Int32) (plate_numbers : Nat → Int32) : Option (Int32 × Int32 × Int32 × Int32 × Int32 × (Nat → Int32)) := ob4 (f_X5_readNumber text_length text_fin text_letters 0 (plate_columns - 1)) (fun r_1 text_kind_2 text_first_3 text_fin_4 => if 0 ≤ r_1 then (ob4 (f_X5_readNumber text_length text_fin_4 text_letters 0 (plate_rows - 1)) (fun r_7 text_kind_8 text_first_9 text_fin_10 => if 0 ≤ r_7 then (some (1, 1, text_kind_8, text_first_9, text_fin_10, (upd plate_numbers 6 ((plate_columns * r_7) + r_1)))) else (some (0, 1, text_kind_8, text_first_9, text_fin_10, plate_numbers)))) else (some (0, 1, text_kind_2, text_first_3, text_fin_4, plate_numbers)))
set_option maxHeartbeats 4000000 in
set_option maxRecDepth 100000 in
theorem c_X5_readDrive (l : Launch) (Γ : GE) (sz : Nat) (q0 q1 q2 q3 q4 d0 d1 : Nat) (isPlateFixed : Int32) (rowsTold : Int32) (text_length : Int32) (text_kind : Int32) (text_first : Int32) (text_fin : Int32) (text_letters : Nat → Int32) (plate_columns : Int32) (plate_rows : Int32) (plate_numbers : Nat → Int32) (ro : Int32) (o_isPlateFixed : Int32) (o_text_kind : Int32) (o_text_first : Int32) (o_text_fin : Int32) (o_plate_numbers : Nat → Int32) (hf : f_X5_readDrive text_length text_fin text_letters plate_columns plate_rows plate_numbers = some (ro, o_isPlateFixed, o_text_kind, o_text_first, o_text_fin, o_plate_numbers)) : MetI l yX5_readDrive wsX5_readDrive ({ frames := 3, cells := 0, slots := 0, locals := 64 } : Room) Γ [.ref q0] (wd_X5_readDrive Γ q0 q1 q2 q3 q4 d0 d1 isPlateFixed rowsTold text_length text_kind text_first text_fin text_letters plate_columns plate_rows plate_numbers) (wd_X5_readDrive Γ q0 q1 q2 q3 q4 d0 d1 o_isPlateFixed rowsTold text_length o_text_kind o_text_first o_text_fin text_letters plate_columns plate_rows o_plate_numbers) sz ro := by
  refine Met.ofW (cc := cX5_readDrive) (maxL := 3) (ret := (some .boolean)) (by decide) rfl ?_
  intro p e s m args below meth c s₁ B hml hv
  obtain ⟨rfl, hsz, hE, hP, hD⟩ := hv
  have hx := B.exec
  have hb := B.bytes
  have hr := B.returns
  have hts := atoms_spec (ws := wsX5_readDrive) B.pre
  have hown : s.vm.findClass RX5 = some m.cls := findClass_of_methodNamed B.named
  have hlocks := B.notSynchronized
  subst hsz
  generalize hAe : va_A (wd_X5_readDrive Γ q0 q1 q2 q3 q4 d0 d1 isPlateFixed rowsTold text_length text_kind text_first text_fin text_letters plate_columns plate_rows plate_numbers) s.heap.size = A at hE hD ⊢
  have hA : ∀ q : Nat, s.heap.size ≤ q → A q := fun q h => by rw [← hAe]; exact Or.inr h
  clear hAe
  have hS : va_S A s.heap s.heap [] := va_S.rf
  have hK := hE.1
  have hl := lv_entry ([.ref q0]) (n := 3) (Nat.le_of_ble_eq_true rfl)
  rw [lg_entry_eq]
  generalize (lg_sl ([.ref q0]) ++ List.replicate (3 - (lg_sl ([.ref q0])).length) Slot.unset).toArray = ls at hl ⊢
  have hl : lv_has ls 3 [(0, .ref q0)] := hl
  have hi2 : ∀ w ∈ u_ws RX2 TX2 5, w ∈ wsX5_readDrive := fun w h => (List.mem_cons_of_mem _ (List.mem_append_left _ (List.mem_append_right _ h)))
  have hi5 : ∀ w ∈ u_ws RX5 TX5 4, w ∈ wsX5_readDrive := fun w h => (List.mem_cons_of_mem _ (List.mem_append_left _ (List.mem_append_left _ (List.mem_append_right _ h))))
  have hi6 : ∀ w ∈ u_ws RX6 TX6 5, w ∈ wsX5_readDrive := fun w h => (List.mem_cons_of_mem _ (List.mem_append_right _ h))
  obtain ⟨out, hout⟩ : ∃ o, o = (ro, o_isPlateFixed, o_text_kind, o_text_first, o_text_fin, o_plate_numbers) := ⟨_, rfl⟩
  rw [← hout] at hf
  obtain ⟨QQ, hQQ⟩ : ∃ Q, Q = MQ below (va_Qi (fun (r' : Int32) (_ : Unit) => r' = ro) (CQ Γ (wd_X5_readDrive Γ q0 q1 q2 q3 q4 d0 d1 o_isPlateFixed rowsTold text_length o_text_kind o_text_first o_text_fin text_letters plate_columns plate_rows o_plate_numbers) A) A) (([.ref q0] : List Value).toArray) s 0 0 A := ⟨_, rfl⟩
  show W p l e ({ frames := 3, cells := 0, slots := 0, locals := 64 } : Room) s m (([.ref q0] : List Value).toArray) below meth c s.heap [] 0 0 (MQ below _ (([.ref q0] : List Value).toArray) s 0 0 A) (F0 m 0 ls [])
  rw [← hQQ]
  unfold f_X5_readDrive at hf
  refine lv_aload_n hx hb dX5_readDrive_0 rfl (lv_at hl 0 rfl) ?_
  refine lv_iconst (v := 1) hx hb dX5_readDrive_1 (by decide) ?_
  refine va_put (D := Γ.1) (ci := 5) (v := .int 1) (ty := .boolean) (C := RX5) (T := TX5) (N := 4) hx hb hts hi5 tyX5 tyX5_ok nmX5 hown hK hP hD hS 0 rfl rfl 2 (by decide) (hts (.fieldLink RX5 56 "SandPlates$Teller" "isPlateFixed" "Z") (List.mem_of_getElem? (i := 1) rfl)) (fun _ h9 => h9) rfl (by decide +kernel) rfl rfl (Nat.le_of_ble_eq_true rfl) dX5_readDrive_2 (fun H locs hP hD hS => ?_)
  have hP : va_P Γ.1 vwCl (wd_X5_readDrive Γ q0 q1 q2 q3 q4 d0 d1 1 rowsTold text_length text_kind text_first text_fin text_letters plate_columns plate_rows plate_numbers) H := hP
  have hD : va_D A (wd_X5_readDrive Γ q0 q1 q2 q3 q4 d0 d1 1 rowsTold text_length text_kind text_first text_fin text_letters plate_columns plate_rows plate_numbers) := hD
  refine lv_aload_n hx hb dX5_readDrive_5 rfl (lv_at hl 0 rfl) ?_
  refine lv_iconst (v := 0) hx hb dX5_readDrive_6 (by decide) ?_
  refine lv_aload_n hx hb dX5_readDrive_7 rfl (lv_at hl 0 rfl) ?_
  refine va_get (D := Γ.1) (ci := 5) (v := .ref q3) (C := RX5) (T := TX5) (N := 4) hx hb hts hi5 hown hK hP 0 rfl rfl 1 (by decide) (hts (.fieldLink RX5 21 "SandPlates$Teller" "plate" "LSandPlates$Plate;") (List.mem_of_getElem? (i := 2) rfl)) (fun _ h9 => h9) rfl dX5_readDrive_8 ?_
  refine va_getN (D := Γ.1) (ci := 2) (v := .int plate_columns) (C := RX2) (T := TX2) (N := 5) hx hb hts hi2 hown hK hP 3 rfl rfl 0 (by decide) (va_Nw.use rfl (nfX5_104 hE.2.1)) (fun _ h9 => h9) rfl dX5_readDrive_11 ?_
  refine lv_iconst (v := 1) hx hb dX5_readDrive_14 (by decide) ?_
  refine lv_isub hx hb dX5_readDrive_15 ?_
  obtain ⟨r_1, text_kind_2, text_first_3, text_fin_4, hq_5, hf⟩ := ob4_some hf
  refine vm_cVi (isC := [0, 1, 2]) (wc := (wd_X5_readNumber Γ q0 q1 q2 q3 1 rowsTold text_length text_kind text_first text_fin text_letters)) (w1 := (wd_X5_readNumber Γ q0 q1 q2 q3 1 rowsTold text_length text_kind_2 text_first_3 text_fin_4 text_letters)) (As := [.int 0, .int (plate_columns - 1)]) (rest := []) ⟨hx, hb, hml, hown, hts⟩ hE hP hD hS hA rfl rfl rfl (c_X5_readNumber l Γ _ q0 q1 q2 q3 1 rowsTold text_length text_kind text_first text_fin text_letters 0 (plate_columns - 1) r_1 text_kind_2 text_first_3 text_fin_4 hq_5) (cwV 2 hts gX5_readDrive_X5_readNumber rfl rfl rfl (by decide +kernel) ⟨Nat.le_of_ble_eq_true rfl, Nat.le_of_ble_eq_true rfl⟩) (va_recv (ci := 5) (q0 := 0) hK hP rfl rfl) rfl hl.1 rfl (Nat.le_of_ble_eq_true rfl) dX5_readDrive_16 ⟨Nat.zero_le _, Nat.zero_le _⟩ (fun H locs hP hD hS => ?_)
  have hP : va_P Γ.1 vwCl (wd_X5_readDrive Γ q0 q1 q2 q3 q4 d0 d1 1 rowsTold text_length text_kind_2 text_first_3 text_fin_4 text_letters plate_columns plate_rows plate_numbers) H := hP
  have hD : va_D A (wd_X5_readDrive Γ q0 q1 q2 q3 q4 d0 d1 1 rowsTold text_length text_kind_2 text_first_3 text_fin_4 text_letters plate_columns plate_rows plate_numbers) := hD
  refine lv_istore_n (lv' := [(1, .int r_1), (0, .ref q0)]) hx hb dX5_readDrive_19 rfl hl (by decide) rfl (fun ls hl => ?_)
  refine lv_iload_n hx hb dX5_readDrive_20 rfl (lv_at hl 0 rfl) ?_
  refine lv_if_ge (tgt := 26) hx hb dX5_readDrive_21 (by decide) (fun hc_6 => ?_) (fun hc_6 => ?_)
  · have hf := vm_pos hc_6 hf
    refine lv_aload_n hx hb dX5_readDrive_26 rfl (lv_at hl 1 rfl) ?_
    refine lv_iconst (v := 0) hx hb dX5_readDrive_27 (by decide) ?_
    refine lv_aload_n hx hb dX5_readDrive_28 rfl (lv_at hl 1 rfl) ?_
    refine va_get (D := Γ.1) (ci := 5) (v := .ref q3) (C := RX5) (T := TX5) (N := 4) hx hb hts hi5 hown hK hP 0 rfl rfl 1 (by decide) (hts (.fieldLink RX5 21 "SandPlates$Teller" "plate" "LSandPlates$Plate;") (List.mem_of_getElem? (i := 2) rfl)) (fun _ h9 => h9) rfl dX5_readDrive_29 ?_
    refine va_getN (D := Γ.1) (ci := 2) (v := .int plate_rows) (C := RX2) (T := TX2) (N := 5) hx hb hts hi2 hown hK hP 3 rfl rfl 1 (by decide) (va_Nw.use rfl (nfX5_107 hE.2.1)) (fun _ h9 => h9) rfl dX5_readDrive_32 ?_
    refine lv_iconst (v := 1) hx hb dX5_readDrive_35 (by decide) ?_
    refine lv_isub hx hb dX5_readDrive_36 ?_
    obtain ⟨r_7, text_kind_8, text_first_9, text_fin_10, hq_11, hf⟩ := ob4_some hf
    refine vm_cVi (isC := [0, 1, 2]) (wc := (wd_X5_readNumber Γ q0 q1 q2 q3 1 rowsTold text_length text_kind_2 text_first_3 text_fin_4 text_letters)) (w1 := (wd_X5_readNumber Γ q0 q1 q2 q3 1 rowsTold text_length text_kind_8 text_first_9 text_fin_10 text_letters)) (As := [.int 0, .int (plate_rows - 1)]) (rest := []) ⟨hx, hb, hml, hown, hts⟩ hE hP hD hS hA rfl rfl rfl (c_X5_readNumber l Γ _ q0 q1 q2 q3 1 rowsTold text_length text_kind_2 text_first_3 text_fin_4 text_letters 0 (plate_rows - 1) r_7 text_kind_8 text_first_9 text_fin_10 hq_11) (cwV 2 hts gX5_readDrive_X5_readNumber rfl rfl rfl (by decide +kernel) ⟨Nat.le_of_ble_eq_true rfl, Nat.le_of_ble_eq_true rfl⟩) (va_recv (ci := 5) (q0 := 0) hK hP rfl rfl) rfl hl.1 rfl (Nat.le_of_ble_eq_true rfl) dX5_readDrive_37 ⟨Nat.zero_le _, Nat.zero_le _⟩ (fun H locs hP hD hS => ?_)
    have hP : va_P Γ.1 vwCl (wd_X5_readDrive Γ q0 q1 q2 q3 q4 d0 d1 1 rowsTold text_length text_kind_8 text_first_9 text_fin_10 text_letters plate_columns plate_rows plate_numbers) H := hP
    have hD : va_D A (wd_X5_readDrive Γ q0 q1 q2 q3 q4 d0 d1 1 rowsTold text_length text_kind_8 text_first_9 text_fin_10 text_letters plate_columns plate_rows plate_numbers) := hD
    refine lv_istore_n (lv' := [(2, .int r_7), (1, .int r_1), (0, .ref q0)]) hx hb dX5_readDrive_40 rfl hl (by decide) rfl (fun ls hl => ?_)
    refine lv_iload_n hx hb dX5_readDrive_41 rfl (lv_at hl 0 rfl) ?_
    refine lv_if_ge (tgt := 47) hx hb dX5_readDrive_42 (by decide) (fun hc_12 => ?_) (fun hc_12 => ?_)
    · have hf := vm_pos hc_12 hf
      refine lv_aload_n hx hb dX5_readDrive_47 rfl (lv_at hl 2 rfl) ?_
      refine va_get (D := Γ.1) (ci := 5) (v := .ref q3) (C := RX5) (T := TX5) (N := 4) hx hb hts hi5 hown hK hP 0 rfl rfl 1 (by decide) (hts (.fieldLink RX5 21 "SandPlates$Teller" "plate" "LSandPlates$Plate;") (List.mem_of_getElem? (i := 2) rfl)) (fun _ h9 => h9) rfl dX5_readDrive_48 ?_
      refine va_getN (D := Γ.1) (ci := 2) (v := .ref q4) (C := RX2) (T := TX2) (N := 5) hx hb hts hi2 hown hK hP 3 rfl rfl 2 (by decide) (va_Nw.use rfl (nfX5_117 hE.2.1)) (fun _ h9 => h9) rfl dX5_readDrive_51 ?_
      refine lv_bipush (v := 6) hx hb dX5_readDrive_54 (by decide) ?_
      refine lv_aload_n hx hb dX5_readDrive_56 rfl (lv_at hl 2 rfl) ?_
      refine va_get (D := Γ.1) (ci := 5) (v := .ref q3) (C := RX5) (T := TX5) (N := 4) hx hb hts hi5 hown hK hP 0 rfl rfl 1 (by decide) (hts (.fieldLink RX5 21 "SandPlates$Teller" "plate" "LSandPlates$Plate;") (List.mem_of_getElem? (i := 2) rfl)) (fun _ h9 => h9) rfl dX5_readDrive_57 ?_
      refine va_getN (D := Γ.1) (ci := 2) (v := .int plate_columns) (C := RX2) (T := TX2) (N := 5) hx hb hts hi2 hown hK hP 3 rfl rfl 0 (by decide) (va_Nw.use rfl (nfX5_104 hE.2.1)) (fun _ h9 => h9) rfl dX5_readDrive_60 ?_
      refine lv_iload_n hx hb dX5_readDrive_63 rfl (lv_at hl 0 rfl) ?_
      refine lv_imul hx hb dX5_readDrive_64 ?_
      refine lv_iload_n hx hb dX5_readDrive_65 rfl (lv_at hl 1 rfl) ?_
      refine lv_iadd hx hb dX5_readDrive_66 ?_
      refine vm_iast hx hb hK hP hD hS 4 0 rfl rfl (by decide +kernel) (j := 6) rfl dX5_readDrive_67 (fun H locs hP hD hS => ?_)
      have hP : va_P Γ.1 vwCl (wd_X5_readDrive Γ q0 q1 q2 q3 q4 d0 d1 1 rowsTold text_length text_kind_8 text_first_9 text_fin_10 text_letters plate_columns plate_rows (upd plate_numbers 6 ((plate_columns * r_7) + r_1))) H := hP
      have hD : va_D A (wd_X5_readDrive Γ q0 q1 q2 q3 q4 d0 d1 1 rowsTold text_length text_kind_8 text_first_9 text_fin_10 text_letters plate_columns plate_rows (upd plate_numbers 6 ((plate_columns * r_7) + r_1))) := hD
      refine lv_iconst (v := 1) hx hb dX5_readDrive_68 (by decide) ?_
      subst hout; obtain ⟨rfl, rfl, rfl, rfl, rfl, rfl⟩ := rt6 hf
      subst hQQ
      exact W.zret hx hb hr rfl (fun t ht hW => ⟨⟨_, (), rfl, rfl, by rw [ht]; exact hP, hD⟩, hS.F ht⟩) hS.2.2 dX5_readDrive_69
    · have hf := vm_neg hc_12 hf
      refine lv_iconst (v := 0) hx hb dX5_readDrive_45 (by decide) ?_
      subst hout; obtain ⟨rfl, rfl, rfl, rfl, rfl, rfl⟩ := rt6 hf
      subst hQQ
      exact W.zret hx hb hr rfl (fun t ht hW => ⟨⟨_, (), rfl, rfl, by rw [ht]; exact hP, hD⟩, hS.F ht⟩) hS.2.2 dX5_readDrive_46
  · have hf := vm_neg hc_6 hf
    refine lv_iconst (v := 0) hx hb dX5_readDrive_24 (by decide) ?_
    subst hout; obtain ⟨rfl, rfl, rfl, rfl, rfl, rfl⟩ := rt6 hf
    subst hQQ
    exact W.zret hx hb hr rfl (fun t ht hW => ⟨⟨_, (), rfl, rfl, by rw [ht]; exact hP, hD⟩, hS.F ht⟩) hS.2.2 dX5_readDrive_25
def wd_X5_readRow (Γ : GE) (q0 q1 q2 q3 q4 d0 d1 : Nat) (isPlateFixed : Int32) (rowsTold : Int32) (text_length : Int32) (text_kind : Int32) (text_first : Int32) (text_fin : Int32) (text_letters : Nat → Int32) (plate_columns : Int32) (plate_rows : Int32) (plate_figure : Nat → Int32) : va_W := [(q0, .inr (5, [.ref q1, .ref q3, .int isPlateFixed, .int rowsTold])), (q1, .inr (6, [.ref q2, .int text_length, .int text_kind, .int text_first, .int text_fin])), (q2, .inl (Γ.2.1 0, 120, .inl text_letters)), (q3, .inr (2, [.int plate_columns, .int plate_rows, .ref d0, .ref q4, .ref d1])), (q4, .inl (Γ.2.1 0, 36, .inl plate_figure))]
def f_X5_readRow_136 (isPlateFixed : Int32) (rowsTold : Int32) (text_kind : Int32) (text_first : Int32) (text_fin : Int32) (plate_figure : Nat → Int32) : Option (Int32 × Int32 × Int32 × Int32 × Int32 × Int32 × (Nat → Int32)) := some (1, isPlateFixed, (rowsTold + 1), text_kind, text_first, text_fin, plate_figure)
def f_X5_readRow_105 (isPlateFixed : Int32) (rowsTold : Int32) (text_kind : Int32) (text_first : Int32) (text_fin : Int32) (plate_figure : Nat → Int32) : Option (Int32 × Int32 × Int32 × Int32 × Int32 × Int32 × (Nat → Int32)) := some (0, isPlateFixed, rowsTold, text_kind, text_first, text_fin, plate_figure)
def f_X5_readRow_68b (isPlateFixed : Int32) (rowsTold : Int32) (text_kind : Int32) (text_first : Int32) (text_fin : Int32) (text_letters : Nat → Int32) (plate_columns : Int32) (plate_figure : Nat → Int32) (x1 : Int32) (k : (((Nat → Int32) × Int32) → Option ((Nat → Int32) ⊕ (Nat → Int32)))) : Option ((Nat → Int32) ⊕ (Nat → Int32)) := if plate_columns ≤ x1 then (some (Sum.inl plate_figure)) else (if inb (text_first + x1) 120 = true then if ((text_letters ((text_first + x1).toNatClampNeg)) - 48) ≤ 1 then (if inb ((plate_columns * rowsTold) + x1) 36 = true then k ((upd plate_figure (((plate_columns * rowsTold) + x1).toNatClampNeg) ((text_letters ((text_first + x1).toNatClampNeg)) - 48)), (x1 + 1)) else none) else (some (Sum.inr plate_figure)) else none)
def f_X5_readRow_68s (isPlateFixed : Int32) (rowsTold : Int32) (text_kind : Int32) (text_first : Int32) (text_fin : Int32) (text_letters : Nat → Int32) (plate_columns : Int32) : ((Nat → Int32) × Int32) → (((Nat → Int32) × Int32) → Option ((Nat → Int32) ⊕ (Nat → Int32))) → Option ((Nat → Int32) ⊕ (Nat → Int32)) := fun t k => f_X5_readRow_68b isPlateFixed rowsTold text_kind text_first text_fin text_letters plate_columns t.1 t.2 k
def f_X5_readRow_68 (isPlateFixed : Int32) (rowsTold : Int32) (text_kind : Int32) (text_first : Int32) (text_fin : Int32) (text_letters : Nat → Int32) (plate_columns : Int32) (plate_figure : Nat → Int32) (x1 : Int32) : Option (Int32 × Int32 × Int32 × Int32 × Int32 × Int32 × (Nat → Int32)) := obx (vm_it (f_X5_readRow_68s isPlateFixed rowsTold text_kind text_first text_fin text_letters plate_columns) FU (plate_figure, x1)) (Sum.elim (fun plate_figure => f_X5_readRow_136 isPlateFixed rowsTold text_kind text_first text_fin plate_figure) (fun plate_figure => f_X5_readRow_105 isPlateFixed rowsTold text_kind text_first text_fin plate_figure))
def f_X5_readRow_64 (isPlateFixed : Int32) (rowsTold : Int32) (text_kind : Int32) (text_first : Int32) (text_fin : Int32) (plate_figure : Nat → Int32) : Option (Int32 × Int32 × Int32 × Int32 × Int32 × Int32 × (Nat → Int32)) := some (0, isPlateFixed, rowsTold, text_kind, text_first, text_fin, plate_figure)
def f_X5_readRow (isPlateFixed : Int32) (rowsTold : Int32) (text_length : Int32) (text_kind : Int32) (text_first : Int32) (text_fin : Int32) (text_letters : Nat → Int32) (plate_columns : Int32) (plate_rows : Int32) (plate_figure : Nat → Int32) : Option (Int32 × Int32 × Int32 × Int32 × Int32 × Int32 × (Nat → Int32)) := if rowsTold < plate_rows then (ob3 (f_X6_advance text_length text_fin text_letters) (fun text_kind_6 text_first_7 text_fin_8 => if text_kind_6 = 2 then (if (text_fin_8 - text_first_7) = plate_columns then (f_X5_readRow_68 1 rowsTold text_kind_6 text_first_7 text_fin_8 text_letters plate_columns plate_figure 0) else (f_X5_readRow_64 1 rowsTold text_kind_6 text_first_7 text_fin_8 plate_figure)) else (f_X5_readRow_64 1 rowsTold text_kind_6 text_first_7 text_fin_8 plate_figure))) else (some (0, isPlateFixed, rowsTold, text_kind, text_first, text_fin, plate_figure))
set_option maxHeartbeats 4000000 in
set_option maxRecDepth 100000 in
theorem c_X5_readRow (l : Launch) (Γ : GE) (sz : Nat) (q0 q1 q2 q3 q4 d0 d1 : Nat) (isPlateFixed : Int32) (rowsTold : Int32) (text_length : Int32) (text_kind : Int32) (text_first : Int32) (text_fin : Int32) (text_letters : Nat → Int32) (plate_columns : Int32) (plate_rows : Int32) (plate_figure : Nat → Int32) (ro : Int32) (o_isPlateFixed : Int32) (o_rowsTold : Int32) (o_text_kind : Int32) (o_text_first : Int32) (o_text_fin : Int32) (o_plate_figure : Nat → Int32) (hf : f_X5_readRow isPlateFixed rowsTold text_length text_kind text_first text_fin text_letters plate_columns plate_rows plate_figure = some (ro, o_isPlateFixed, o_rowsTold, o_text_kind, o_text_first, o_text_fin, o_plate_figure)) : MetI l yX5_readRow wsX5_readRow ({ frames := 2, cells := 0, slots := 0, locals := 41 } : Room) Γ [.ref q0] (wd_X5_readRow Γ q0 q1 q2 q3 q4 d0 d1 isPlateFixed rowsTold text_length text_kind text_first text_fin text_letters plate_columns plate_rows plate_figure) (wd_X5_readRow Γ q0 q1 q2 q3 q4 d0 d1 o_isPlateFixed o_rowsTold text_length o_text_kind o_text_first o_text_fin text_letters plate_columns plate_rows o_plate_figure) sz ro := by
  refine Met.ofW (cc := cX5_readRow) (maxL := 3) (ret := (some .boolean)) (by decide) rfl ?_
  intro p e s m args below meth c s₁ B hml hv
  obtain ⟨rfl, hsz, hE, hP, hD⟩ := hv
  have hx := B.exec
  have hb := B.bytes
  have hr := B.returns
  have hts := atoms_spec (ws := wsX5_readRow) B.pre
  have hown : s.vm.findClass RX5 = some m.cls := findClass_of_methodNamed B.named
  have hlocks := B.notSynchronized
  subst hsz
  generalize hAe : va_A (wd_X5_readRow Γ q0 q1 q2 q3 q4 d0 d1 isPlateFixed rowsTold text_length text_kind text_first text_fin text_letters plate_columns plate_rows plate_figure) s.heap.size = A at hE hD ⊢
  have hA : ∀ q : Nat, s.heap.size ≤ q → A q := fun q h => by rw [← hAe]; exact Or.inr h
  clear hAe
  have hS : va_S A s.heap s.heap [] := va_S.rf
  have hK := hE.1
  have hl := lv_entry ([.ref q0]) (n := 3) (Nat.le_of_ble_eq_true rfl)
  rw [lg_entry_eq]
  generalize (lg_sl ([.ref q0]) ++ List.replicate (3 - (lg_sl ([.ref q0])).length) Slot.unset).toArray = ls at hl ⊢
  have hl : lv_has ls 3 [(0, .ref q0)] := hl
  have hi2 : ∀ w ∈ u_ws RX2 TX2 5, w ∈ wsX5_readRow := fun w h => (List.mem_cons_of_mem _ (List.mem_append_left _ (List.mem_append_right _ h)))
  have hi5 : ∀ w ∈ u_ws RX5 TX5 4, w ∈ wsX5_readRow := fun w h => (List.mem_cons_of_mem _ (List.mem_append_left _ (List.mem_append_left _ (List.mem_append_right _ h))))
  have hi6 : ∀ w ∈ u_ws RX6 TX6 5, w ∈ wsX5_readRow := fun w h => (List.mem_cons_of_mem _ (List.mem_append_right _ h))
  obtain ⟨out, hout⟩ : ∃ o, o = (ro, o_isPlateFixed, o_rowsTold, o_text_kind, o_text_first, o_text_fin, o_plate_figure) := ⟨_, rfl⟩
  rw [← hout] at hf
  obtain ⟨QQ, hQQ⟩ : ∃ Q, Q = MQ below (va_Qi (fun (r' : Int32) (_ : Unit) => r' = ro) (CQ Γ (wd_X5_readRow Γ q0 q1 q2 q3 q4 d0 d1 o_isPlateFixed o_rowsTold text_length o_text_kind o_text_first o_text_fin text_letters plate_columns plate_rows o_plate_figure) A) A) (([.ref q0] : List Value).toArray) s 0 0 A := ⟨_, rfl⟩
  show W p l e ({ frames := 2, cells := 0, slots := 0, locals := 41 } : Room) s m (([.ref q0] : List Value).toArray) below meth c s.heap [] 0 0 (MQ below _ (([.ref q0] : List Value).toArray) s 0 0 A) (F0 m 0 ls [])
  rw [← hQQ]
  have K_136 : ∀ (isPlateFixed : Int32) (rowsTold : Int32) (text_kind : Int32) (text_first : Int32) (text_fin : Int32) (plate_figure : Nat → Int32) {H : Heap} {locs : List Loc} {ls : Array Slot}, va_P Γ.1 vwCl (wd_X5_readRow Γ q0 q1 q2 q3 q4 d0 d1 isPlateFixed rowsTold text_length text_kind text_first text_fin text_letters plate_columns plate_rows plate_figure) H → va_D A (wd_X5_readRow Γ q0 q1 q2 q3 q4 d0 d1 isPlateFixed rowsTold text_length text_kind text_first text_fin text_letters plate_columns plate_rows plate_figure) → va_S A s.heap H locs → lv_has ls 3 [(0, .ref q0)] → f_X5_readRow_136 isPlateFixed rowsTold text_kind text_first text_fin plate_figure = some out → W p l e ({ frames := 2, cells := 0, slots := 0, locals := 41 } : Room) s m ([.ref q0] : List Value).toArray below meth c H locs 0 0 QQ (F0 m 136 ls []) := by
    intro isPlateFixed rowsTold text_kind text_first text_fin plate_figure H locs ls hP hD hS hl hf
    unfold f_X5_readRow_136 at hf
    refine lv_aload_n hx hb dX5_readRow_136 rfl (lv_at hl 0 rfl) ?_
    refine lv_dup hx hb dX5_readRow_137 rfl ?_
    refine va_get (D := Γ.1) (ci := 5) (v := .int rowsTold) (C := RX5) (T := TX5) (N := 4) hx hb hts hi5 hown hK hP 0 rfl rfl 3 (by decide) (hts (.fieldLink RX5 60 "SandPlates$Teller" "rowsTold" "I") (List.mem_of_getElem? (i := 1) rfl)) (fun _ h9 => h9) rfl dX5_readRow_138 ?_
    refine lv_iconst (v := 1) hx hb dX5_readRow_141 (by decide) ?_
    refine lv_iadd hx hb dX5_readRow_142 ?_
    refine va_put (D := Γ.1) (ci := 5) (v := .int (rowsTold + 1)) (ty := .int) (C := RX5) (T := TX5) (N := 4) hx hb hts hi5 tyX5 tyX5_ok nmX5 hown hK hP hD hS 0 rfl rfl 3 (by decide) (hts (.fieldLink RX5 60 "SandPlates$Teller" "rowsTold" "I") (List.mem_of_getElem? (i := 1) rfl)) (fun _ h9 => h9) rfl (by decide +kernel) rfl rfl (Nat.le_of_ble_eq_true rfl) dX5_readRow_143 (fun H locs hP hD hS => ?_)
    have hP : va_P Γ.1 vwCl (wd_X5_readRow Γ q0 q1 q2 q3 q4 d0 d1 isPlateFixed (rowsTold + 1) text_length text_kind text_first text_fin text_letters plate_columns plate_rows plate_figure) H := hP
    have hD : va_D A (wd_X5_readRow Γ q0 q1 q2 q3 q4 d0 d1 isPlateFixed (rowsTold + 1) text_length text_kind text_first text_fin text_letters plate_columns plate_rows plate_figure) := hD
    refine lv_iconst (v := 1) hx hb dX5_readRow_146 (by decide) ?_
    subst hout; obtain ⟨rfl, rfl, rfl, rfl, rfl, rfl, rfl⟩ := rt7 hf
    subst hQQ
    exact W.zret hx hb hr rfl (fun t ht hW => ⟨⟨_, (), rfl, rfl, by rw [ht]; exact hP, hD⟩, hS.F ht⟩) hS.2.2 dX5_readRow_147
  have K_105 : ∀ (isPlateFixed : Int32) (rowsTold : Int32) (text_kind : Int32) (text_first : Int32) (text_fin : Int32) (plate_figure : Nat → Int32) {H : Heap} {locs : List Loc} {ls : Array Slot}, va_P Γ.1 vwCl (wd_X5_readRow Γ q0 q1 q2 q3 q4 d0 d1 isPlateFixed rowsTold text_length text_kind text_first text_fin text_letters plate_columns plate_rows plate_figure) H → va_D A (wd_X5_readRow Γ q0 q1 q2 q3 q4 d0 d1 isPlateFixed rowsTold text_length text_kind text_first text_fin text_letters plate_columns plate_rows plate_figure) → va_S A s.heap H locs → lv_has ls 3 [] → f_X5_readRow_105 isPlateFixed rowsTold text_kind text_first text_fin plate_figure = some out → W p l e ({ frames := 2, cells := 0, slots := 0, locals := 41 } : Room) s m ([.ref q0] : List Value).toArray below meth c H locs 0 0 QQ (F0 m 105 ls []) := by
    intro isPlateFixed rowsTold text_kind text_first text_fin plate_figure H locs ls hP hD hS hl hf
    unfold f_X5_readRow_105 at hf
    refine lv_iconst (v := 0) hx hb dX5_readRow_105 (by decide) ?_
    subst hout; obtain ⟨rfl, rfl, rfl, rfl, rfl, rfl, rfl⟩ := rt7 hf
    subst hQQ
    exact W.zret hx hb hr rfl (fun t ht hW => ⟨⟨_, (), rfl, rfl, by rw [ht]; exact hP, hD⟩, hS.F ht⟩) hS.2.2 dX5_readRow_106
  have K_68 : ∀ (isPlateFixed : Int32) (rowsTold : Int32) (text_kind : Int32) (text_first : Int32) (text_fin : Int32) (plate_figure : Nat → Int32) (x1 : Int32) {H : Heap} {locs : List Loc} {ls : Array Slot}, va_P Γ.1 vwCl (wd_X5_readRow Γ q0 q1 q2 q3 q4 d0 d1 isPlateFixed rowsTold text_length text_kind text_first text_fin text_letters plate_columns plate_rows plate_figure) H → va_D A (wd_X5_readRow Γ q0 q1 q2 q3 q4 d0 d1 isPlateFixed rowsTold text_length text_kind text_first text_fin text_letters plate_columns plate_rows plate_figure) → va_S A s.heap H locs → lv_has ls 3 [(0, .ref q0), (1, .int x1)] → f_X5_readRow_68 isPlateFixed rowsTold text_kind text_first text_fin text_letters plate_columns plate_figure x1 = some out → W p l e ({ frames := 2, cells := 0, slots := 0, locals := 41 } : Room) s m ([.ref q0] : List Value).toArray below meth c H locs 0 0 QQ (F0 m 68 ls []) := by
    intro isPlateFixed rowsTold text_kind text_first text_fin plate_figure x1 H locs ls hP hD hS hl hf
    unfold f_X5_readRow_68 at hf
    obtain ⟨ex68, h1, hX68⟩ := obx_some hf
    have LP : ∀ (n : Nat) (plate_figure : Nat → Int32) (x1 : Int32)  {H : Heap} {locs : List Loc} {ls : Array Slot}, va_P Γ.1 vwCl (wd_X5_readRow Γ q0 q1 q2 q3 q4 d0 d1 isPlateFixed rowsTold text_length text_kind text_first text_fin text_letters plate_columns plate_rows plate_figure) H → va_D A (wd_X5_readRow Γ q0 q1 q2 q3 q4 d0 d1 isPlateFixed rowsTold text_length text_kind text_first text_fin text_letters plate_columns plate_rows plate_figure) → va_S A s.heap H locs → lv_has ls 3 [(0, .ref q0), (1, .int x1)] → vm_it (f_X5_readRow_68s isPlateFixed rowsTold text_kind text_first text_fin text_letters plate_columns) n (plate_figure, x1) = some ex68 → W p l e ({ frames := 2, cells := 0, slots := 0, locals := 41 } : Room) s m ([.ref q0] : List Value).toArray below meth c H locs 0 0 QQ (F0 m 68 ls []) := by
      clear hP hD hS hl hf h1
      intro n
      induction n with
      | zero => intro plate_figure x1 H locs ls hP hD hS hl hf; exact (vm_it_0 hf).elim
      | succ n ih =>
        intro plate_figure x1 H locs ls hP hD hS hl hf
        have hf : f_X5_readRow_68b isPlateFixed rowsTold text_kind text_first text_fin text_letters plate_columns plate_figure x1 (vm_it (f_X5_readRow_68s isPlateFixed rowsTold text_kind text_first text_fin text_letters plate_columns) n) = some ex68 := hf
        unfold f_X5_readRow_68b at hf
        refine lv_iload_n hx hb dX5_readRow_68 rfl (lv_at hl 1 rfl) ?_
        refine lv_aload_n hx hb dX5_readRow_69 rfl (lv_at hl 0 rfl) ?_
        refine va_get (D := Γ.1) (ci := 5) (v := .ref q3) (C := RX5) (T := TX5) (N := 4) hx hb hts hi5 hown hK hP 0 rfl rfl 1 (by decide) (hts (.fieldLink RX5 21 "SandPlates$Teller" "plate" "LSandPlates$Plate;") (List.mem_of_getElem? (i := 2) rfl)) (fun _ h9 => h9) rfl dX5_readRow_70 ?_
        refine va_getN (D := Γ.1) (ci := 2) (v := .int plate_columns) (C := RX2) (T := TX2) (N := 5) hx hb hts hi2 hown hK hP 3 rfl rfl 0 (by decide) (va_Nw.use rfl (nfX5_104 hE.2.1)) (fun _ h9 => h9) rfl dX5_readRow_73 ?_
        refine lv_icmp_ge (tgt := 136) hx hb dX5_readRow_76 (by decide) (fun hc_1 => ?_) (fun hc_1 => ?_)
        · have hf := vm_pos hc_1 hf
          have hX := hX68
          rw [← Option.some.inj hf] at hX
          exact K_136 isPlateFixed rowsTold text_kind text_first text_fin plate_figure hP hD hS (lv_sub hl [0] rfl) hX
        · have hf := vm_neg hc_1 hf
          refine lv_aload_n hx hb dX5_readRow_79 rfl (lv_at hl 0 rfl) ?_
          refine va_get (D := Γ.1) (ci := 5) (v := .ref q1) (C := RX5) (T := TX5) (N := 4) hx hb hts hi5 hown hK hP 0 rfl rfl 0 (by decide) (hts (.fieldLink RX5 12 "SandPlates$Teller" "text" "LSandPlates$Text;") (List.mem_of_getElem? (i := 4) rfl)) (fun _ h9 => h9) rfl dX5_readRow_80 ?_
          refine va_getN (D := Γ.1) (ci := 6) (v := .ref q2) (C := RX6) (T := TX6) (N := 5) hx hb hts hi6 hown hK hP 1 rfl rfl 0 (by decide) (va_Nw.use rfl (nfX5_123 hE.2.1)) (fun _ h9 => h9) rfl dX5_readRow_83 ?_
          refine lv_aload_n hx hb dX5_readRow_86 rfl (lv_at hl 0 rfl) ?_
          refine va_get (D := Γ.1) (ci := 5) (v := .ref q1) (C := RX5) (T := TX5) (N := 4) hx hb hts hi5 hown hK hP 0 rfl rfl 0 (by decide) (hts (.fieldLink RX5 12 "SandPlates$Teller" "text" "LSandPlates$Text;") (List.mem_of_getElem? (i := 4) rfl)) (fun _ h9 => h9) rfl dX5_readRow_87 ?_
          refine va_getN (D := Γ.1) (ci := 6) (v := .int text_first) (C := RX6) (T := TX6) (N := 5) hx hb hts hi6 hown hK hP 1 rfl rfl 3 (by decide) (va_Nw.use rfl (nfX5_47 hE.2.1)) (fun _ h9 => h9) rfl dX5_readRow_90 ?_
          refine lv_iload_n hx hb dX5_readRow_93 rfl (lv_at hl 1 rfl) ?_
          refine lv_iadd hx hb dX5_readRow_94 ?_
          obtain ⟨hc_2, hf⟩ := vm_ck hf
          refine vm_iald hx hb hK hP 2 0 rfl rfl hc_2 (j := (text_first + x1).toNatClampNeg) rfl dX5_readRow_95 ?_
          refine lv_bipush (v := 48) hx hb dX5_readRow_96 (by decide) ?_
          refine lv_isub hx hb dX5_readRow_98 ?_
          refine lv_istore_n (lv' := [(2, .int ((text_letters ((text_first + x1).toNatClampNeg)) - 48)), (0, .ref q0), (1, .int x1)]) hx hb dX5_readRow_99 rfl hl (by decide) rfl (fun ls hl => ?_)
          refine lv_iload_n hx hb dX5_readRow_100 rfl (lv_at hl 0 rfl) ?_
          refine lv_iconst (v := 1) hx hb dX5_readRow_101 (by decide) ?_
          refine lv_icmp_le (tgt := 107) hx hb dX5_readRow_102 (by decide) (fun hc_3 => ?_) (fun hc_3 => ?_)
          · have hf := vm_pos hc_3 hf
            refine lv_aload_n hx hb dX5_readRow_107 rfl (lv_at hl 1 rfl) ?_
            refine va_get (D := Γ.1) (ci := 5) (v := .ref q3) (C := RX5) (T := TX5) (N := 4) hx hb hts hi5 hown hK hP 0 rfl rfl 1 (by decide) (hts (.fieldLink RX5 21 "SandPlates$Teller" "plate" "LSandPlates$Plate;") (List.mem_of_getElem? (i := 2) rfl)) (fun _ h9 => h9) rfl dX5_readRow_108 ?_
            refine va_getN (D := Γ.1) (ci := 2) (v := .ref q4) (C := RX2) (T := TX2) (N := 5) hx hb hts hi2 hown hK hP 3 rfl rfl 3 (by decide) (va_Nw.use rfl (nfX5_126 hE.2.1)) (fun _ h9 => h9) rfl dX5_readRow_111 ?_
            refine lv_aload_n hx hb dX5_readRow_114 rfl (lv_at hl 1 rfl) ?_
            refine va_get (D := Γ.1) (ci := 5) (v := .ref q3) (C := RX5) (T := TX5) (N := 4) hx hb hts hi5 hown hK hP 0 rfl rfl 1 (by decide) (hts (.fieldLink RX5 21 "SandPlates$Teller" "plate" "LSandPlates$Plate;") (List.mem_of_getElem? (i := 2) rfl)) (fun _ h9 => h9) rfl dX5_readRow_115 ?_
            refine va_getN (D := Γ.1) (ci := 2) (v := .int plate_columns) (C := RX2) (T := TX2) (N := 5) hx hb hts hi2 hown hK hP 3 rfl rfl 0 (by decide) (va_Nw.use rfl (nfX5_104 hE.2.1)) (fun _ h9 => h9) rfl dX5_readRow_118 ?_
            refine lv_aload_n hx hb dX5_readRow_121 rfl (lv_at hl 1 rfl) ?_
            refine va_get (D := Γ.1) (ci := 5) (v := .int rowsTold) (C := RX5) (T := TX5) (N := 4) hx hb hts hi5 hown hK hP 0 rfl rfl 3 (by decide) (hts (.fieldLink RX5 60 "SandPlates$Teller" "rowsTold" "I") (List.mem_of_getElem? (i := 1) rfl)) (fun _ h9 => h9) rfl dX5_readRow_122 ?_
            refine lv_imul hx hb dX5_readRow_125 ?_
            refine lv_iload_n hx hb dX5_readRow_126 rfl (lv_at hl 2 rfl) ?_
            refine lv_iadd hx hb dX5_readRow_127 ?_
            refine lv_iload_n hx hb dX5_readRow_128 rfl (lv_at hl 0 rfl) ?_
            obtain ⟨hc_4, hf⟩ := vm_ck hf
            refine vm_iast hx hb hK hP hD hS 4 0 rfl rfl hc_4 (j := (((plate_columns * rowsTold) + x1).toNatClampNeg)) rfl dX5_readRow_129 (fun H locs hP hD hS => ?_)
            have hP : va_P Γ.1 vwCl (wd_X5_readRow Γ q0 q1 q2 q3 q4 d0 d1 isPlateFixed rowsTold text_length text_kind text_first text_fin text_letters plate_columns plate_rows (upd plate_figure (((plate_columns * rowsTold) + x1).toNatClampNeg) ((text_letters ((text_first + x1).toNatClampNeg)) - 48))) H := hP
            have hD : va_D A (wd_X5_readRow Γ q0 q1 q2 q3 q4 d0 d1 isPlateFixed rowsTold text_length text_kind text_first text_fin text_letters plate_columns plate_rows (upd plate_figure (((plate_columns * rowsTold) + x1).toNatClampNeg) ((text_letters ((text_first + x1).toNatClampNeg)) - 48))) := hD
            refine lv_iinc (v := (x1 + 1)) (lv' := [(1, .int (x1 + 1)), (2, .int ((text_letters ((text_first + x1).toNatClampNeg)) - 48)), (0, .ref q0)]) hx hb dX5_readRow_130 hl (k := 2) rfl rfl (by decide) rfl (fun ls hl => ?_)
            refine lv_goto (tgt := 68) hx hb dX5_readRow_133 (by decide) ?_
            exact ih (upd plate_figure (((plate_columns * rowsTold) + x1).toNatClampNeg) ((text_letters ((text_first + x1).toNatClampNeg)) - 48)) (x1 + 1) hP hD hS (lv_sub hl [2, 0] rfl) hf
          · have hf := vm_neg hc_3 hf
            have hX := hX68
            rw [← Option.some.inj hf] at hX
            exact K_105 isPlateFixed rowsTold text_kind text_first text_fin plate_figure hP hD hS (lv_sub hl [] rfl) hX
    exact LP FU plate_figure x1 hP hD hS hl h1
  have K_64 : ∀ (isPlateFixed : Int32) (rowsTold : Int32) (text_kind : Int32) (text_first : Int32) (text_fin : Int32) (plate_figure : Nat → Int32) {H : Heap} {locs : List Loc} {ls : Array Slot}, va_P Γ.1 vwCl (wd_X5_readRow Γ q0 q1 q2 q3 q4 d0 d1 isPlateFixed rowsTold text_length text_kind text_first text_fin text_letters plate_columns plate_rows plate_figure) H → va_D A (wd_X5_readRow Γ q0 q1 q2 q3 q4 d0 d1 isPlateFixed rowsTold text_length text_kind text_first text_fin text_letters plate_columns plate_rows plate_figure) → va_S A s.heap H locs → lv_has ls 3 [] → f_X5_readRow_64 isPlateFixed rowsTold text_kind text_first text_fin plate_figure = some out → W p l e ({ frames := 2, cells := 0, slots := 0, locals := 41 } : Room) s m ([.ref q0] : List Value).toArray below meth c H locs 0 0 QQ (F0 m 64 ls []) := by
    intro isPlateFixed rowsTold text_kind text_first text_fin plate_figure H locs ls hP hD hS hl hf
    unfold f_X5_readRow_64 at hf
    refine lv_iconst (v := 0) hx hb dX5_readRow_64 (by decide) ?_
    subst hout; obtain ⟨rfl, rfl, rfl, rfl, rfl, rfl, rfl⟩ := rt7 hf
    subst hQQ
    exact W.zret hx hb hr rfl (fun t ht hW => ⟨⟨_, (), rfl, rfl, by rw [ht]; exact hP, hD⟩, hS.F ht⟩) hS.2.2 dX5_readRow_65
  unfold f_X5_readRow at hf
  refine lv_aload_n hx hb dX5_readRow_0 rfl (lv_at hl 0 rfl) ?_
  refine va_get (D := Γ.1) (ci := 5) (v := .int rowsTold) (C := RX5) (T := TX5) (N := 4) hx hb hts hi5 hown hK hP 0 rfl rfl 3 (by decide) (hts (.fieldLink RX5 60 "SandPlates$Teller" "rowsTold" "I") (List.mem_of_getElem? (i := 1) rfl)) (fun _ h9 => h9) rfl dX5_readRow_1 ?_
  refine lv_aload_n hx hb dX5_readRow_4 rfl (lv_at hl 0 rfl) ?_
  refine va_get (D := Γ.1) (ci := 5) (v := .ref q3) (C := RX5) (T := TX5) (N := 4) hx hb hts hi5 hown hK hP 0 rfl rfl 1 (by decide) (hts (.fieldLink RX5 21 "SandPlates$Teller" "plate" "LSandPlates$Plate;") (List.mem_of_getElem? (i := 2) rfl)) (fun _ h9 => h9) rfl dX5_readRow_5 ?_
  refine va_getN (D := Γ.1) (ci := 2) (v := .int plate_rows) (C := RX2) (T := TX2) (N := 5) hx hb hts hi2 hown hK hP 3 rfl rfl 1 (by decide) (va_Nw.use rfl (nfX5_107 hE.2.1)) (fun _ h9 => h9) rfl dX5_readRow_8 ?_
  refine lv_icmp_lt (tgt := 16) hx hb dX5_readRow_11 (by decide) (fun hc_5 => ?_) (fun hc_5 => ?_)
  · have hf := vm_pos hc_5 hf
    refine lv_aload_n hx hb dX5_readRow_16 rfl (lv_at hl 0 rfl) ?_
    refine lv_iconst (v := 1) hx hb dX5_readRow_17 (by decide) ?_
    refine va_put (D := Γ.1) (ci := 5) (v := .int 1) (ty := .boolean) (C := RX5) (T := TX5) (N := 4) hx hb hts hi5 tyX5 tyX5_ok nmX5 hown hK hP hD hS 0 rfl rfl 2 (by decide) (hts (.fieldLink RX5 56 "SandPlates$Teller" "isPlateFixed" "Z") (List.mem_of_getElem? (i := 3) rfl)) (fun _ h9 => h9) rfl (by decide +kernel) rfl rfl (Nat.le_of_ble_eq_true rfl) dX5_readRow_18 (fun H locs hP hD hS => ?_)
    have hP : va_P Γ.1 vwCl (wd_X5_readRow Γ q0 q1 q2 q3 q4 d0 d1 1 rowsTold text_length text_kind text_first text_fin text_letters plate_columns plate_rows plate_figure) H := hP
    have hD : va_D A (wd_X5_readRow Γ q0 q1 q2 q3 q4 d0 d1 1 rowsTold text_length text_kind text_first text_fin text_letters plate_columns plate_rows plate_figure) := hD
    refine lv_aload_n hx hb dX5_readRow_21 rfl (lv_at hl 0 rfl) ?_
    refine va_get (D := Γ.1) (ci := 5) (v := .ref q1) (C := RX5) (T := TX5) (N := 4) hx hb hts hi5 hown hK hP 0 rfl rfl 0 (by decide) (hts (.fieldLink RX5 12 "SandPlates$Teller" "text" "LSandPlates$Text;") (List.mem_of_getElem? (i := 4) rfl)) (fun _ h9 => h9) rfl dX5_readRow_22 ?_
    obtain ⟨text_kind_6, text_first_7, text_fin_8, hq_9, hf⟩ := ob3_some hf
    refine vm_cNv (isC := [1, 2]) (wc := (wd_X6_advance Γ q1 q2 text_length text_kind text_first text_fin text_letters)) (w1 := (wd_X6_advance Γ q1 q2 text_length text_kind_6 text_first_7 text_fin_8 text_letters)) (As := []) (rest := []) ⟨hx, hb, hml, hown, hts⟩ hE hP hD hS hA rfl rfl rfl (c_X6_advance l Γ _ q1 q2 text_length text_kind text_first text_fin text_letters text_kind_6 text_first_7 text_fin_8 hq_9) ⟨va_cnB 0 hts ggX5_readRow_X6_advance rfl rfl rfl (nmX5_28 hE.2.1) (hts (.initialized RX6) (List.mem_of_getElem? (i := 6) rfl)) (by decide +kernel) ⟨Nat.le_of_ble_eq_true rfl, Nat.le_of_ble_eq_true rfl⟩, (hts (.instanceMethod yX6_advance) (List.mem_of_getElem? (i := 5) rfl)), (hts (.selects RX6 yX6_advance yX6_advance) (List.mem_of_getElem? (i := 7) rfl))⟩ (va_recv (ci := 6) (q0 := 1) hK hP rfl rfl) rfl hl.1 rfl (Nat.le_of_ble_eq_true rfl) dX5_readRow_25 ⟨Nat.zero_le _, Nat.zero_le _⟩ (fun H locs hP hD hS => ?_)
    have hP : va_P Γ.1 vwCl (wd_X5_readRow Γ q0 q1 q2 q3 q4 d0 d1 1 rowsTold text_length text_kind_6 text_first_7 text_fin_8 text_letters plate_columns plate_rows plate_figure) H := hP
    have hD : va_D A (wd_X5_readRow Γ q0 q1 q2 q3 q4 d0 d1 1 rowsTold text_length text_kind_6 text_first_7 text_fin_8 text_letters plate_columns plate_rows plate_figure) := hD
    refine lv_aload_n hx hb dX5_readRow_28 rfl (lv_at hl 0 rfl) ?_
    refine va_get (D := Γ.1) (ci := 5) (v := .ref q1) (C := RX5) (T := TX5) (N := 4) hx hb hts hi5 hown hK hP 0 rfl rfl 0 (by decide) (hts (.fieldLink RX5 12 "SandPlates$Teller" "text" "LSandPlates$Text;") (List.mem_of_getElem? (i := 4) rfl)) (fun _ h9 => h9) rfl dX5_readRow_29 ?_
    refine va_getN (D := Γ.1) (ci := 6) (v := .int text_kind_6) (C := RX6) (T := TX6) (N := 5) hx hb hts hi6 hown hK hP 1 rfl rfl 2 (by decide) (va_Nw.use rfl (nfX5_31 hE.2.1)) (fun _ h9 => h9) rfl dX5_readRow_32 ?_
    refine lv_iconst (v := 2) hx hb dX5_readRow_35 (by decide) ?_
    refine lv_icmp_ne (tgt := 64) hx hb dX5_readRow_36 (by decide) (fun hc_10 => ?_) (fun hc_10 => ?_)
    · have hf := vm_neg hc_10 hf
      exact K_64 1 rowsTold text_kind_6 text_first_7 text_fin_8 plate_figure hP hD hS (lv_sub hl [] rfl) hf
    · have hf := vm_pos hc_10 hf
      refine lv_aload_n hx hb dX5_readRow_39 rfl (lv_at hl 0 rfl) ?_
      refine va_get (D := Γ.1) (ci := 5) (v := .ref q1) (C := RX5) (T := TX5) (N := 4) hx hb hts hi5 hown hK hP 0 rfl rfl 0 (by decide) (hts (.fieldLink RX5 12 "SandPlates$Teller" "text" "LSandPlates$Text;") (List.mem_of_getElem? (i := 4) rfl)) (fun _ h9 => h9) rfl dX5_readRow_40 ?_
      refine va_getN (D := Γ.1) (ci := 6) (v := .int text_fin_8) (C := RX6) (T := TX6) (N := 5) hx hb hts hi6 hown hK hP 1 rfl rfl 4 (by decide) (va_Nw.use rfl (nfX5_120 hE.2.1)) (fun _ h9 => h9) rfl dX5_readRow_43 ?_
      refine lv_aload_n hx hb dX5_readRow_46 rfl (lv_at hl 0 rfl) ?_
      refine va_get (D := Γ.1) (ci := 5) (v := .ref q1) (C := RX5) (T := TX5) (N := 4) hx hb hts hi5 hown hK hP 0 rfl rfl 0 (by decide) (hts (.fieldLink RX5 12 "SandPlates$Teller" "text" "LSandPlates$Text;") (List.mem_of_getElem? (i := 4) rfl)) (fun _ h9 => h9) rfl dX5_readRow_47 ?_
      refine va_getN (D := Γ.1) (ci := 6) (v := .int text_first_7) (C := RX6) (T := TX6) (N := 5) hx hb hts hi6 hown hK hP 1 rfl rfl 3 (by decide) (va_Nw.use rfl (nfX5_47 hE.2.1)) (fun _ h9 => h9) rfl dX5_readRow_50 ?_
      refine lv_isub hx hb dX5_readRow_53 ?_
      refine lv_aload_n hx hb dX5_readRow_54 rfl (lv_at hl 0 rfl) ?_
      refine va_get (D := Γ.1) (ci := 5) (v := .ref q3) (C := RX5) (T := TX5) (N := 4) hx hb hts hi5 hown hK hP 0 rfl rfl 1 (by decide) (hts (.fieldLink RX5 21 "SandPlates$Teller" "plate" "LSandPlates$Plate;") (List.mem_of_getElem? (i := 2) rfl)) (fun _ h9 => h9) rfl dX5_readRow_55 ?_
      refine va_getN (D := Γ.1) (ci := 2) (v := .int plate_columns) (C := RX2) (T := TX2) (N := 5) hx hb hts hi2 hown hK hP 3 rfl rfl 0 (by decide) (va_Nw.use rfl (nfX5_104 hE.2.1)) (fun _ h9 => h9) rfl dX5_readRow_58 ?_
      refine lv_icmp_eq (tgt := 66) hx hb dX5_readRow_61 (by decide) (fun hc_11 => ?_) (fun hc_11 => ?_)
      · have hf := vm_pos hc_11 hf
        refine lv_iconst (v := 0) hx hb dX5_readRow_66 (by decide) ?_
        refine lv_istore_n (lv' := [(1, .int 0), (0, .ref q0)]) hx hb dX5_readRow_67 rfl hl (by decide) rfl (fun ls hl => ?_)
        exact K_68 1 rowsTold text_kind_6 text_first_7 text_fin_8 plate_figure 0 hP hD hS (lv_sub hl [1, 0] rfl) hf
      · have hf := vm_neg hc_11 hf
        exact K_64 1 rowsTold text_kind_6 text_first_7 text_fin_8 plate_figure hP hD hS (lv_sub hl [] rfl) hf
  · have hf := vm_neg hc_5 hf
    refine lv_iconst (v := 0) hx hb dX5_readRow_14 (by decide) ?_
    subst hout; obtain ⟨rfl, rfl, rfl, rfl, rfl, rfl, rfl⟩ := rt7 hf
    subst hQQ
    exact W.zret hx hb hr rfl (fun t ht hW => ⟨⟨_, (), rfl, rfl, by rw [ht]; exact hP, hD⟩, hS.F ht⟩) hS.2.2 dX5_readRow_15
def wd_X5_readTold (Γ : GE) (q0 q1 q2 q3 q4 q5 d0 : Nat) (isPlateFixed : Int32) (rowsTold : Int32) (text_length : Int32) (text_kind : Int32) (text_first : Int32) (text_fin : Int32) (text_letters : Nat → Int32) (plate_columns : Int32) (plate_rows : Int32) (plate_numbers : Nat → Int32) (plate_figure : Nat → Int32) : va_W := [(q0, .inr (5, [.ref q1, .ref q3, .int isPlateFixed, .int rowsTold])), (q1, .inr (6, [.ref q2, .int text_length, .int text_kind, .int text_first, .int text_fin])), (q2, .inl (Γ.2.1 0, 120, .inl text_letters)), (q3, .inr (2, [.int plate_columns, .int plate_rows, .ref q4, .ref q5, .ref d0])), (q4, .inl (Γ.2.1 0, 7, .inl plate_numbers)), (q5, .inl (Γ.2.1 0, 36, .inl plate_figure))]
def f_X5_readTold_73 (isPlateFixed : Int32) (rowsTold : Int32) (text_length : Int32) (text_kind : Int32) (text_first : Int32) (text_fin : Int32) (text_letters : Nat → Int32) (plate_columns : Int32) (plate_rows : Int32) (plate_numbers : Nat → Int32) (plate_figure : Nat → Int32) (x1 : Int32) : Option (Int32 × Int32 × Int32 × Int32 × Int32 × Int32 × Int32 × Int32 × (Nat → Int32) × (Nat → Int32)) := ob5 (f_X5_readSetting text_length text_kind text_first text_fin text_letters plate_numbers x1) (fun r_1 text_kind_2 text_first_3 text_fin_4 plate_numbers_5 => if r_1 = 0 ∨ r_1 = 1 then some (r_1, isPlateFixed, rowsTold, text_kind_2, text_first_3, text_fin_4, plate_columns, plate_rows, plate_numbers_5, plate_figure) else none)
def f_X5_readTold (isPlateFixed : Int32) (rowsTold : Int32) (text_length : Int32) (text_kind : Int32) (text_first : Int32) (text_fin : Int32) (text_letters : Nat → Int32) (plate_columns : Int32) (plate_rows : Int32) (plate_numbers : Nat → Int32) (plate_figure : Nat → Int32) (x1 : Int32) : Option (Int32 × Int32 × Int32 × Int32 × Int32 × Int32 × Int32 × Int32 × (Nat → Int32) × (Nat → Int32)) := if x1 = (-1) then (some (0, isPlateFixed, rowsTold, text_kind, text_first, text_fin, plate_columns, plate_rows, plate_numbers, plate_figure)) else if x1 = 0 then (f_X5_readTold_73 isPlateFixed rowsTold text_length text_kind text_first text_fin text_letters plate_columns plate_rows plate_numbers plate_figure x1) else if x1 = 1 then (f_X5_readTold_73 isPlateFixed rowsTold text_length text_kind text_first text_fin text_letters plate_columns plate_rows plate_numbers plate_figure x1) else if x1 = 2 then (f_X5_readTold_73 isPlateFixed rowsTold text_length text_kind text_first text_fin text_letters plate_columns plate_rows plate_numbers plate_figure x1) else if x1 = 3 then (f_X5_readTold_73 isPlateFixed rowsTold text_length text_kind text_first text_fin text_letters plate_columns plate_rows plate_numbers plate_figure x1) else if x1 = 4 then (f_X5_readTold_73 isPlateFixed rowsTold text_length text_kind text_first text_fin text_letters plate_columns plate_rows plate_numbers plate_figure x1) else if x1 = 5 then (f_X5_readTold_73 isPlateFixed rowsTold text_length text_kind text_first text_fin text_letters plate_columns plate_rows plate_numbers plate_figure x1) else if x1 = 6 then (ob7 (f_X5_readPlate isPlateFixed text_length text_kind text_first text_fin text_letters plate_columns plate_rows) (fun r_16 isPlateFixed_17 text_kind_18 text_first_19 text_fin_20 plate_columns_21 plate_rows_22 => if r_16 = 0 ∨ r_16 = 1 then some (r_16, isPlateFixed_17, rowsTold, text_kind_18, text_first_19, text_fin_20, plate_columns_21, plate_rows_22, plate_numbers, plate_figure) else none)) else if x1 = 7 then (ob6 (f_X5_readDrive text_length text_fin text_letters plate_columns plate_rows plate_numbers) (fun r_26 isPlateFixed_27 text_kind_28 text_first_29 text_fin_30 plate_numbers_31 => if r_26 = 0 ∨ r_26 = 1 then some (r_26, isPlateFixed_27, rowsTold, text_kind_28, text_first_29, text_fin_30, plate_columns, plate_rows, plate_numbers_31, plate_figure) else none)) else if x1 = 8 then (ob7 (f_X5_readRow isPlateFixed rowsTold text_length text_kind text_first text_fin text_letters plate_columns plate_rows plate_figure) (fun r_35 isPlateFixed_36 rowsTold_37 text_kind_38 text_first_39 text_fin_40 plate_figure_41 => if r_35 = 0 ∨ r_35 = 1 then some (r_35, isPlateFixed_36, rowsTold_37, text_kind_38, text_first_39, text_fin_40, plate_columns, plate_rows, plate_numbers, plate_figure_41) else none)) else (f_X5_readTold_73 isPlateFixed rowsTold text_length text_kind text_first text_fin text_letters plate_columns plate_rows plate_numbers plate_figure x1)
set_option maxHeartbeats 4000000 in
set_option maxRecDepth 100000 in
theorem c_X5_readTold (l : Launch) (Γ : GE) (sz : Nat) (q0 q1 q2 q3 q4 q5 d0 : Nat) (isPlateFixed : Int32) (rowsTold : Int32) (text_length : Int32) (text_kind : Int32) (text_first : Int32) (text_fin : Int32) (text_letters : Nat → Int32) (plate_columns : Int32) (plate_rows : Int32) (plate_numbers : Nat → Int32) (plate_figure : Nat → Int32) (x1 : Int32) (ro : Int32) (o_isPlateFixed : Int32) (o_rowsTold : Int32) (o_text_kind : Int32) (o_text_first : Int32) (o_text_fin : Int32) (o_plate_columns : Int32) (o_plate_rows : Int32) (o_plate_numbers : Nat → Int32) (o_plate_figure : Nat → Int32) (hf : f_X5_readTold isPlateFixed rowsTold text_length text_kind text_first text_fin text_letters plate_columns plate_rows plate_numbers plate_figure x1 = some (ro, o_isPlateFixed, o_rowsTold, o_text_kind, o_text_first, o_text_fin, o_plate_columns, o_plate_rows, o_plate_numbers, o_plate_figure)) : MetI l yX5_readTold wsX5_readTold ({ frames := 4, cells := 0, slots := 0, locals := 86 } : Room) Γ [.ref q0, .int x1] (wd_X5_readTold Γ q0 q1 q2 q3 q4 q5 d0 isPlateFixed rowsTold text_length text_kind text_first text_fin text_letters plate_columns plate_rows plate_numbers plate_figure) (wd_X5_readTold Γ q0 q1 q2 q3 q4 q5 d0 o_isPlateFixed o_rowsTold text_length o_text_kind o_text_first o_text_fin text_letters o_plate_columns o_plate_rows o_plate_numbers o_plate_figure) sz ro := by
  refine Met.ofW (cc := cX5_readTold) (maxL := 2) (ret := (some .boolean)) (by decide) rfl ?_
  intro p e s m args below meth c s₁ B hml hv
  obtain ⟨rfl, hsz, hE, hP, hD⟩ := hv
  have hx := B.exec
  have hb := B.bytes
  have hr := B.returns
  have hts := atoms_spec (ws := wsX5_readTold) B.pre
  have hown : s.vm.findClass RX5 = some m.cls := findClass_of_methodNamed B.named
  have hlocks := B.notSynchronized
  subst hsz
  generalize hAe : va_A (wd_X5_readTold Γ q0 q1 q2 q3 q4 q5 d0 isPlateFixed rowsTold text_length text_kind text_first text_fin text_letters plate_columns plate_rows plate_numbers plate_figure) s.heap.size = A at hE hD ⊢
  have hA : ∀ q : Nat, s.heap.size ≤ q → A q := fun q h => by rw [← hAe]; exact Or.inr h
  clear hAe
  have hS : va_S A s.heap s.heap [] := va_S.rf
  have hK := hE.1
  have hl := lv_entry ([.ref q0, .int x1]) (n := 2) (Nat.le_of_ble_eq_true rfl)
  rw [lg_entry_eq]
  generalize (lg_sl ([.ref q0, .int x1]) ++ List.replicate (2 - (lg_sl ([.ref q0, .int x1])).length) Slot.unset).toArray = ls at hl ⊢
  have hl : lv_has ls 2 [(0, .ref q0), (1, .int x1)] := hl
  have hi2 : ∀ w ∈ u_ws RX2 TX2 5, w ∈ wsX5_readTold := fun w h => (List.mem_cons_of_mem _ (List.mem_append_left _ (List.mem_append_right _ h)))
  have hi5 : ∀ w ∈ u_ws RX5 TX5 4, w ∈ wsX5_readTold := fun w h => (List.mem_cons_of_mem _ (List.mem_append_left _ (List.mem_append_left _ (List.mem_append_right _ h))))
  have hi6 : ∀ w ∈ u_ws RX6 TX6 5, w ∈ wsX5_readTold := fun w h => (List.mem_cons_of_mem _ (List.mem_append_right _ h))
  obtain ⟨out, hout⟩ : ∃ o, o = (ro, o_isPlateFixed, o_rowsTold, o_text_kind, o_text_first, o_text_fin, o_plate_columns, o_plate_rows, o_plate_numbers, o_plate_figure) := ⟨_, rfl⟩
  rw [← hout] at hf
  obtain ⟨QQ, hQQ⟩ : ∃ Q, Q = MQ below (va_Qi (fun (r' : Int32) (_ : Unit) => r' = ro) (CQ Γ (wd_X5_readTold Γ q0 q1 q2 q3 q4 q5 d0 o_isPlateFixed o_rowsTold text_length o_text_kind o_text_first o_text_fin text_letters o_plate_columns o_plate_rows o_plate_numbers o_plate_figure) A) A) (([.ref q0, .int x1] : List Value).toArray) s 0 0 A := ⟨_, rfl⟩
  show W p l e ({ frames := 4, cells := 0, slots := 0, locals := 86 } : Room) s m (([.ref q0, .int x1] : List Value).toArray) below meth c s.heap [] 0 0 (MQ below _ (([.ref q0, .int x1] : List Value).toArray) s 0 0 A) (F0 m 0 ls [])
  rw [← hQQ]
  have K_73 : ∀ (isPlateFixed : Int32) (rowsTold : Int32) (text_kind : Int32) (text_first : Int32) (text_fin : Int32) (plate_columns : Int32) (plate_rows : Int32) (plate_numbers : Nat → Int32) (plate_figure : Nat → Int32) {H : Heap} {locs : List Loc} {ls : Array Slot}, va_P Γ.1 vwCl (wd_X5_readTold Γ q0 q1 q2 q3 q4 q5 d0 isPlateFixed rowsTold text_length text_kind text_first text_fin text_letters plate_columns plate_rows plate_numbers plate_figure) H → va_D A (wd_X5_readTold Γ q0 q1 q2 q3 q4 q5 d0 isPlateFixed rowsTold text_length text_kind text_first text_fin text_letters plate_columns plate_rows plate_numbers plate_figure) → va_S A s.heap H locs → lv_has ls 2 [(0, .ref q0), (1, .int x1)] → f_X5_readTold_73 isPlateFixed rowsTold text_length text_kind text_first text_fin text_letters plate_columns plate_rows plate_numbers plate_figure x1 = some out → W p l e ({ frames := 4, cells := 0, slots := 0, locals := 86 } : Room) s m ([.ref q0, .int x1] : List Value).toArray below meth c H locs 0 0 QQ (F0 m 73 ls []) := by
    intro isPlateFixed rowsTold text_kind text_first text_fin plate_columns plate_rows plate_numbers plate_figure H locs ls hP hD hS hl hf
    unfold f_X5_readTold_73 at hf
    refine lv_aload_n hx hb dX5_readTold_73 rfl (lv_at hl 0 rfl) ?_
    refine lv_iload_n hx hb dX5_readTold_74 rfl (lv_at hl 1 rfl) ?_
    obtain ⟨r_1, text_kind_2, text_first_3, text_fin_4, plate_numbers_5, hq_6, hf⟩ := ob5_some hf
    refine vm_cVi (isC := [0, 1, 2, 3, 4]) (wc := (wd_X5_readSetting Γ q0 q1 q2 q3 q4 q5 d0 isPlateFixed rowsTold text_length text_kind text_first text_fin text_letters plate_columns plate_rows plate_numbers)) (w1 := (wd_X5_readSetting Γ q0 q1 q2 q3 q4 q5 d0 isPlateFixed rowsTold text_length text_kind_2 text_first_3 text_fin_4 text_letters plate_columns plate_rows plate_numbers_5)) (As := [.int x1]) (rest := []) ⟨hx, hb, hml, hown, hts⟩ hE hP hD hS hA rfl rfl rfl (c_X5_readSetting l Γ _ q0 q1 q2 q3 q4 q5 d0 isPlateFixed rowsTold text_length text_kind text_first text_fin text_letters plate_columns plate_rows plate_numbers x1 r_1 text_kind_2 text_first_3 text_fin_4 plate_numbers_5 hq_6) (cwV 1 hts gX5_readTold_X5_readSetting rfl rfl rfl (by decide +kernel) ⟨Nat.le_of_ble_eq_true rfl, Nat.le_of_ble_eq_true rfl⟩) (va_recv (ci := 5) (q0 := 0) hK hP rfl rfl) rfl hl.1 rfl (Nat.le_of_ble_eq_true rfl) dX5_readTold_75 ⟨Nat.zero_le _, Nat.zero_le _⟩ (fun H locs hP hD hS => ?_)
    have hP : va_P Γ.1 vwCl (wd_X5_readTold Γ q0 q1 q2 q3 q4 q5 d0 isPlateFixed rowsTold text_length text_kind_2 text_first_3 text_fin_4 text_letters plate_columns plate_rows plate_numbers_5 plate_figure) H := hP
    have hD : va_D A (wd_X5_readTold Γ q0 q1 q2 q3 q4 q5 d0 isPlateFixed rowsTold text_length text_kind_2 text_first_3 text_fin_4 text_letters plate_columns plate_rows plate_numbers_5 plate_figure) := hD
    obtain ⟨hc_7, hf⟩ := vm_ck hf
    subst hout; obtain ⟨rfl, rfl, rfl, rfl, rfl, rfl, rfl, rfl, rfl, rfl⟩ := rt10 hf
    subst hQQ
    exact W.zret hx hb hr (vm_nz hc_7) (fun t ht hW => ⟨⟨_, (), rfl, rfl, by rw [ht]; exact hP, hD⟩, hS.F ht⟩) hS.2.2 dX5_readTold_78
  unfold f_X5_readTold at hf
  refine lv_iload_n hx hb dX5_readTold_0 rfl (lv_at hl 1 rfl) ?_
  by_cases hc_8 : x1 = (-1)
  · have hf := vm_pos hc_8 hf
    refine lv_tableIn (x := x1) (tgt := 56) hx hb dX5_readTold_1 (by rw [hc_8]; decide) (by rw [hc_8]; decide) (by rw [hc_8]; rfl) (by decide) ?_
    refine lv_iconst (v := 0) hx hb dX5_readTold_56 (by decide) ?_
    subst hout; obtain ⟨rfl, rfl, rfl, rfl, rfl, rfl, rfl, rfl, rfl, rfl⟩ := rt10 hf
    subst hQQ
    exact W.zret hx hb hr rfl (fun t ht hW => ⟨⟨_, (), rfl, rfl, by rw [ht]; exact hP, hD⟩, hS.F ht⟩) hS.2.2 dX5_readTold_57
  · have hf := vm_neg hc_8 hf
    by_cases hc_9 : x1 = 0
    · have hf := vm_pos hc_9 hf
      refine lv_tableIn (x := x1) (tgt := 73) hx hb dX5_readTold_1 (by rw [hc_9]; decide) (by rw [hc_9]; decide) (by rw [hc_9]; rfl) (by decide) ?_
      exact K_73 isPlateFixed rowsTold text_kind text_first text_fin plate_columns plate_rows plate_numbers plate_figure hP hD hS (lv_sub hl [0, 1] rfl) hf
    · have hf := vm_neg hc_9 hf
      by_cases hc_10 : x1 = 1
      · have hf := vm_pos hc_10 hf
        refine lv_tableIn (x := x1) (tgt := 73) hx hb dX5_readTold_1 (by rw [hc_10]; decide) (by rw [hc_10]; decide) (by rw [hc_10]; rfl) (by decide) ?_
        exact K_73 isPlateFixed rowsTold text_kind text_first text_fin plate_columns plate_rows plate_numbers plate_figure hP hD hS (lv_sub hl [0, 1] rfl) hf
      · have hf := vm_neg hc_10 hf
        by_cases hc_11 : x1 = 2
        · have hf := vm_pos hc_11 hf
          refine lv_tableIn (x := x1) (tgt := 73) hx hb dX5_readTold_1 (by rw [hc_11]; decide) (by rw [hc_11]; decide) (by rw [hc_11]; rfl) (by decide) ?_
          exact K_73 isPlateFixed rowsTold text_kind text_first text_fin plate_columns plate_rows plate_numbers plate_figure hP hD hS (lv_sub hl [0, 1] rfl) hf
        · have hf := vm_neg hc_11 hf
          by_cases hc_12 : x1 = 3
          · have hf := vm_pos hc_12 hf
            refine lv_tableIn (x := x1) (tgt := 73) hx hb dX5_readTold_1 (by rw [hc_12]; decide) (by rw [hc_12]; decide) (by rw [hc_12]; rfl) (by decide) ?_
            exact K_73 isPlateFixed rowsTold text_kind text_first text_fin plate_columns plate_rows plate_numbers plate_figure hP hD hS (lv_sub hl [0, 1] rfl) hf
          · have hf := vm_neg hc_12 hf
            by_cases hc_13 : x1 = 4
            · have hf := vm_pos hc_13 hf
              refine lv_tableIn (x := x1) (tgt := 73) hx hb dX5_readTold_1 (by rw [hc_13]; decide) (by rw [hc_13]; decide) (by rw [hc_13]; rfl) (by decide) ?_
              exact K_73 isPlateFixed rowsTold text_kind text_first text_fin plate_columns plate_rows plate_numbers plate_figure hP hD hS (lv_sub hl [0, 1] rfl) hf
            · have hf := vm_neg hc_13 hf
              by_cases hc_14 : x1 = 5
              · have hf := vm_pos hc_14 hf
                refine lv_tableIn (x := x1) (tgt := 73) hx hb dX5_readTold_1 (by rw [hc_14]; decide) (by rw [hc_14]; decide) (by rw [hc_14]; rfl) (by decide) ?_
                exact K_73 isPlateFixed rowsTold text_kind text_first text_fin plate_columns plate_rows plate_numbers plate_figure hP hD hS (lv_sub hl [0, 1] rfl) hf
              · have hf := vm_neg hc_14 hf
                by_cases hc_15 : x1 = 6
                · have hf := vm_pos hc_15 hf
                  refine lv_tableIn (x := x1) (tgt := 58) hx hb dX5_readTold_1 (by rw [hc_15]; decide) (by rw [hc_15]; decide) (by rw [hc_15]; rfl) (by decide) ?_
                  refine lv_aload_n hx hb dX5_readTold_58 rfl (lv_at hl 0 rfl) ?_
                  obtain ⟨r_16, isPlateFixed_17, text_kind_18, text_first_19, text_fin_20, plate_columns_21, plate_rows_22, hq_23, hf⟩ := ob7_some hf
                  refine vm_cVi (isC := [0, 1, 2, 3]) (wc := (wd_X5_readPlate Γ q0 q1 q2 q3 q4 q5 d0 isPlateFixed rowsTold text_length text_kind text_first text_fin text_letters plate_columns plate_rows)) (w1 := (wd_X5_readPlate Γ q0 q1 q2 q3 q4 q5 d0 isPlateFixed_17 rowsTold text_length text_kind_18 text_first_19 text_fin_20 text_letters plate_columns_21 plate_rows_22)) (As := []) (rest := []) ⟨hx, hb, hml, hown, hts⟩ hE hP hD hS hA rfl rfl rfl (c_X5_readPlate l Γ _ q0 q1 q2 q3 q4 q5 d0 isPlateFixed rowsTold text_length text_kind text_first text_fin text_letters plate_columns plate_rows r_16 isPlateFixed_17 text_kind_18 text_first_19 text_fin_20 plate_columns_21 plate_rows_22 hq_23) (cwV 0 hts gX5_readTold_X5_readPlate rfl rfl rfl (by decide +kernel) ⟨Nat.le_of_ble_eq_true rfl, Nat.le_of_ble_eq_true rfl⟩) (va_recv (ci := 5) (q0 := 0) hK hP rfl rfl) rfl hl.1 rfl (Nat.le_of_ble_eq_true rfl) dX5_readTold_59 ⟨Nat.zero_le _, Nat.zero_le _⟩ (fun H locs hP hD hS => ?_)
                  have hP : va_P Γ.1 vwCl (wd_X5_readTold Γ q0 q1 q2 q3 q4 q5 d0 isPlateFixed_17 rowsTold text_length text_kind_18 text_first_19 text_fin_20 text_letters plate_columns_21 plate_rows_22 plate_numbers plate_figure) H := hP
                  have hD : va_D A (wd_X5_readTold Γ q0 q1 q2 q3 q4 q5 d0 isPlateFixed_17 rowsTold text_length text_kind_18 text_first_19 text_fin_20 text_letters plate_columns_21 plate_rows_22 plate_numbers plate_figure) := hD
                  obtain ⟨hc_24, hf⟩ := vm_ck hf
                  subst hout; obtain ⟨rfl, rfl, rfl, rfl, rfl, rfl, rfl, rfl, rfl, rfl⟩ := rt10 hf
                  subst hQQ
                  exact W.zret hx hb hr (vm_nz hc_24) (fun t ht hW => ⟨⟨_, (), rfl, rfl, by rw [ht]; exact hP, hD⟩, hS.F ht⟩) hS.2.2 dX5_readTold_62
                · have hf := vm_neg hc_15 hf
                  by_cases hc_25 : x1 = 7
                  · have hf := vm_pos hc_25 hf
                    refine lv_tableIn (x := x1) (tgt := 63) hx hb dX5_readTold_1 (by rw [hc_25]; decide) (by rw [hc_25]; decide) (by rw [hc_25]; rfl) (by decide) ?_
                    refine lv_aload_n hx hb dX5_readTold_63 rfl (lv_at hl 0 rfl) ?_
                    obtain ⟨r_26, isPlateFixed_27, text_kind_28, text_first_29, text_fin_30, plate_numbers_31, hq_32, hf⟩ := ob6_some hf
                    refine vm_cVi (isC := [0, 1, 2, 3, 4]) (wc := (wd_X5_readDrive Γ q0 q1 q2 q3 q4 q5 d0 isPlateFixed rowsTold text_length text_kind text_first text_fin text_letters plate_columns plate_rows plate_numbers)) (w1 := (wd_X5_readDrive Γ q0 q1 q2 q3 q4 q5 d0 isPlateFixed_27 rowsTold text_length text_kind_28 text_first_29 text_fin_30 text_letters plate_columns plate_rows plate_numbers_31)) (As := []) (rest := []) ⟨hx, hb, hml, hown, hts⟩ hE hP hD hS hA rfl rfl rfl (c_X5_readDrive l Γ _ q0 q1 q2 q3 q4 q5 d0 isPlateFixed rowsTold text_length text_kind text_first text_fin text_letters plate_columns plate_rows plate_numbers r_26 isPlateFixed_27 text_kind_28 text_first_29 text_fin_30 plate_numbers_31 hq_32) (cwV 0 hts gX5_readTold_X5_readDrive rfl rfl rfl (by decide +kernel) ⟨Nat.le_of_ble_eq_true rfl, Nat.le_of_ble_eq_true rfl⟩) (va_recv (ci := 5) (q0 := 0) hK hP rfl rfl) rfl hl.1 rfl (Nat.le_of_ble_eq_true rfl) dX5_readTold_64 ⟨Nat.zero_le _, Nat.zero_le _⟩ (fun H locs hP hD hS => ?_)
                    have hP : va_P Γ.1 vwCl (wd_X5_readTold Γ q0 q1 q2 q3 q4 q5 d0 isPlateFixed_27 rowsTold text_length text_kind_28 text_first_29 text_fin_30 text_letters plate_columns plate_rows plate_numbers_31 plate_figure) H := hP
                    have hD : va_D A (wd_X5_readTold Γ q0 q1 q2 q3 q4 q5 d0 isPlateFixed_27 rowsTold text_length text_kind_28 text_first_29 text_fin_30 text_letters plate_columns plate_rows plate_numbers_31 plate_figure) := hD
                    obtain ⟨hc_33, hf⟩ := vm_ck hf
                    subst hout; obtain ⟨rfl, rfl, rfl, rfl, rfl, rfl, rfl, rfl, rfl, rfl⟩ := rt10 hf
                    subst hQQ
                    exact W.zret hx hb hr (vm_nz hc_33) (fun t ht hW => ⟨⟨_, (), rfl, rfl, by rw [ht]; exact hP, hD⟩, hS.F ht⟩) hS.2.2 dX5_readTold_67
                  · have hf := vm_neg hc_25 hf
                    by_cases hc_34 : x1 = 8
                    · have hf := vm_pos hc_34 hf
                      refine lv_tableIn (x := x1) (tgt := 68) hx hb dX5_readTold_1 (by rw [hc_34]; decide) (by rw [hc_34]; decide) (by rw [hc_34]; rfl) (by decide) ?_
                      refine lv_aload_n hx hb dX5_readTold_68 rfl (lv_at hl 0 rfl) ?_
                      obtain ⟨r_35, isPlateFixed_36, rowsTold_37, text_kind_38, text_first_39, text_fin_40, plate_figure_41, hq_42, hf⟩ := ob7_some hf
                      refine vm_cVi (isC := [0, 1, 2, 3, 5]) (wc := (wd_X5_readRow Γ q0 q1 q2 q3 q5 q4 d0 isPlateFixed rowsTold text_length text_kind text_first text_fin text_letters plate_columns plate_rows plate_figure)) (w1 := (wd_X5_readRow Γ q0 q1 q2 q3 q5 q4 d0 isPlateFixed_36 rowsTold_37 text_length text_kind_38 text_first_39 text_fin_40 text_letters plate_columns plate_rows plate_figure_41)) (As := []) (rest := []) ⟨hx, hb, hml, hown, hts⟩ hE hP hD hS hA rfl rfl rfl (c_X5_readRow l Γ _ q0 q1 q2 q3 q5 q4 d0 isPlateFixed rowsTold text_length text_kind text_first text_fin text_letters plate_columns plate_rows plate_figure r_35 isPlateFixed_36 rowsTold_37 text_kind_38 text_first_39 text_fin_40 plate_figure_41 hq_42) (cwV 0 hts gX5_readTold_X5_readRow rfl rfl rfl (by decide +kernel) ⟨Nat.le_of_ble_eq_true rfl, Nat.le_of_ble_eq_true rfl⟩) (va_recv (ci := 5) (q0 := 0) hK hP rfl rfl) rfl hl.1 rfl (Nat.le_of_ble_eq_true rfl) dX5_readTold_69 ⟨Nat.zero_le _, Nat.zero_le _⟩ (fun H locs hP hD hS => ?_)
                      have hP : va_P Γ.1 vwCl (wd_X5_readTold Γ q0 q1 q2 q3 q4 q5 d0 isPlateFixed_36 rowsTold_37 text_length text_kind_38 text_first_39 text_fin_40 text_letters plate_columns plate_rows plate_numbers plate_figure_41) H := hP
                      have hD : va_D A (wd_X5_readTold Γ q0 q1 q2 q3 q4 q5 d0 isPlateFixed_36 rowsTold_37 text_length text_kind_38 text_first_39 text_fin_40 text_letters plate_columns plate_rows plate_numbers plate_figure_41) := hD
                      obtain ⟨hc_43, hf⟩ := vm_ck hf
                      subst hout; obtain ⟨rfl, rfl, rfl, rfl, rfl, rfl, rfl, rfl, rfl, rfl⟩ := rt10 hf
                      subst hQQ
                      exact W.zret hx hb hr (vm_nz hc_43) (fun t ht hW => ⟨⟨_, (), rfl, rfl, by rw [ht]; exact hP, hD⟩, hS.F ht⟩) hS.2.2 dX5_readTold_72
                    · have hf := vm_neg hc_34 hf
                      refine lv_tableOut (x := x1) (tgt := 73) hx hb dX5_readTold_1 (by have z0 : x1.toInt ≠ -1 := vm_neI hc_8 rfl; have z1 : x1.toInt ≠ 0 := vm_neI hc_9 rfl; have z2 : x1.toInt ≠ 1 := vm_neI hc_10 rfl; have z3 : x1.toInt ≠ 2 := vm_neI hc_11 rfl; have z4 : x1.toInt ≠ 3 := vm_neI hc_12 rfl; have z5 : x1.toInt ≠ 4 := vm_neI hc_13 rfl; have z6 : x1.toInt ≠ 5 := vm_neI hc_14 rfl; have z7 : x1.toInt ≠ 6 := vm_neI hc_15 rfl; have z8 : x1.toInt ≠ 7 := vm_neI hc_25 rfl; have z9 : x1.toInt ≠ 8 := vm_neI hc_34 rfl; omega) (by decide) ?_
                      exact K_73 isPlateFixed rowsTold text_kind text_first text_fin plate_columns plate_rows plate_numbers plate_figure hP hD hS (lv_sub hl [0, 1] rfl) hf
