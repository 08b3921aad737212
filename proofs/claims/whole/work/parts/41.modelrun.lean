def wd_X8_cells (Γ : GE) (q0 q1 d0 d1 d2 d3 d4 d5 d6 d7 d8 d9 d10 d11 d12 d13 : Nat) (length : Int32) (undoMany : Int32) (zeroKept : Int32) (oneKept : Int32) (seen : Int32) (spot : Int32) (kind : Int32) (begin : Int32) (letters : Int64) (figures : Int32) (value : Int32) (plated : Int32) (driven : Int32) (rows : Int32) (periods : Int32) (leastPeriod : Int32) (sv : Nat → Int32) : va_W := [(q0, .inr (8, [.int length, .ref d0, .ref q1, .ref d1, .ref d2, .int undoMany, .ref d3, .int zeroKept, .int oneKept, .ref d4, .ref d5, .int seen, .int spot, .int kind, .int begin, .long letters, .int figures, .int value, .int plated, .int driven, .int rows, .ref d6, .ref d7, .ref d8, .ref d9, .ref d10, .ref d11, .ref d12, .ref d13, .int periods, .int leastPeriod])), (q1, .inl (Γ.2.1 0, 81, .inl sv))]
def f_X8_cells (sv : Nat → Int32) : Option Int32 := some ((sv 0) * (sv 1))
set_option maxHeartbeats 4000000 in
set_option maxRecDepth 100000 in
theorem c_X8_cells (l : Launch) (Γ : GE) (sz : Nat) (q0 q1 d0 d1 d2 d3 d4 d5 d6 d7 d8 d9 d10 d11 d12 d13 : Nat) (length : Int32) (undoMany : Int32) (zeroKept : Int32) (oneKept : Int32) (seen : Int32) (spot : Int32) (kind : Int32) (begin : Int32) (letters : Int64) (figures : Int32) (value : Int32) (plated : Int32) (driven : Int32) (rows : Int32) (periods : Int32) (leastPeriod : Int32) (sv : Nat → Int32) (ro : Int32) (hf : f_X8_cells sv = some ro) : MetI l yX8_cells wsX8_cells ({ frames := 0, cells := 0, slots := 0, locals := 0 } : Room) Γ [.ref q0] (wd_X8_cells Γ q0 q1 d0 d1 d2 d3 d4 d5 d6 d7 d8 d9 d10 d11 d12 d13 length undoMany zeroKept oneKept seen spot kind begin letters figures value plated driven rows periods leastPeriod sv) (wd_X8_cells Γ q0 q1 d0 d1 d2 d3 d4 d5 d6 d7 d8 d9 d10 d11 d12 d13 length undoMany zeroKept oneKept seen spot kind begin letters figures value plated driven rows periods leastPeriod sv) sz ro := by
  refine Met.ofW (cc := cX8_cells) (maxL := 1) (ret := (some .int)) (by decide) rfl ?_
  intro p e s m args below meth c s₁ B hml hv
  obtain ⟨rfl, hsz, hE, hP, hD⟩ := hv
  have hx := B.exec
  have hb := B.bytes
  have hr := B.returns
  have hts := atoms_spec (ws := wsX8_cells) B.pre
  have hown : s.vm.findClass RX8 = some m.cls := findClass_of_methodNamed B.named
  have hlocks := B.notSynchronized
  subst hsz
  generalize hAe : va_A (wd_X8_cells Γ q0 q1 d0 d1 d2 d3 d4 d5 d6 d7 d8 d9 d10 d11 d12 d13 length undoMany zeroKept oneKept seen spot kind begin letters figures value plated driven rows periods leastPeriod sv) s.heap.size = A at hE hD ⊢
  have hA : ∀ q : Nat, s.heap.size ≤ q → A q := fun q h => by rw [← hAe]; exact Or.inr h
  clear hAe
  have hS : va_S A s.heap s.heap [] := va_S.rf
  have hK := hE.1
  have hl := lv_entry ([.ref q0]) (n := 1) (Nat.le_of_ble_eq_true rfl)
  rw [lg_entry_eq]
  generalize (lg_sl ([.ref q0]) ++ List.replicate (1 - (lg_sl ([.ref q0])).length) Slot.unset).toArray = ls at hl ⊢
  have hl : lv_has ls 1 [(0, .ref q0)] := hl
  have hi8 : ∀ w ∈ u_ws RX8 TX8 31, w ∈ wsX8_cells := fun w h => (List.mem_cons_of_mem _ (List.mem_append_right _ h))
  obtain ⟨out, hout⟩ : ∃ o, o = ro := ⟨_, rfl⟩
  rw [← hout] at hf
  obtain ⟨QQ, hQQ⟩ : ∃ Q, Q = MQ below (va_Qi (fun (r' : Int32) (_ : Unit) => r' = ro) (CQ Γ (wd_X8_cells Γ q0 q1 d0 d1 d2 d3 d4 d5 d6 d7 d8 d9 d10 d11 d12 d13 length undoMany zeroKept oneKept seen spot kind begin letters figures value plated driven rows periods leastPeriod sv) A) A) (([.ref q0] : List Value).toArray) s 0 0 A := ⟨_, rfl⟩
  show W p l e ({ frames := 0, cells := 0, slots := 0, locals := 0 } : Room) s m (([.ref q0] : List Value).toArray) below meth c s.heap [] 0 0 (MQ below _ (([.ref q0] : List Value).toArray) s 0 0 A) (F0 m 0 ls [])
  rw [← hQQ]
  unfold f_X8_cells at hf
  refine lv_aload_n hx hb dX8_cells_0 rfl (lv_at hl 0 rfl) ?_
  refine va_get (D := Γ.1) (ci := 8) (v := .ref q1) (C := RX8) (T := TX8) (N := 31) hx hb hts hi8 hown hK hP 0 rfl rfl 2 (by decide) (hts (.fieldLink RX8 13 "SandPlatesModel" "s" "[I") (List.mem_of_getElem? (i := 1) rfl)) (fun _ h9 => h9) rfl dX8_cells_1 ?_
  refine lv_iconst (v := 0) hx hb dX8_cells_4 (by decide) ?_
  refine vm_iald hx hb hK hP 1 0 rfl rfl (by decide +kernel) (j := 0) rfl dX8_cells_5 ?_
  refine lv_aload_n hx hb dX8_cells_6 rfl (lv_at hl 0 rfl) ?_
  refine va_get (D := Γ.1) (ci := 8) (v := .ref q1) (C := RX8) (T := TX8) (N := 31) hx hb hts hi8 hown hK hP 0 rfl rfl 2 (by decide) (hts (.fieldLink RX8 13 "SandPlatesModel" "s" "[I") (List.mem_of_getElem? (i := 1) rfl)) (fun _ h9 => h9) rfl dX8_cells_7 ?_
  refine lv_iconst (v := 1) hx hb dX8_cells_10 (by decide) ?_
  refine vm_iald hx hb hK hP 1 0 rfl rfl (by decide +kernel) (j := 1) rfl dX8_cells_11 ?_
  refine lv_imul hx hb dX8_cells_12 ?_
  subst hout; obtain rfl := Option.some.inj hf
  subst hQQ
  exact W.iret hx hb hr (fun t ht hW => ⟨⟨_, (), rfl, rfl, by rw [ht]; exact hP, hD⟩, hS.F ht⟩) hS.2.2 dX8_cells_13
def wd_X8_next (Γ : GE) (q0 q1 d0 d1 d2 d3 d4 d5 d6 d7 d8 d9 d10 d11 d12 d13 : Nat) (length : Int32) (undoMany : Int32) (zeroKept : Int32) (oneKept : Int32) (seen : Int32) (spot : Int32) (kind : Int32) (begin : Int32) (letters : Int64) (figures : Int32) (value : Int32) (plated : Int32) (driven : Int32) (rows : Int32) (periods : Int32) (leastPeriod : Int32) (sv : Nat → Int32) : va_W := [(q0, .inr (8, [.int length, .ref d0, .ref q1, .ref d1, .ref d2, .int undoMany, .ref d3, .int zeroKept, .int oneKept, .ref d4, .ref d5, .int seen, .int spot, .int kind, .int begin, .long letters, .int figures, .int value, .int plated, .int driven, .int rows, .ref d6, .ref d7, .ref d8, .ref d9, .ref d10, .ref d11, .ref d12, .ref d13, .int periods, .int leastPeriod])), (q1, .inl (Γ.2.1 0, 81, .inl sv))]
def f_X8_next_125 (s0 : Int32) : Option Int32 := some s0
def f_X8_next_124  : Option Int32 := f_X8_next_125 (-1)
def f_X8_next_69 (sv : Nat → Int32) (x5 : Int32) (s0 : Int32) : Option Int32 := ob1 (f_X8_in ((x5).toInt64) 0 (((sv 0) - 1).toInt64)) (fun r_1 => if r_1 = 0 then f_X8_next_124 else (ob1 (f_X8_in ((s0).toInt64) 0 (((sv 1) - 1).toInt64)) (fun r_4 => if r_4 = 0 then f_X8_next_124 else (f_X8_next_125 (((sv 0) * s0) + x5)))))
def f_X8_next_42 (sv : Nat → Int32) (x2 : Int32) (x4 : Int32) (s0 : Int32) : Option Int32 := if x2 = 0 then (f_X8_next_69 sv s0 (x4 - 1)) else (if x2 = 2 then (f_X8_next_69 sv s0 (x4 + 1)) else (f_X8_next_69 sv s0 x4))
def f_X8_next (sv : Nat → Int32) (x1 : Int32) (x2 : Int32) : Option Int32 := if ¬ (sv 0) = 0 then if ¬ (sv 0) = 0 then if x2 = 1 then (f_X8_next_42 sv x2 (x1 / (sv 0)) ((vm_rem x1 (sv 0)) + 1)) else (if x2 = 3 then (f_X8_next_42 sv x2 (x1 / (sv 0)) ((vm_rem x1 (sv 0)) - 1)) else (f_X8_next_42 sv x2 (x1 / (sv 0)) (vm_rem x1 (sv 0)))) else none else none
set_option maxHeartbeats 4000000 in
set_option maxRecDepth 100000 in
theorem c_X8_next (l : Launch) (Γ : GE) (sz : Nat) (q0 q1 d0 d1 d2 d3 d4 d5 d6 d7 d8 d9 d10 d11 d12 d13 : Nat) (length : Int32) (undoMany : Int32) (zeroKept : Int32) (oneKept : Int32) (seen : Int32) (spot : Int32) (kind : Int32) (begin : Int32) (letters : Int64) (figures : Int32) (value : Int32) (plated : Int32) (driven : Int32) (rows : Int32) (periods : Int32) (leastPeriod : Int32) (sv : Nat → Int32) (x1 : Int32) (x2 : Int32) (ro : Int32) (hf : f_X8_next sv x1 x2 = some ro) : MetI l yX8_next wsX8_next ({ frames := 1, cells := 0, slots := 0, locals := 25 } : Room) Γ [.ref q0, .int x1, .int x2] (wd_X8_next Γ q0 q1 d0 d1 d2 d3 d4 d5 d6 d7 d8 d9 d10 d11 d12 d13 length undoMany zeroKept oneKept seen spot kind begin letters figures value plated driven rows periods leastPeriod sv) (wd_X8_next Γ q0 q1 d0 d1 d2 d3 d4 d5 d6 d7 d8 d9 d10 d11 d12 d13 length undoMany zeroKept oneKept seen spot kind begin letters figures value plated driven rows periods leastPeriod sv) sz ro := by
  refine Met.ofW (cc := cX8_next) (maxL := 7) (ret := (some .int)) (by decide) rfl ?_
  intro p e s m args below meth c s₁ B hml hv
  obtain ⟨rfl, hsz, hE, hP, hD⟩ := hv
  have hx := B.exec
  have hb := B.bytes
  have hr := B.returns
  have hts := atoms_spec (ws := wsX8_next) B.pre
  have hown : s.vm.findClass RX8 = some m.cls := findClass_of_methodNamed B.named
  have hlocks := B.notSynchronized
  subst hsz
  generalize hAe : va_A (wd_X8_next Γ q0 q1 d0 d1 d2 d3 d4 d5 d6 d7 d8 d9 d10 d11 d12 d13 length undoMany zeroKept oneKept seen spot kind begin letters figures value plated driven rows periods leastPeriod sv) s.heap.size = A at hE hD ⊢
  have hA : ∀ q : Nat, s.heap.size ≤ q → A q := fun q h => by rw [← hAe]; exact Or.inr h
  clear hAe
  have hS : va_S A s.heap s.heap [] := va_S.rf
  have hK := hE.1
  have hl := lv_entry ([.ref q0, .int x1, .int x2]) (n := 7) (Nat.le_of_ble_eq_true rfl)
  rw [lg_entry_eq]
  generalize (lg_sl ([.ref q0, .int x1, .int x2]) ++ List.replicate (7 - (lg_sl ([.ref q0, .int x1, .int x2])).length) Slot.unset).toArray = ls at hl ⊢
  have hl : lv_has ls 7 [(0, .ref q0), (1, .int x1), (2, .int x2)] := hl
  have hi8 : ∀ w ∈ u_ws RX8 TX8 31, w ∈ wsX8_next := fun w h => (List.mem_cons_of_mem _ (List.mem_append_right _ h))
  obtain ⟨out, hout⟩ : ∃ o, o = ro := ⟨_, rfl⟩
  rw [← hout] at hf
  obtain ⟨QQ, hQQ⟩ : ∃ Q, Q = MQ below (va_Qi (fun (r' : Int32) (_ : Unit) => r' = ro) (CQ Γ (wd_X8_next Γ q0 q1 d0 d1 d2 d3 d4 d5 d6 d7 d8 d9 d10 d11 d12 d13 length undoMany zeroKept oneKept seen spot kind begin letters figures value plated driven rows periods leastPeriod sv) A) A) (([.ref q0, .int x1, .int x2] : List Value).toArray) s 0 0 A := ⟨_, rfl⟩
  show W p l e ({ frames := 1, cells := 0, slots := 0, locals := 25 } : Room) s m (([.ref q0, .int x1, .int x2] : List Value).toArray) below meth c s.heap [] 0 0 (MQ below _ (([.ref q0, .int x1, .int x2] : List Value).toArray) s 0 0 A) (F0 m 0 ls [])
  rw [← hQQ]
  have K_125 : ∀ (s0 : Int32) {H : Heap} {locs : List Loc} {ls : Array Slot}, va_P Γ.1 vwCl (wd_X8_next Γ q0 q1 d0 d1 d2 d3 d4 d5 d6 d7 d8 d9 d10 d11 d12 d13 length undoMany zeroKept oneKept seen spot kind begin letters figures value plated driven rows periods leastPeriod sv) H → va_D A (wd_X8_next Γ q0 q1 d0 d1 d2 d3 d4 d5 d6 d7 d8 d9 d10 d11 d12 d13 length undoMany zeroKept oneKept seen spot kind begin letters figures value plated driven rows periods leastPeriod sv) → va_S A s.heap H locs → lv_has ls 7 [] → f_X8_next_125 s0 = some out → W p l e ({ frames := 1, cells := 0, slots := 0, locals := 25 } : Room) s m ([.ref q0, .int x1, .int x2] : List Value).toArray below meth c H locs 0 0 QQ (F0 m 125 ls [.int s0]) := by
    intro s0 H locs ls hP hD hS hl hf
    unfold f_X8_next_125 at hf
    subst hout; obtain rfl := Option.some.inj hf
    subst hQQ
    exact W.iret hx hb hr (fun t ht hW => ⟨⟨_, (), rfl, rfl, by rw [ht]; exact hP, hD⟩, hS.F ht⟩) hS.2.2 dX8_next_125
  have K_124 : ∀ {H : Heap} {locs : List Loc} {ls : Array Slot}, va_P Γ.1 vwCl (wd_X8_next Γ q0 q1 d0 d1 d2 d3 d4 d5 d6 d7 d8 d9 d10 d11 d12 d13 length undoMany zeroKept oneKept seen spot kind begin letters figures value plated driven rows periods leastPeriod sv) H → va_D A (wd_X8_next Γ q0 q1 d0 d1 d2 d3 d4 d5 d6 d7 d8 d9 d10 d11 d12 d13 length undoMany zeroKept oneKept seen spot kind begin letters figures value plated driven rows periods leastPeriod sv) → va_S A s.heap H locs → lv_has ls 7 [] → f_X8_next_124 = some out → W p l e ({ frames := 1, cells := 0, slots := 0, locals := 25 } : Room) s m ([.ref q0, .int x1, .int x2] : List Value).toArray below meth c H locs 0 0 QQ (F0 m 124 ls []) := by
    intro H locs ls hP hD hS hl hf
    unfold f_X8_next_124 at hf
    refine lv_iconst (v := (-1)) hx hb dX8_next_124 (by decide) ?_
    exact K_125 (-1) hP hD hS (lv_sub hl [] rfl) hf
  have K_69 : ∀ (x5 : Int32) (s0 : Int32) {H : Heap} {locs : List Loc} {ls : Array Slot}, va_P Γ.1 vwCl (wd_X8_next Γ q0 q1 d0 d1 d2 d3 d4 d5 d6 d7 d8 d9 d10 d11 d12 d13 length undoMany zeroKept oneKept seen spot kind begin letters figures value plated driven rows periods leastPeriod sv) H → va_D A (wd_X8_next Γ q0 q1 d0 d1 d2 d3 d4 d5 d6 d7 d8 d9 d10 d11 d12 d13 length undoMany zeroKept oneKept seen spot kind begin letters figures value plated driven rows periods leastPeriod sv) → va_S A s.heap H locs → lv_has ls 7 [(0, .ref q0), (5, .int x5)] → f_X8_next_69 sv x5 s0 = some out → W p l e ({ frames := 1, cells := 0, slots := 0, locals := 25 } : Room) s m ([.ref q0, .int x1, .int x2] : List Value).toArray below meth c H locs 0 0 QQ (F0 m 69 ls [.int s0]) := by
    intro x5 s0 H locs ls hP hD hS hl hf
    unfold f_X8_next_69 at hf
    refine lv_istore (lv' := [(6, .int s0), (0, .ref q0), (5, .int x5)]) hx hb dX8_next_69 hl (by decide) rfl (fun ls hl => ?_)
    refine lv_iload hx hb dX8_next_71 (lv_at hl 2 rfl) ?_
    refine lv_i2l hx hb dX8_next_73 rfl ?_
    refine lv_lconst (v := 0) hx hb dX8_next_74 (by decide) ?_
    refine lv_aload_n hx hb dX8_next_75 rfl (lv_at hl 1 rfl) ?_
    refine va_get (D := Γ.1) (ci := 8) (v := .ref q1) (C := RX8) (T := TX8) (N := 31) hx hb hts hi8 hown hK hP 0 rfl rfl 2 (by decide) (hts (.fieldLink RX8 13 "SandPlatesModel" "s" "[I") (List.mem_of_getElem? (i := 1) rfl)) (fun _ h9 => h9) rfl dX8_next_76 ?_
    refine lv_iconst (v := 0) hx hb dX8_next_79 (by decide) ?_
    refine vm_iald hx hb hK hP 1 0 rfl rfl (by decide +kernel) (j := 0) rfl dX8_next_80 ?_
    refine lv_iconst (v := 1) hx hb dX8_next_81 (by decide) ?_
    refine lv_isub hx hb dX8_next_82 ?_
    refine lv_i2l hx hb dX8_next_83 rfl ?_
    obtain ⟨r_1, hq_2, hf⟩ := ob1_some hf
    refine vm_cSi (isC := []) (wc := (wd_X8_in Γ)) (w1 := (wd_X8_in Γ)) (As := [.long ((x5).toInt64), .long 0, .long (((sv 0) - 1).toInt64)]) (rest := []) ⟨hx, hb, hml, hown, hts⟩ hE hP hD hS hA rfl rfl rfl (c_X8_in l Γ _ ((x5).toInt64) 0 (((sv 0) - 1).toInt64) r_1 hq_2) (va_cwS 3 hts gX8_next_X8_in rfl rfl rfl (by decide +kernel) ⟨Nat.le_of_ble_eq_true rfl, Nat.le_of_ble_eq_true rfl⟩) rfl hl.1 rfl (Nat.le_of_ble_eq_true rfl) dX8_next_84 ⟨Nat.zero_le _, Nat.zero_le _⟩ (fun H locs hP hD hS => ?_)
    have hP : va_P Γ.1 vwCl (wd_X8_next Γ q0 q1 d0 d1 d2 d3 d4 d5 d6 d7 d8 d9 d10 d11 d12 d13 length undoMany zeroKept oneKept seen spot kind begin letters figures value plated driven rows periods leastPeriod sv) H := hP
    have hD : va_D A (wd_X8_next Γ q0 q1 d0 d1 d2 d3 d4 d5 d6 d7 d8 d9 d10 d11 d12 d13 length undoMany zeroKept oneKept seen spot kind begin letters figures value plated driven rows periods leastPeriod sv) := hD
    refine lv_if_eq (tgt := 124) hx hb dX8_next_87 (by decide) (fun hc_3 => ?_) (fun hc_3 => ?_)
    · have hf := vm_pos hc_3 hf
      exact K_124  hP hD hS (lv_sub hl [] rfl) hf
    · have hf := vm_neg hc_3 hf
      refine lv_iload hx hb dX8_next_90 (lv_at hl 0 rfl) ?_
      refine lv_i2l hx hb dX8_next_92 rfl ?_
      refine lv_lconst (v := 0) hx hb dX8_next_93 (by decide) ?_
      refine lv_aload_n hx hb dX8_next_94 rfl (lv_at hl 1 rfl) ?_
      refine va_get (D := Γ.1) (ci := 8) (v := .ref q1) (C := RX8) (T := TX8) (N := 31) hx hb hts hi8 hown hK hP 0 rfl rfl 2 (by decide) (hts (.fieldLink RX8 13 "SandPlatesModel" "s" "[I") (List.mem_of_getElem? (i := 1) rfl)) (fun _ h9 => h9) rfl dX8_next_95 ?_
      refine lv_iconst (v := 1) hx hb dX8_next_98 (by decide) ?_
      refine vm_iald hx hb hK hP 1 0 rfl rfl (by decide +kernel) (j := 1) rfl dX8_next_99 ?_
      refine lv_iconst (v := 1) hx hb dX8_next_100 (by decide) ?_
      refine lv_isub hx hb dX8_next_101 ?_
      refine lv_i2l hx hb dX8_next_102 rfl ?_
      obtain ⟨r_4, hq_5, hf⟩ := ob1_some hf
      refine vm_cSi (isC := []) (wc := (wd_X8_in Γ)) (w1 := (wd_X8_in Γ)) (As := [.long ((s0).toInt64), .long 0, .long (((sv 1) - 1).toInt64)]) (rest := []) ⟨hx, hb, hml, hown, hts⟩ hE hP hD hS hA rfl rfl rfl (c_X8_in l Γ _ ((s0).toInt64) 0 (((sv 1) - 1).toInt64) r_4 hq_5) (va_cwS 3 hts gX8_next_X8_in rfl rfl rfl (by decide +kernel) ⟨Nat.le_of_ble_eq_true rfl, Nat.le_of_ble_eq_true rfl⟩) rfl hl.1 rfl (Nat.le_of_ble_eq_true rfl) dX8_next_103 ⟨Nat.zero_le _, Nat.zero_le _⟩ (fun H locs hP hD hS => ?_)
      have hP : va_P Γ.1 vwCl (wd_X8_next Γ q0 q1 d0 d1 d2 d3 d4 d5 d6 d7 d8 d9 d10 d11 d12 d13 length undoMany zeroKept oneKept seen spot kind begin letters figures value plated driven rows periods leastPeriod sv) H := hP
      have hD : va_D A (wd_X8_next Γ q0 q1 d0 d1 d2 d3 d4 d5 d6 d7 d8 d9 d10 d11 d12 d13 length undoMany zeroKept oneKept seen spot kind begin letters figures value plated driven rows periods leastPeriod sv) := hD
      refine lv_if_eq (tgt := 124) hx hb dX8_next_106 (by decide) (fun hc_6 => ?_) (fun hc_6 => ?_)
      · have hf := vm_pos hc_6 hf
        exact K_124  hP hD hS (lv_sub hl [] rfl) hf
      · have hf := vm_neg hc_6 hf
        refine lv_aload_n hx hb dX8_next_109 rfl (lv_at hl 1 rfl) ?_
        refine va_get (D := Γ.1) (ci := 8) (v := .ref q1) (C := RX8) (T := TX8) (N := 31) hx hb hts hi8 hown hK hP 0 rfl rfl 2 (by decide) (hts (.fieldLink RX8 13 "SandPlatesModel" "s" "[I") (List.mem_of_getElem? (i := 1) rfl)) (fun _ h9 => h9) rfl dX8_next_110 ?_
        refine lv_iconst (v := 0) hx hb dX8_next_113 (by decide) ?_
        refine vm_iald hx hb hK hP 1 0 rfl rfl (by decide +kernel) (j := 0) rfl dX8_next_114 ?_
        refine lv_iload hx hb dX8_next_115 (lv_at hl 0 rfl) ?_
        refine lv_imul hx hb dX8_next_117 ?_
        refine lv_iload hx hb dX8_next_118 (lv_at hl 2 rfl) ?_
        refine lv_iadd hx hb dX8_next_120 ?_
        refine lv_goto (tgt := 125) hx hb dX8_next_121 (by decide) ?_
        exact K_125 (((sv 0) * s0) + x5) hP hD hS (lv_sub hl [] rfl) hf
  have K_42 : ∀ (x4 : Int32) (s0 : Int32) {H : Heap} {locs : List Loc} {ls : Array Slot}, va_P Γ.1 vwCl (wd_X8_next Γ q0 q1 d0 d1 d2 d3 d4 d5 d6 d7 d8 d9 d10 d11 d12 d13 length undoMany zeroKept oneKept seen spot kind begin letters figures value plated driven rows periods leastPeriod sv) H → va_D A (wd_X8_next Γ q0 q1 d0 d1 d2 d3 d4 d5 d6 d7 d8 d9 d10 d11 d12 d13 length undoMany zeroKept oneKept seen spot kind begin letters figures value plated driven rows periods leastPeriod sv) → va_S A s.heap H locs → lv_has ls 7 [(0, .ref q0), (2, .int x2), (4, .int x4)] → f_X8_next_42 sv x2 x4 s0 = some out → W p l e ({ frames := 1, cells := 0, slots := 0, locals := 25 } : Room) s m ([.ref q0, .int x1, .int x2] : List Value).toArray below meth c H locs 0 0 QQ (F0 m 42 ls [.int s0]) := by
    intro x4 s0 H locs ls hP hD hS hl hf
    unfold f_X8_next_42 at hf
    refine lv_istore (lv' := [(5, .int s0), (0, .ref q0), (2, .int x2), (4, .int x4)]) hx hb dX8_next_42 hl (by decide) rfl (fun ls hl => ?_)
    refine lv_iload_n hx hb dX8_next_44 rfl (lv_at hl 2 rfl) ?_
    refine lv_if_ne (tgt := 55) hx hb dX8_next_45 (by decide) (fun hc_7 => ?_) (fun hc_7 => ?_)
    · have hf := vm_neg hc_7 hf
      refine lv_iload_n hx hb dX8_next_55 rfl (lv_at hl 2 rfl) ?_
      refine lv_iconst (v := 2) hx hb dX8_next_56 (by decide) ?_
      refine lv_icmp_ne (tgt := 67) hx hb dX8_next_57 (by decide) (fun hc_8 => ?_) (fun hc_8 => ?_)
      · have hf := vm_neg hc_8 hf
        refine lv_iload hx hb dX8_next_67 (lv_at hl 3 rfl) ?_
        exact K_69 s0 x4 hP hD hS (lv_sub hl [1, 0] rfl) hf
      · have hf := vm_pos hc_8 hf
        refine lv_iload hx hb dX8_next_60 (lv_at hl 3 rfl) ?_
        refine lv_iconst (v := 1) hx hb dX8_next_62 (by decide) ?_
        refine lv_iadd hx hb dX8_next_63 ?_
        refine lv_goto (tgt := 69) hx hb dX8_next_64 (by decide) ?_
        exact K_69 s0 (x4 + 1) hP hD hS (lv_sub hl [1, 0] rfl) hf
    · have hf := vm_pos hc_7 hf
      refine lv_iload hx hb dX8_next_48 (lv_at hl 3 rfl) ?_
      refine lv_iconst (v := 1) hx hb dX8_next_50 (by decide) ?_
      refine lv_isub hx hb dX8_next_51 ?_
      refine lv_goto (tgt := 69) hx hb dX8_next_52 (by decide) ?_
      exact K_69 s0 (x4 - 1) hP hD hS (lv_sub hl [1, 0] rfl) hf
  unfold f_X8_next at hf
  refine lv_iload_n hx hb dX8_next_0 rfl (lv_at hl 1 rfl) ?_
  refine lv_aload_n hx hb dX8_next_1 rfl (lv_at hl 0 rfl) ?_
  refine va_get (D := Γ.1) (ci := 8) (v := .ref q1) (C := RX8) (T := TX8) (N := 31) hx hb hts hi8 hown hK hP 0 rfl rfl 2 (by decide) (hts (.fieldLink RX8 13 "SandPlatesModel" "s" "[I") (List.mem_of_getElem? (i := 1) rfl)) (fun _ h9 => h9) rfl dX8_next_2 ?_
  refine lv_iconst (v := 0) hx hb dX8_next_5 (by decide) ?_
  refine vm_iald hx hb hK hP 1 0 rfl rfl (by decide +kernel) (j := 0) rfl dX8_next_6 ?_
  obtain ⟨hc_9, hf⟩ := vm_ck hf
  refine lv_irem hx hb dX8_next_7 hc_9 ?_
  refine lv_istore_n (lv' := [(3, .int (vm_rem x1 (sv 0))), (0, .ref q0), (1, .int x1), (2, .int x2)]) hx hb dX8_next_8 rfl hl (by decide) rfl (fun ls hl => ?_)
  refine lv_iload_n hx hb dX8_next_9 rfl (lv_at hl 2 rfl) ?_
  refine lv_aload_n hx hb dX8_next_10 rfl (lv_at hl 1 rfl) ?_
  refine va_get (D := Γ.1) (ci := 8) (v := .ref q1) (C := RX8) (T := TX8) (N := 31) hx hb hts hi8 hown hK hP 0 rfl rfl 2 (by decide) (hts (.fieldLink RX8 13 "SandPlatesModel" "s" "[I") (List.mem_of_getElem? (i := 1) rfl)) (fun _ h9 => h9) rfl dX8_next_11 ?_
  refine lv_iconst (v := 0) hx hb dX8_next_14 (by decide) ?_
  refine vm_iald hx hb hK hP 1 0 rfl rfl (by decide +kernel) (j := 0) rfl dX8_next_15 ?_
  obtain ⟨hc_10, hf⟩ := vm_ck hf
  refine lv_idiv hx hb dX8_next_16 hc_10 ?_
  refine lv_istore (lv' := [(4, .int (x1 / (sv 0))), (3, .int (vm_rem x1 (sv 0))), (0, .ref q0), (1, .int x1), (2, .int x2)]) hx hb dX8_next_17 hl (by decide) rfl (fun ls hl => ?_)
  refine lv_iload_n hx hb dX8_next_19 rfl (lv_at hl 4 rfl) ?_
  refine lv_iconst (v := 1) hx hb dX8_next_20 (by decide) ?_
  refine lv_icmp_ne (tgt := 30) hx hb dX8_next_21 (by decide) (fun hc_11 => ?_) (fun hc_11 => ?_)
  · have hf := vm_neg hc_11 hf
    refine lv_iload_n hx hb dX8_next_30 rfl (lv_at hl 4 rfl) ?_
    refine lv_iconst (v := 3) hx hb dX8_next_31 (by decide) ?_
    refine lv_icmp_ne (tgt := 41) hx hb dX8_next_32 (by decide) (fun hc_12 => ?_) (fun hc_12 => ?_)
    · have hf := vm_neg hc_12 hf
      refine lv_iload_n hx hb dX8_next_41 rfl (lv_at hl 1 rfl) ?_
      exact K_42 (x1 / (sv 0)) (vm_rem x1 (sv 0)) hP hD hS (lv_sub hl [2, 4, 0] rfl) hf
    · have hf := vm_pos hc_12 hf
      refine lv_iload_n hx hb dX8_next_35 rfl (lv_at hl 1 rfl) ?_
      refine lv_iconst (v := 1) hx hb dX8_next_36 (by decide) ?_
      refine lv_isub hx hb dX8_next_37 ?_
      refine lv_goto (tgt := 42) hx hb dX8_next_38 (by decide) ?_
      exact K_42 (x1 / (sv 0)) ((vm_rem x1 (sv 0)) - 1) hP hD hS (lv_sub hl [2, 4, 0] rfl) hf
  · have hf := vm_pos hc_11 hf
    refine lv_iload_n hx hb dX8_next_24 rfl (lv_at hl 1 rfl) ?_
    refine lv_iconst (v := 1) hx hb dX8_next_25 (by decide) ?_
    refine lv_iadd hx hb dX8_next_26 ?_
    refine lv_goto (tgt := 42) hx hb dX8_next_27 (by decide) ?_
    exact K_42 (x1 / (sv 0)) ((vm_rem x1 (sv 0)) + 1) hP hD hS (lv_sub hl [2, 4, 0] rfl) hf
def wd_X8_pull (Γ : GE) (q0 q1 q2 d0 d1 d2 d3 d4 d5 d6 d7 d8 d9 d10 d11 d12 : Nat) (length : Int32) (undoMany : Int32) (zeroKept : Int32) (oneKept : Int32) (seen : Int32) (spot : Int32) (kind : Int32) (begin : Int32) (letters : Int64) (figures : Int32) (value : Int32) (plated : Int32) (driven : Int32) (rows : Int32) (periods : Int32) (leastPeriod : Int32) (sv : Nat → Int32) (height : Nat → Int32) : va_W := [(q0, .inr (8, [.int length, .ref d0, .ref q1, .ref d1, .ref d2, .int undoMany, .ref d3, .int zeroKept, .int oneKept, .ref d4, .ref d5, .int seen, .int spot, .int kind, .int begin, .long letters, .int figures, .int value, .int plated, .int driven, .int rows, .ref q2, .ref d6, .ref d7, .ref d8, .ref d9, .ref d10, .ref d11, .ref d12, .int periods, .int leastPeriod])), (q1, .inl (Γ.2.1 0, 81, .inl sv)), (q2, .inl (Γ.2.1 0, 36, .inl height))]
def f_X8_pull_69 (x2 : Int32) : Option Int32 := some x2
def f_X8_pull_61 (sv : Nat → Int32) (height : Nat → Int32) (x1 : Int32) (x3 : Int32) (s0 : Int32) (s1 : Int32) (k : ((Int32 × Int32) → Option Int32)) : Option Int32 := k ((s0 + s1), (x3 + 1))
def f_X8_pull_12b (sv : Nat → Int32) (height : Nat → Int32) (x1 : Int32) (x2 : Int32) (x3 : Int32) (k : ((Int32 × Int32) → Option Int32)) : Option Int32 := if 4 ≤ x3 then (some x2) else (ob1 (f_X8_next sv x1 x3) (fun r_2 => if r_2 < 0 then (if (sv 2) = 1 then (if inb x1 36 = true then f_X8_pull_61 sv height x1 x3 x2 (height (x1.toNatClampNeg)) k else none) else (f_X8_pull_61 sv height x1 x3 x2 0 k)) else (if inb r_2 36 = true then f_X8_pull_61 sv height x1 x3 x2 (height (r_2.toNatClampNeg)) k else none)))
def f_X8_pull_12s (sv : Nat → Int32) (height : Nat → Int32) (x1 : Int32) : (Int32 × Int32) → ((Int32 × Int32) → Option Int32) → Option Int32 := fun t k => f_X8_pull_12b sv height x1 t.1 t.2 k
def f_X8_pull_12 (sv : Nat → Int32) (height : Nat → Int32) (x1 : Int32) (x2 : Int32) (x3 : Int32) : Option Int32 := obx (vm_it (f_X8_pull_12s sv height x1) FU (x2, x3)) (fun x2 => f_X8_pull_69 x2)
def f_X8_pull (sv : Nat → Int32) (height : Nat → Int32) (x1 : Int32) : Option Int32 := if inb x1 36 = true then f_X8_pull_12 sv height x1 ((-4) * (height (x1.toNatClampNeg))) 0 else none
set_option maxHeartbeats 4000000 in
set_option maxRecDepth 100000 in
theorem c_X8_pull (l : Launch) (Γ : GE) (sz : Nat) (q0 q1 q2 d0 d1 d2 d3 d4 d5 d6 d7 d8 d9 d10 d11 d12 : Nat) (length : Int32) (undoMany : Int32) (zeroKept : Int32) (oneKept : Int32) (seen : Int32) (spot : Int32) (kind : Int32) (begin : Int32) (letters : Int64) (figures : Int32) (value : Int32) (plated : Int32) (driven : Int32) (rows : Int32) (periods : Int32) (leastPeriod : Int32) (sv : Nat → Int32) (height : Nat → Int32) (x1 : Int32) (ro : Int32) (hf : f_X8_pull sv height x1 = some ro) : MetI l yX8_pull wsX8_pull ({ frames := 2, cells := 0, slots := 0, locals := 51 } : Room) Γ [.ref q0, .int x1] (wd_X8_pull Γ q0 q1 q2 d0 d1 d2 d3 d4 d5 d6 d7 d8 d9 d10 d11 d12 length undoMany zeroKept oneKept seen spot kind begin letters figures value plated driven rows periods leastPeriod sv height) (wd_X8_pull Γ q0 q1 q2 d0 d1 d2 d3 d4 d5 d6 d7 d8 d9 d10 d11 d12 length undoMany zeroKept oneKept seen spot kind begin letters figures value plated driven rows periods leastPeriod sv height) sz ro := by
  refine Met.ofW (cc := cX8_pull) (maxL := 5) (ret := (some .int)) (by decide) rfl ?_
  intro p e s m args below meth c s₁ B hml hv
  obtain ⟨rfl, hsz, hE, hP, hD⟩ := hv
  have hx := B.exec
  have hb := B.bytes
  have hr := B.returns
  have hts := atoms_spec (ws := wsX8_pull) B.pre
  have hown : s.vm.findClass RX8 = some m.cls := findClass_of_methodNamed B.named
  have hlocks := B.notSynchronized
  subst hsz
  generalize hAe : va_A (wd_X8_pull Γ q0 q1 q2 d0 d1 d2 d3 d4 d5 d6 d7 d8 d9 d10 d11 d12 length undoMany zeroKept oneKept seen spot kind begin letters figures value plated driven rows periods leastPeriod sv height) s.heap.size = A at hE hD ⊢
  have hA : ∀ q : Nat, s.heap.size ≤ q → A q := fun q h => by rw [← hAe]; exact Or.inr h
  clear hAe
  have hS : va_S A s.heap s.heap [] := va_S.rf
  have hK := hE.1
  have hl := lv_entry ([.ref q0, .int x1]) (n := 5) (Nat.le_of_ble_eq_true rfl)
  rw [lg_entry_eq]
  generalize (lg_sl ([.ref q0, .int x1]) ++ List.replicate (5 - (lg_sl ([.ref q0, .int x1])).length) Slot.unset).toArray = ls at hl ⊢
  have hl : lv_has ls 5 [(0, .ref q0), (1, .int x1)] := hl
  have hi8 : ∀ w ∈ u_ws RX8 TX8 31, w ∈ wsX8_pull := fun w h => (List.mem_cons_of_mem _ (List.mem_append_right _ h))
  obtain ⟨out, hout⟩ : ∃ o, o = ro := ⟨_, rfl⟩
  rw [← hout] at hf
  obtain ⟨QQ, hQQ⟩ : ∃ Q, Q = MQ below (va_Qi (fun (r' : Int32) (_ : Unit) => r' = ro) (CQ Γ (wd_X8_pull Γ q0 q1 q2 d0 d1 d2 d3 d4 d5 d6 d7 d8 d9 d10 d11 d12 length undoMany zeroKept oneKept seen spot kind begin letters figures value plated driven rows periods leastPeriod sv height) A) A) (([.ref q0, .int x1] : List Value).toArray) s 0 0 A := ⟨_, rfl⟩
  show W p l e ({ frames := 2, cells := 0, slots := 0, locals := 51 } : Room) s m (([.ref q0, .int x1] : List Value).toArray) below meth c s.heap [] 0 0 (MQ below _ (([.ref q0, .int x1] : List Value).toArray) s 0 0 A) (F0 m 0 ls [])
  rw [← hQQ]
  have K_69 : ∀ (x2 : Int32) {H : Heap} {locs : List Loc} {ls : Array Slot}, va_P Γ.1 vwCl (wd_X8_pull Γ q0 q1 q2 d0 d1 d2 d3 d4 d5 d6 d7 d8 d9 d10 d11 d12 length undoMany zeroKept oneKept seen spot kind begin letters figures value plated driven rows periods leastPeriod sv height) H → va_D A (wd_X8_pull Γ q0 q1 q2 d0 d1 d2 d3 d4 d5 d6 d7 d8 d9 d10 d11 d12 length undoMany zeroKept oneKept seen spot kind begin letters figures value plated driven rows periods leastPeriod sv height) → va_S A s.heap H locs → lv_has ls 5 [(2, .int x2)] → f_X8_pull_69 x2 = some out → W p l e ({ frames := 2, cells := 0, slots := 0, locals := 51 } : Room) s m ([.ref q0, .int x1] : List Value).toArray below meth c H locs 0 0 QQ (F0 m 69 ls []) := by
    intro x2 H locs ls hP hD hS hl hf
    unfold f_X8_pull_69 at hf
    refine lv_iload_n hx hb dX8_pull_69 rfl (lv_at hl 0 rfl) ?_
    subst hout; obtain rfl := Option.some.inj hf
    subst hQQ
    exact W.iret hx hb hr (fun t ht hW => ⟨⟨_, (), rfl, rfl, by rw [ht]; exact hP, hD⟩, hS.F ht⟩) hS.2.2 dX8_pull_70
  have K_12 : ∀ (x2 : Int32) (x3 : Int32) {H : Heap} {locs : List Loc} {ls : Array Slot}, va_P Γ.1 vwCl (wd_X8_pull Γ q0 q1 q2 d0 d1 d2 d3 d4 d5 d6 d7 d8 d9 d10 d11 d12 length undoMany zeroKept oneKept seen spot kind begin letters figures value plated driven rows periods leastPeriod sv height) H → va_D A (wd_X8_pull Γ q0 q1 q2 d0 d1 d2 d3 d4 d5 d6 d7 d8 d9 d10 d11 d12 length undoMany zeroKept oneKept seen spot kind begin letters figures value plated driven rows periods leastPeriod sv height) → va_S A s.heap H locs → lv_has ls 5 [(0, .ref q0), (1, .int x1), (2, .int x2), (3, .int x3)] → f_X8_pull_12 sv height x1 x2 x3 = some out → W p l e ({ frames := 2, cells := 0, slots := 0, locals := 51 } : Room) s m ([.ref q0, .int x1] : List Value).toArray below meth c H locs 0 0 QQ (F0 m 12 ls []) := by
    intro x2 x3 H locs ls hP hD hS hl hf
    unfold f_X8_pull_12 at hf
    obtain ⟨ex12, h1, hX12⟩ := obx_some hf
    have LP : ∀ (n : Nat) (x2 : Int32) (x3 : Int32)  {H : Heap} {locs : List Loc} {ls : Array Slot}, va_P Γ.1 vwCl (wd_X8_pull Γ q0 q1 q2 d0 d1 d2 d3 d4 d5 d6 d7 d8 d9 d10 d11 d12 length undoMany zeroKept oneKept seen spot kind begin letters figures value plated driven rows periods leastPeriod sv height) H → va_D A (wd_X8_pull Γ q0 q1 q2 d0 d1 d2 d3 d4 d5 d6 d7 d8 d9 d10 d11 d12 length undoMany zeroKept oneKept seen spot kind begin letters figures value plated driven rows periods leastPeriod sv height) → va_S A s.heap H locs → lv_has ls 5 [(0, .ref q0), (1, .int x1), (2, .int x2), (3, .int x3)] → vm_it (f_X8_pull_12s sv height x1) n (x2, x3) = some ex12 → W p l e ({ frames := 2, cells := 0, slots := 0, locals := 51 } : Room) s m ([.ref q0, .int x1] : List Value).toArray below meth c H locs 0 0 QQ (F0 m 12 ls []) := by
      clear hP hD hS hl hf h1
      intro n
      induction n with
      | zero => intro x2 x3 H locs ls hP hD hS hl hf; exact (vm_it_0 hf).elim
      | succ n ih =>
        intro x2 x3 H locs ls hP hD hS hl hf
        have hf : f_X8_pull_12b sv height x1 x2 x3 (vm_it (f_X8_pull_12s sv height x1) n) = some ex12 := hf
        have K_61 : ∀ (x3 : Int32) (s0 : Int32) (s1 : Int32) {H : Heap} {locs : List Loc} {ls : Array Slot}, va_P Γ.1 vwCl (wd_X8_pull Γ q0 q1 q2 d0 d1 d2 d3 d4 d5 d6 d7 d8 d9 d10 d11 d12 length undoMany zeroKept oneKept seen spot kind begin letters figures value plated driven rows periods leastPeriod sv height) H → va_D A (wd_X8_pull Γ q0 q1 q2 d0 d1 d2 d3 d4 d5 d6 d7 d8 d9 d10 d11 d12 length undoMany zeroKept oneKept seen spot kind begin letters figures value plated driven rows periods leastPeriod sv height) → va_S A s.heap H locs → lv_has ls 5 [(0, .ref q0), (1, .int x1), (3, .int x3)] → f_X8_pull_61 sv height x1 x3 s0 s1 (vm_it (f_X8_pull_12s sv height x1) n) = some ex12 → W p l e ({ frames := 2, cells := 0, slots := 0, locals := 51 } : Room) s m ([.ref q0, .int x1] : List Value).toArray below meth c H locs 0 0 QQ (F0 m 61 ls [.int s1, .int s0]) := by
          intro x3 s0 s1 H locs ls hP hD hS hl hf
          unfold f_X8_pull_61 at hf
          refine lv_iadd hx hb dX8_pull_61 ?_
          refine lv_istore_n (lv' := [(2, .int (s0 + s1)), (0, .ref q0), (1, .int x1), (3, .int x3)]) hx hb dX8_pull_62 rfl hl (by decide) rfl (fun ls hl => ?_)
          refine lv_iinc (v := (x3 + 1)) (lv' := [(3, .int (x3 + 1)), (2, .int (s0 + s1)), (0, .ref q0), (1, .int x1)]) hx hb dX8_pull_63 hl (k := 3) rfl rfl (by decide) rfl (fun ls hl => ?_)
          refine lv_goto (tgt := 12) hx hb dX8_pull_66 (by decide) ?_
          exact ih (s0 + s1) (x3 + 1) hP hD hS (lv_sub hl [2, 3, 1, 0] rfl) hf
        unfold f_X8_pull_12b at hf
        refine lv_iload_n hx hb dX8_pull_12 rfl (lv_at hl 3 rfl) ?_
        refine lv_iconst (v := 4) hx hb dX8_pull_13 (by decide) ?_
        refine lv_icmp_ge (tgt := 69) hx hb dX8_pull_14 (by decide) (fun hc_1 => ?_) (fun hc_1 => ?_)
        · have hf := vm_pos hc_1 hf
          have hX := hX12
          rw [← Option.some.inj hf] at hX
          exact K_69 x2 hP hD hS (lv_sub hl [2] rfl) hX
        · have hf := vm_neg hc_1 hf
          refine lv_aload_n hx hb dX8_pull_17 rfl (lv_at hl 0 rfl) ?_
          refine lv_iload_n hx hb dX8_pull_18 rfl (lv_at hl 1 rfl) ?_
          refine lv_iload_n hx hb dX8_pull_19 rfl (lv_at hl 3 rfl) ?_
          obtain ⟨r_2, hq_3, hf⟩ := ob1_some hf
          refine vm_cVi (isC := [0, 1]) (wc := (wd_X8_next Γ q0 q1 d0 d1 d2 d3 d4 d5 q2 d6 d7 d8 d9 d10 d11 d12 length undoMany zeroKept oneKept seen spot kind begin letters figures value plated driven rows periods leastPeriod sv)) (w1 := (wd_X8_next Γ q0 q1 d0 d1 d2 d3 d4 d5 q2 d6 d7 d8 d9 d10 d11 d12 length undoMany zeroKept oneKept seen spot kind begin letters figures value plated driven rows periods leastPeriod sv)) (As := [.int x1, .int x3]) (rest := []) ⟨hx, hb, hml, hown, hts⟩ hE hP hD hS hA rfl rfl rfl (c_X8_next l Γ _ q0 q1 d0 d1 d2 d3 d4 d5 q2 d6 d7 d8 d9 d10 d11 d12 length undoMany zeroKept oneKept seen spot kind begin letters figures value plated driven rows periods leastPeriod sv x1 x3 r_2 hq_3) (cwV 2 hts gX8_pull_X8_next rfl rfl rfl (by decide +kernel) ⟨Nat.le_of_ble_eq_true rfl, Nat.le_of_ble_eq_true rfl⟩) (va_recv (ci := 8) (q0 := 0) hK hP rfl rfl) rfl hl.1 rfl (Nat.le_of_ble_eq_true rfl) dX8_pull_20 ⟨Nat.zero_le _, Nat.zero_le _⟩ (fun H locs hP hD hS => ?_)
          have hP : va_P Γ.1 vwCl (wd_X8_pull Γ q0 q1 q2 d0 d1 d2 d3 d4 d5 d6 d7 d8 d9 d10 d11 d12 length undoMany zeroKept oneKept seen spot kind begin letters figures value plated driven rows periods leastPeriod sv height) H := hP
          have hD : va_D A (wd_X8_pull Γ q0 q1 q2 d0 d1 d2 d3 d4 d5 d6 d7 d8 d9 d10 d11 d12 length undoMany zeroKept oneKept seen spot kind begin letters figures value plated driven rows periods leastPeriod sv height) := hD
          refine lv_istore (lv' := [(4, .int r_2), (0, .ref q0), (1, .int x1), (2, .int x2), (3, .int x3)]) hx hb dX8_pull_23 hl (by decide) rfl (fun ls hl => ?_)
          refine lv_iload_n hx hb dX8_pull_25 rfl (lv_at hl 3 rfl) ?_
          refine lv_iload hx hb dX8_pull_26 (lv_at hl 0 rfl) ?_
          refine lv_if_lt (tgt := 41) hx hb dX8_pull_28 (by decide) (fun hc_4 => ?_) (fun hc_4 => ?_)
          · have hf := vm_pos hc_4 hf
            refine lv_aload_n hx hb dX8_pull_41 rfl (lv_at hl 1 rfl) ?_
            refine va_get (D := Γ.1) (ci := 8) (v := .ref q1) (C := RX8) (T := TX8) (N := 31) hx hb hts hi8 hown hK hP 0 rfl rfl 2 (by decide) (hts (.fieldLink RX8 13 "SandPlatesModel" "s" "[I") (List.mem_of_getElem? (i := 2) rfl)) (fun _ h9 => h9) rfl dX8_pull_42 ?_
            refine lv_iconst (v := 2) hx hb dX8_pull_45 (by decide) ?_
            refine vm_iald hx hb hK hP 1 0 rfl rfl (by decide +kernel) (j := 2) rfl dX8_pull_46 ?_
            refine lv_iconst (v := 1) hx hb dX8_pull_47 (by decide) ?_
            refine lv_icmp_ne (tgt := 60) hx hb dX8_pull_48 (by decide) (fun hc_5 => ?_) (fun hc_5 => ?_)
            · have hf := vm_neg hc_5 hf
              refine lv_iconst (v := 0) hx hb dX8_pull_60 (by decide) ?_
              exact K_61 x3 x2 0 hP hD hS (lv_sub hl [1, 2, 4] rfl) hf
            · have hf := vm_pos hc_5 hf
              refine lv_aload_n hx hb dX8_pull_51 rfl (lv_at hl 1 rfl) ?_
              refine va_get (D := Γ.1) (ci := 8) (v := .ref q2) (C := RX8) (T := TX8) (N := 31) hx hb hts hi8 hown hK hP 0 rfl rfl 21 (by decide) (hts (.fieldLink RX8 31 "SandPlatesModel" "height" "[I") (List.mem_of_getElem? (i := 1) rfl)) (fun _ h9 => h9) rfl dX8_pull_52 ?_
              refine lv_iload_n hx hb dX8_pull_55 rfl (lv_at hl 2 rfl) ?_
              obtain ⟨hc_6, hf⟩ := vm_ck hf
              refine vm_iald hx hb hK hP 2 0 rfl rfl hc_6 (j := x1.toNatClampNeg) rfl dX8_pull_56 ?_
              refine lv_goto (tgt := 61) hx hb dX8_pull_57 (by decide) ?_
              exact K_61 x3 x2 (height (x1.toNatClampNeg)) hP hD hS (lv_sub hl [1, 2, 4] rfl) hf
          · have hf := vm_neg hc_4 hf
            refine lv_aload_n hx hb dX8_pull_31 rfl (lv_at hl 1 rfl) ?_
            refine va_get (D := Γ.1) (ci := 8) (v := .ref q2) (C := RX8) (T := TX8) (N := 31) hx hb hts hi8 hown hK hP 0 rfl rfl 21 (by decide) (hts (.fieldLink RX8 31 "SandPlatesModel" "height" "[I") (List.mem_of_getElem? (i := 1) rfl)) (fun _ h9 => h9) rfl dX8_pull_32 ?_
            refine lv_iload hx hb dX8_pull_35 (lv_at hl 0 rfl) ?_
            obtain ⟨hc_7, hf⟩ := vm_ck hf
            refine vm_iald hx hb hK hP 2 0 rfl rfl hc_7 (j := r_2.toNatClampNeg) rfl dX8_pull_37 ?_
            refine lv_goto (tgt := 61) hx hb dX8_pull_38 (by decide) ?_
            exact K_61 x3 x2 (height (r_2.toNatClampNeg)) hP hD hS (lv_sub hl [1, 2, 4] rfl) hf
    exact LP FU x2 x3 hP hD hS hl h1
  unfold f_X8_pull at hf
  refine lv_bipush (v := (-4)) hx hb dX8_pull_0 (by decide) ?_
  refine lv_aload_n hx hb dX8_pull_2 rfl (lv_at hl 0 rfl) ?_
  refine va_get (D := Γ.1) (ci := 8) (v := .ref q2) (C := RX8) (T := TX8) (N := 31) hx hb hts hi8 hown hK hP 0 rfl rfl 21 (by decide) (hts (.fieldLink RX8 31 "SandPlatesModel" "height" "[I") (List.mem_of_getElem? (i := 1) rfl)) (fun _ h9 => h9) rfl dX8_pull_3 ?_
  refine lv_iload_n hx hb dX8_pull_6 rfl (lv_at hl 1 rfl) ?_
  obtain ⟨hc_8, hf⟩ := vm_ck hf
  refine vm_iald hx hb hK hP 2 0 rfl rfl hc_8 (j := x1.toNatClampNeg) rfl dX8_pull_7 ?_
  refine lv_imul hx hb dX8_pull_8 ?_
  refine lv_istore_n (lv' := [(2, .int ((-4) * (height (x1.toNatClampNeg)))), (0, .ref q0), (1, .int x1)]) hx hb dX8_pull_9 rfl hl (by decide) rfl (fun ls hl => ?_)
  refine lv_iconst (v := 0) hx hb dX8_pull_10 (by decide) ?_
  refine lv_istore_n (lv' := [(3, .int 0), (2, .int ((-4) * (height (x1.toNatClampNeg)))), (0, .ref q0), (1, .int x1)]) hx hb dX8_pull_11 rfl hl (by decide) rfl (fun ls hl => ?_)
  exact K_12 ((-4) * (height (x1.toNatClampNeg))) 0 hP hD hS (lv_sub hl [2, 3, 1, 0] rfl) hf
def wd_X8_rests (Γ : GE) (q0 q1 q2 d0 d1 d2 d3 d4 d5 d6 d7 d8 d9 d10 d11 d12 : Nat) (length : Int32) (undoMany : Int32) (zeroKept : Int32) (oneKept : Int32) (seen : Int32) (spot : Int32) (kind : Int32) (begin : Int32) (letters : Int64) (figures : Int32) (value : Int32) (plated : Int32) (driven : Int32) (rows : Int32) (periods : Int32) (leastPeriod : Int32) (height : Nat → Int32) (speed : Nat → Int32) : va_W := [(q0, .inr (8, [.int length, .ref d0, .ref d1, .ref d2, .ref d3, .int undoMany, .ref d4, .int zeroKept, .int oneKept, .ref d5, .ref d6, .int seen, .int spot, .int kind, .int begin, .long letters, .int figures, .int value, .int plated, .int driven, .int rows, .ref q1, .ref q2, .ref d7, .ref d8, .ref d9, .ref d10, .ref d11, .ref d12, .int periods, .int leastPeriod])), (q1, .inl (Γ.2.1 0, 36, .inl height)), (q2, .inl (Γ.2.1 0, 36, .inl speed))]
def f_X8_rests_28 (height : Nat → Int32) (speed : Nat → Int32) : Option ((Nat → Int32) × (Nat → Int32)) := some (height, speed)
def f_X8_rests_2b  (height : Nat → Int32) (speed : Nat → Int32) (x1 : Int32) (k : (((Nat → Int32) × (Nat → Int32) × Int32) → Option ((Nat → Int32) × (Nat → Int32)))) : Option ((Nat → Int32) × (Nat → Int32)) := if 36 ≤ x1 then (some (height, speed)) else (if inb x1 36 = true then if inb x1 36 = true then k ((upd height (x1.toNatClampNeg) 0), (upd speed (x1.toNatClampNeg) 0), (x1 + 1)) else none else none)
def f_X8_rests_2s  : ((Nat → Int32) × (Nat → Int32) × Int32) → (((Nat → Int32) × (Nat → Int32) × Int32) → Option ((Nat → Int32) × (Nat → Int32))) → Option ((Nat → Int32) × (Nat → Int32)) := fun t k => f_X8_rests_2b t.1 t.2.1 t.2.2 k
def f_X8_rests_2 (height : Nat → Int32) (speed : Nat → Int32) (x1 : Int32) : Option ((Nat → Int32) × (Nat → Int32)) := obx (vm_it (f_X8_rests_2s) FU (height, speed, x1)) (un2 (fun height speed => f_X8_rests_28 height speed))
def f_X8_rests (height : Nat → Int32) (speed : Nat → Int32) : Option ((Nat → Int32) × (Nat → Int32)) := f_X8_rests_2 height speed 0
set_option maxHeartbeats 4000000 in
set_option maxRecDepth 100000 in
theorem c_X8_rests (l : Launch) (Γ : GE) (sz : Nat) (q0 q1 q2 d0 d1 d2 d3 d4 d5 d6 d7 d8 d9 d10 d11 d12 : Nat) (length : Int32) (undoMany : Int32) (zeroKept : Int32) (oneKept : Int32) (seen : Int32) (spot : Int32) (kind : Int32) (begin : Int32) (letters : Int64) (figures : Int32) (value : Int32) (plated : Int32) (driven : Int32) (rows : Int32) (periods : Int32) (leastPeriod : Int32) (height : Nat → Int32) (speed : Nat → Int32) (o_height : Nat → Int32) (o_speed : Nat → Int32) (hf : f_X8_rests height speed = some (o_height, o_speed)) : MetV l yX8_rests wsX8_rests ({ frames := 0, cells := 0, slots := 0, locals := 0 } : Room) Γ [.ref q0] (wd_X8_rests Γ q0 q1 q2 d0 d1 d2 d3 d4 d5 d6 d7 d8 d9 d10 d11 d12 length undoMany zeroKept oneKept seen spot kind begin letters figures value plated driven rows periods leastPeriod height speed) (wd_X8_rests Γ q0 q1 q2 d0 d1 d2 d3 d4 d5 d6 d7 d8 d9 d10 d11 d12 length undoMany zeroKept oneKept seen spot kind begin letters figures value plated driven rows periods leastPeriod o_height o_speed) sz := by
  refine Met.ofW (cc := cX8_rests) (maxL := 2) (ret := none) (by decide) rfl ?_
  intro p e s m args below meth c s₁ B hml hv
  obtain ⟨rfl, hsz, hE, hP, hD⟩ := hv
  have hx := B.exec
  have hb := B.bytes
  have hr := B.returns
  have hts := atoms_spec (ws := wsX8_rests) B.pre
  have hown : s.vm.findClass RX8 = some m.cls := findClass_of_methodNamed B.named
  have hlocks := B.notSynchronized
  subst hsz
  generalize hAe : va_A (wd_X8_rests Γ q0 q1 q2 d0 d1 d2 d3 d4 d5 d6 d7 d8 d9 d10 d11 d12 length undoMany zeroKept oneKept seen spot kind begin letters figures value plated driven rows periods leastPeriod height speed) s.heap.size = A at hE hD ⊢
  have hA : ∀ q : Nat, s.heap.size ≤ q → A q := fun q h => by rw [← hAe]; exact Or.inr h
  clear hAe
  have hS : va_S A s.heap s.heap [] := va_S.rf
  have hK := hE.1
  have hl := lv_entry ([.ref q0]) (n := 2) (Nat.le_of_ble_eq_true rfl)
  rw [lg_entry_eq]
  generalize (lg_sl ([.ref q0]) ++ List.replicate (2 - (lg_sl ([.ref q0])).length) Slot.unset).toArray = ls at hl ⊢
  have hl : lv_has ls 2 [(0, .ref q0)] := hl
  have hi8 : ∀ w ∈ u_ws RX8 TX8 31, w ∈ wsX8_rests := fun w h => (List.mem_cons_of_mem _ (List.mem_append_right _ h))
  obtain ⟨out, hout⟩ : ∃ o, o = (o_height, o_speed) := ⟨_, rfl⟩
  rw [← hout] at hf
  obtain ⟨QQ, hQQ⟩ : ∃ Q, Q = MQ below (va_Qv (fun _ : Unit => True) (CQ Γ (wd_X8_rests Γ q0 q1 q2 d0 d1 d2 d3 d4 d5 d6 d7 d8 d9 d10 d11 d12 length undoMany zeroKept oneKept seen spot kind begin letters figures value plated driven rows periods leastPeriod o_height o_speed) A) A) (([.ref q0] : List Value).toArray) s 0 0 A := ⟨_, rfl⟩
  show W p l e ({ frames := 0, cells := 0, slots := 0, locals := 0 } : Room) s m (([.ref q0] : List Value).toArray) below meth c s.heap [] 0 0 (MQ below _ (([.ref q0] : List Value).toArray) s 0 0 A) (F0 m 0 ls [])
  rw [← hQQ]
  have K_28 : ∀ (height : Nat → Int32) (speed : Nat → Int32) {H : Heap} {locs : List Loc} {ls : Array Slot}, va_P Γ.1 vwCl (wd_X8_rests Γ q0 q1 q2 d0 d1 d2 d3 d4 d5 d6 d7 d8 d9 d10 d11 d12 length undoMany zeroKept oneKept seen spot kind begin letters figures value plated driven rows periods leastPeriod height speed) H → va_D A (wd_X8_rests Γ q0 q1 q2 d0 d1 d2 d3 d4 d5 d6 d7 d8 d9 d10 d11 d12 length undoMany zeroKept oneKept seen spot kind begin letters figures value plated driven rows periods leastPeriod height speed) → va_S A s.heap H locs → lv_has ls 2 [] → f_X8_rests_28 height speed = some out → W p l e ({ frames := 0, cells := 0, slots := 0, locals := 0 } : Room) s m ([.ref q0] : List Value).toArray below meth c H locs 0 0 QQ (F0 m 28 ls []) := by
    intro height speed H locs ls hP hD hS hl hf
    unfold f_X8_rests_28 at hf
    subst hout; obtain ⟨rfl, rfl⟩ := rt2 hf
    subst hQQ
    exact W.vret hx hb hr (fun t ht hW => ⟨⟨(), rfl, trivial, by rw [ht]; exact hP, hD⟩, hS.F ht⟩) hS.2.2 dX8_rests_28
  have K_2 : ∀ (height : Nat → Int32) (speed : Nat → Int32) (x1 : Int32) {H : Heap} {locs : List Loc} {ls : Array Slot}, va_P Γ.1 vwCl (wd_X8_rests Γ q0 q1 q2 d0 d1 d2 d3 d4 d5 d6 d7 d8 d9 d10 d11 d12 length undoMany zeroKept oneKept seen spot kind begin letters figures value plated driven rows periods leastPeriod height speed) H → va_D A (wd_X8_rests Γ q0 q1 q2 d0 d1 d2 d3 d4 d5 d6 d7 d8 d9 d10 d11 d12 length undoMany zeroKept oneKept seen spot kind begin letters figures value plated driven rows periods leastPeriod height speed) → va_S A s.heap H locs → lv_has ls 2 [(0, .ref q0), (1, .int x1)] → f_X8_rests_2 height speed x1 = some out → W p l e ({ frames := 0, cells := 0, slots := 0, locals := 0 } : Room) s m ([.ref q0] : List Value).toArray below meth c H locs 0 0 QQ (F0 m 2 ls []) := by
    intro height speed x1 H locs ls hP hD hS hl hf
    unfold f_X8_rests_2 at hf
    obtain ⟨ex2, h1, hX2⟩ := obx_some hf
    have LP : ∀ (n : Nat) (height : Nat → Int32) (speed : Nat → Int32) (x1 : Int32)  {H : Heap} {locs : List Loc} {ls : Array Slot}, va_P Γ.1 vwCl (wd_X8_rests Γ q0 q1 q2 d0 d1 d2 d3 d4 d5 d6 d7 d8 d9 d10 d11 d12 length undoMany zeroKept oneKept seen spot kind begin letters figures value plated driven rows periods leastPeriod height speed) H → va_D A (wd_X8_rests Γ q0 q1 q2 d0 d1 d2 d3 d4 d5 d6 d7 d8 d9 d10 d11 d12 length undoMany zeroKept oneKept seen spot kind begin letters figures value plated driven rows periods leastPeriod height speed) → va_S A s.heap H locs → lv_has ls 2 [(0, .ref q0), (1, .int x1)] → vm_it (f_X8_rests_2s) n (height, speed, x1) = some ex2 → W p l e ({ frames := 0, cells := 0, slots := 0, locals := 0 } : Room) s m ([.ref q0] : List Value).toArray below meth c H locs 0 0 QQ (F0 m 2 ls []) := by
      clear hP hD hS hl hf h1
      intro n
      induction n with
      | zero => intro height speed x1 H locs ls hP hD hS hl hf; exact (vm_it_0 hf).elim
      | succ n ih =>
        intro height speed x1 H locs ls hP hD hS hl hf
        have hf : f_X8_rests_2b height speed x1 (vm_it (f_X8_rests_2s) n) = some ex2 := hf
        unfold f_X8_rests_2b at hf
        refine lv_iload_n hx hb dX8_rests_2 rfl (lv_at hl 1 rfl) ?_
        refine lv_bipush (v := 36) hx hb dX8_rests_3 (by decide) ?_
        refine lv_icmp_ge (tgt := 28) hx hb dX8_rests_5 (by decide) (fun hc_1 => ?_) (fun hc_1 => ?_)
        · have hf := vm_pos hc_1 hf
          have hX := hX2
          rw [← Option.some.inj hf] at hX
          exact K_28 height speed hP hD hS (lv_sub hl [] rfl) hX
        · have hf := vm_neg hc_1 hf
          refine lv_aload_n hx hb dX8_rests_8 rfl (lv_at hl 0 rfl) ?_
          refine va_get (D := Γ.1) (ci := 8) (v := .ref q1) (C := RX8) (T := TX8) (N := 31) hx hb hts hi8 hown hK hP 0 rfl rfl 21 (by decide) (hts (.fieldLink RX8 31 "SandPlatesModel" "height" "[I") (List.mem_of_getElem? (i := 1) rfl)) (fun _ h9 => h9) rfl dX8_rests_9 ?_
          refine lv_iload_n hx hb dX8_rests_12 rfl (lv_at hl 1 rfl) ?_
          refine lv_iconst (v := 0) hx hb dX8_rests_13 (by decide) ?_
          obtain ⟨hc_2, hf⟩ := vm_ck hf
          refine vm_iast hx hb hK hP hD hS 1 0 rfl rfl hc_2 (j := (x1.toNatClampNeg)) rfl dX8_rests_14 (fun H locs hP hD hS => ?_)
          have hP : va_P Γ.1 vwCl (wd_X8_rests Γ q0 q1 q2 d0 d1 d2 d3 d4 d5 d6 d7 d8 d9 d10 d11 d12 length undoMany zeroKept oneKept seen spot kind begin letters figures value plated driven rows periods leastPeriod (upd height (x1.toNatClampNeg) 0) speed) H := hP
          have hD : va_D A (wd_X8_rests Γ q0 q1 q2 d0 d1 d2 d3 d4 d5 d6 d7 d8 d9 d10 d11 d12 length undoMany zeroKept oneKept seen spot kind begin letters figures value plated driven rows periods leastPeriod (upd height (x1.toNatClampNeg) 0) speed) := hD
          refine lv_aload_n hx hb dX8_rests_15 rfl (lv_at hl 0 rfl) ?_
          refine va_get (D := Γ.1) (ci := 8) (v := .ref q2) (C := RX8) (T := TX8) (N := 31) hx hb hts hi8 hown hK hP 0 rfl rfl 22 (by decide) (hts (.fieldLink RX8 34 "SandPlatesModel" "speed" "[I") (List.mem_of_getElem? (i := 2) rfl)) (fun _ h9 => h9) rfl dX8_rests_16 ?_
          refine lv_iload_n hx hb dX8_rests_19 rfl (lv_at hl 1 rfl) ?_
          refine lv_iconst (v := 0) hx hb dX8_rests_20 (by decide) ?_
          obtain ⟨hc_3, hf⟩ := vm_ck hf
          refine vm_iast hx hb hK hP hD hS 2 0 rfl rfl hc_3 (j := (x1.toNatClampNeg)) rfl dX8_rests_21 (fun H locs hP hD hS => ?_)
          have hP : va_P Γ.1 vwCl (wd_X8_rests Γ q0 q1 q2 d0 d1 d2 d3 d4 d5 d6 d7 d8 d9 d10 d11 d12 length undoMany zeroKept oneKept seen spot kind begin letters figures value plated driven rows periods leastPeriod (upd height (x1.toNatClampNeg) 0) (upd speed (x1.toNatClampNeg) 0)) H := hP
          have hD : va_D A (wd_X8_rests Γ q0 q1 q2 d0 d1 d2 d3 d4 d5 d6 d7 d8 d9 d10 d11 d12 length undoMany zeroKept oneKept seen spot kind begin letters figures value plated driven rows periods leastPeriod (upd height (x1.toNatClampNeg) 0) (upd speed (x1.toNatClampNeg) 0)) := hD
          refine lv_iinc (v := (x1 + 1)) (lv' := [(1, .int (x1 + 1)), (0, .ref q0)]) hx hb dX8_rests_22 hl (k := 1) rfl rfl (by decide) rfl (fun ls hl => ?_)
          refine lv_goto (tgt := 2) hx hb dX8_rests_25 (by decide) ?_
          exact ih (upd height (x1.toNatClampNeg) 0) (upd speed (x1.toNatClampNeg) 0) (x1 + 1) hP hD hS (lv_sub hl [1, 0] rfl) hf
    exact LP FU height speed x1 hP hD hS hl h1
  unfold f_X8_rests at hf
  refine lv_iconst (v := 0) hx hb dX8_rests_0 (by decide) ?_
  refine lv_istore_n (lv' := [(1, .int 0), (0, .ref q0)]) hx hb dX8_rests_1 rfl hl (by decide) rfl (fun ls hl => ?_)
  exact K_2 height speed 0 hP hD hS (lv_sub hl [1, 0] rfl) hf
def wd_X8_step (Γ : GE) (q0 q1 q2 q3 d0 d1 d2 d3 d4 d5 d6 d7 d8 d9 d10 d11 : Nat) (length : Int32) (undoMany : Int32) (zeroKept : Int32) (oneKept : Int32) (seen : Int32) (spot : Int32) (kind : Int32) (begin : Int32) (letters : Int64) (figures : Int32) (value : Int32) (plated : Int32) (driven : Int32) (rows : Int32) (periods : Int32) (leastPeriod : Int32) (sv : Nat → Int32) (height : Nat → Int32) (speed : Nat → Int32) : va_W := [(q0, .inr (8, [.int length, .ref d0, .ref q1, .ref d1, .ref d2, .int undoMany, .ref d3, .int zeroKept, .int oneKept, .ref d4, .ref d5, .int seen, .int spot, .int kind, .int begin, .long letters, .int figures, .int value, .int plated, .int driven, .int rows, .ref q2, .ref q3, .ref d6, .ref d7, .ref d8, .ref d9, .ref d10, .ref d11, .int periods, .int leastPeriod])), (q1, .inl (Γ.2.1 0, 81, .inl sv)), (q2, .inl (Γ.2.1 0, 36, .inl height)), (q3, .inl (Γ.2.1 0, 36, .inl speed))]
def f_X8_step_174 (height : Nat → Int32) (speed : Nat → Int32) : Option ((Nat → Int32) × (Nat → Int32)) := some (height, speed)
def f_X8_step_167 (sv : Nat → Int32) (height : Nat → Int32) (speed : Nat → Int32) (x3 : Int32) (s1 : Int32) (s2 : Int32) (k : (((Nat → Int32) × Int32) → Option (Nat → Int32))) : Option (Nat → Int32) := if inb s1 36 = true then k ((upd height (s1.toNatClampNeg) s2), (x3 + 1)) else none
def f_X8_step_109b (sv : Nat → Int32) (speed : Nat → Int32) (height : Nat → Int32) (x3 : Int32) (k : (((Nat → Int32) × Int32) → Option (Nat → Int32))) : Option (Nat → Int32) := ob1 (f_X8_cells sv) (fun r_2 => if r_2 ≤ x3 then (some height) else (if inb x3 36 = true then if inb x3 36 = true then if ((height (x3.toNatClampNeg)) + (speed (x3.toNatClampNeg))) ≤ 9999 then (if (-9999) ≤ ((height (x3.toNatClampNeg)) + (speed (x3.toNatClampNeg))) then (f_X8_step_167 sv height speed x3 x3 ((height (x3.toNatClampNeg)) + (speed (x3.toNatClampNeg))) k) else (f_X8_step_167 sv height speed x3 x3 (-9999) k)) else (f_X8_step_167 sv height speed x3 x3 9999 k) else none else none))
def f_X8_step_109s (sv : Nat → Int32) (speed : Nat → Int32) : ((Nat → Int32) × Int32) → (((Nat → Int32) × Int32) → Option (Nat → Int32)) → Option (Nat → Int32) := fun t k => f_X8_step_109b sv speed t.1 t.2 k
def f_X8_step_109 (sv : Nat → Int32) (height : Nat → Int32) (speed : Nat → Int32) (x3 : Int32) : Option ((Nat → Int32) × (Nat → Int32)) := obx (vm_it (f_X8_step_109s sv speed) FU (height, x3)) (fun height => f_X8_step_174 height speed)
def f_X8_step_107 (sv : Nat → Int32) (height : Nat → Int32) (speed : Nat → Int32) : Option ((Nat → Int32) × (Nat → Int32)) := f_X8_step_109 sv height speed 0
def f_X8_step_80 (sv : Nat → Int32) (height : Nat → Int32) (speed : Nat → Int32) (x1 : Int32) (x2 : Int32) (x3 : Int32) (s0 : Int32) (s1 : Int32) (k : (((Nat → Int32) × Int32) → Option (Nat → Int32))) : Option (Nat → Int32) := if ¬ (sv 4) = 0 then if inb x3 36 = true then k ((upd speed (x3.toNatClampNeg) ((s0 + s1) - ((s0 + s1) / (sv 4)))), (x3 + 1)) else none else none
def f_X8_step_59 (sv : Nat → Int32) (height : Nat → Int32) (speed : Nat → Int32) (x1 : Int32) (x2 : Int32) (x3 : Int32) (x4 : Int32) (s0 : Int32) (k : (((Nat → Int32) × Int32) → Option (Nat → Int32))) : Option (Nat → Int32) := if x3 = (sv 8) then (f_X8_step_80 sv height speed x1 x2 x3 x4 s0 k) else (f_X8_step_80 sv height speed x1 x2 x3 x4 0 k)
def f_X8_step_2b (sv : Nat → Int32) (height : Nat → Int32) (x1 : Int32) (x2 : Int32) (speed : Nat → Int32) (x3 : Int32) (k : (((Nat → Int32) × Int32) → Option (Nat → Int32))) : Option (Nat → Int32) := ob1 (f_X8_cells sv) (fun r_12 => if r_12 ≤ x3 then (some speed) else (if inb x3 36 = true then ob1 (f_X8_pull sv height x3) (fun r_16 => if ¬ x2 = 0 then if (x2 / 2) ≤ (vm_rem x1 x2) then (f_X8_step_59 sv height speed x1 x2 x3 ((speed (x3.toNatClampNeg)) + (((sv 3) * r_16) / 16)) (-(sv 5)) k) else (f_X8_step_59 sv height speed x1 x2 x3 ((speed (x3.toNatClampNeg)) + (((sv 3) * r_16) / 16)) (sv 5) k) else none) else none))
def f_X8_step_2s (sv : Nat → Int32) (height : Nat → Int32) (x1 : Int32) (x2 : Int32) : ((Nat → Int32) × Int32) → (((Nat → Int32) × Int32) → Option (Nat → Int32)) → Option (Nat → Int32) := fun t k => f_X8_step_2b sv height x1 x2 t.1 t.2 k
def f_X8_step_2 (sv : Nat → Int32) (height : Nat → Int32) (speed : Nat → Int32) (x1 : Int32) (x2 : Int32) (x3 : Int32) : Option ((Nat → Int32) × (Nat → Int32)) := obx (vm_it (f_X8_step_2s sv height x1 x2) FU (speed, x3)) (fun speed => f_X8_step_107 sv height speed)
def f_X8_step (sv : Nat → Int32) (height : Nat → Int32) (speed : Nat → Int32) (x1 : Int32) (x2 : Int32) : Option ((Nat → Int32) × (Nat → Int32)) := f_X8_step_2 sv height speed x1 x2 0
set_option maxHeartbeats 4000000 in
set_option maxRecDepth 100000 in
theorem c_X8_step (l : Launch) (Γ : GE) (sz : Nat) (q0 q1 q2 q3 d0 d1 d2 d3 d4 d5 d6 d7 d8 d9 d10 d11 : Nat) (length : Int32) (undoMany : Int32) (zeroKept : Int32) (oneKept : Int32) (seen : Int32) (spot : Int32) (kind : Int32) (begin : Int32) (letters : Int64) (figures : Int32) (value : Int32) (plated : Int32) (driven : Int32) (rows : Int32) (periods : Int32) (leastPeriod : Int32) (sv : Nat → Int32) (height : Nat → Int32) (speed : Nat → Int32) (x1 : Int32) (x2 : Int32) (o_height : Nat → Int32) (o_speed : Nat → Int32) (hf : f_X8_step sv height speed x1 x2 = some (o_height, o_speed)) : MetV l yX8_step wsX8_step ({ frames := 3, cells := 0, slots := 0, locals := 75 } : Room) Γ [.ref q0, .int x1, .int x2] (wd_X8_step Γ q0 q1 q2 q3 d0 d1 d2 d3 d4 d5 d6 d7 d8 d9 d10 d11 length undoMany zeroKept oneKept seen spot kind begin letters figures value plated driven rows periods leastPeriod sv height speed) (wd_X8_step Γ q0 q1 q2 q3 d0 d1 d2 d3 d4 d5 d6 d7 d8 d9 d10 d11 length undoMany zeroKept oneKept seen spot kind begin letters figures value plated driven rows periods leastPeriod sv o_height o_speed) sz := by
  refine Met.ofW (cc := cX8_step) (maxL := 6) (ret := none) (by decide) rfl ?_
  intro p e s m args below meth c s₁ B hml hv
  obtain ⟨rfl, hsz, hE, hP, hD⟩ := hv
  have hx := B.exec
  have hb := B.bytes
  have hr := B.returns
  have hts := atoms_spec (ws := wsX8_step) B.pre
  have hown : s.vm.findClass RX8 = some m.cls := findClass_of_methodNamed B.named
  have hlocks := B.notSynchronized
  subst hsz
  generalize hAe : va_A (wd_X8_step Γ q0 q1 q2 q3 d0 d1 d2 d3 d4 d5 d6 d7 d8 d9 d10 d11 length undoMany zeroKept oneKept seen spot kind begin letters figures value plated driven rows periods leastPeriod sv height speed) s.heap.size = A at hE hD ⊢
  have hA : ∀ q : Nat, s.heap.size ≤ q → A q := fun q h => by rw [← hAe]; exact Or.inr h
  clear hAe
  have hS : va_S A s.heap s.heap [] := va_S.rf
  have hK := hE.1
  have hl := lv_entry ([.ref q0, .int x1, .int x2]) (n := 6) (Nat.le_of_ble_eq_true rfl)
  rw [lg_entry_eq]
  generalize (lg_sl ([.ref q0, .int x1, .int x2]) ++ List.replicate (6 - (lg_sl ([.ref q0, .int x1, .int x2])).length) Slot.unset).toArray = ls at hl ⊢
  have hl : lv_has ls 6 [(0, .ref q0), (1, .int x1), (2, .int x2)] := hl
  have hi8 : ∀ w ∈ u_ws RX8 TX8 31, w ∈ wsX8_step := fun w h => (List.mem_cons_of_mem _ (List.mem_append_right _ h))
  obtain ⟨out, hout⟩ : ∃ o, o = (o_height, o_speed) := ⟨_, rfl⟩
  rw [← hout] at hf
  obtain ⟨QQ, hQQ⟩ : ∃ Q, Q = MQ below (va_Qv (fun _ : Unit => True) (CQ Γ (wd_X8_step Γ q0 q1 q2 q3 d0 d1 d2 d3 d4 d5 d6 d7 d8 d9 d10 d11 length undoMany zeroKept oneKept seen spot kind begin letters figures value plated driven rows periods leastPeriod sv o_height o_speed) A) A) (([.ref q0, .int x1, .int x2] : List Value).toArray) s 0 0 A := ⟨_, rfl⟩
  show W p l e ({ frames := 3, cells := 0, slots := 0, locals := 75 } : Room) s m (([.ref q0, .int x1, .int x2] : List Value).toArray) below meth c s.heap [] 0 0 (MQ below _ (([.ref q0, .int x1, .int x2] : List Value).toArray) s 0 0 A) (F0 m 0 ls [])
  rw [← hQQ]
  have K_174 : ∀ (height : Nat → Int32) (speed : Nat → Int32) {H : Heap} {locs : List Loc} {ls : Array Slot}, va_P Γ.1 vwCl (wd_X8_step Γ q0 q1 q2 q3 d0 d1 d2 d3 d4 d5 d6 d7 d8 d9 d10 d11 length undoMany zeroKept oneKept seen spot kind begin letters figures value plated driven rows periods leastPeriod sv height speed) H → va_D A (wd_X8_step Γ q0 q1 q2 q3 d0 d1 d2 d3 d4 d5 d6 d7 d8 d9 d10 d11 length undoMany zeroKept oneKept seen spot kind begin letters figures value plated driven rows periods leastPeriod sv height speed) → va_S A s.heap H locs → lv_has ls 6 [] → f_X8_step_174 height speed = some out → W p l e ({ frames := 3, cells := 0, slots := 0, locals := 75 } : Room) s m ([.ref q0, .int x1, .int x2] : List Value).toArray below meth c H locs 0 0 QQ (F0 m 174 ls []) := by
    intro height speed H locs ls hP hD hS hl hf
    unfold f_X8_step_174 at hf
    subst hout; obtain ⟨rfl, rfl⟩ := rt2 hf
    subst hQQ
    exact W.vret hx hb hr (fun t ht hW => ⟨⟨(), rfl, trivial, by rw [ht]; exact hP, hD⟩, hS.F ht⟩) hS.2.2 dX8_step_174
  have K_109 : ∀ (height : Nat → Int32) (speed : Nat → Int32) (x3 : Int32) {H : Heap} {locs : List Loc} {ls : Array Slot}, va_P Γ.1 vwCl (wd_X8_step Γ q0 q1 q2 q3 d0 d1 d2 d3 d4 d5 d6 d7 d8 d9 d10 d11 length undoMany zeroKept oneKept seen spot kind begin letters figures value plated driven rows periods leastPeriod sv height speed) H → va_D A (wd_X8_step Γ q0 q1 q2 q3 d0 d1 d2 d3 d4 d5 d6 d7 d8 d9 d10 d11 length undoMany zeroKept oneKept seen spot kind begin letters figures value plated driven rows periods leastPeriod sv height speed) → va_S A s.heap H locs → lv_has ls 6 [(0, .ref q0), (3, .int x3)] → f_X8_step_109 sv height speed x3 = some out → W p l e ({ frames := 3, cells := 0, slots := 0, locals := 75 } : Room) s m ([.ref q0, .int x1, .int x2] : List Value).toArray below meth c H locs 0 0 QQ (F0 m 109 ls []) := by
    intro height speed x3 H locs ls hP hD hS hl hf
    unfold f_X8_step_109 at hf
    obtain ⟨ex109, h1, hX109⟩ := obx_some hf
    have LP : ∀ (n : Nat) (height : Nat → Int32) (x3 : Int32)  {H : Heap} {locs : List Loc} {ls : Array Slot}, va_P Γ.1 vwCl (wd_X8_step Γ q0 q1 q2 q3 d0 d1 d2 d3 d4 d5 d6 d7 d8 d9 d10 d11 length undoMany zeroKept oneKept seen spot kind begin letters figures value plated driven rows periods leastPeriod sv height speed) H → va_D A (wd_X8_step Γ q0 q1 q2 q3 d0 d1 d2 d3 d4 d5 d6 d7 d8 d9 d10 d11 length undoMany zeroKept oneKept seen spot kind begin letters figures value plated driven rows periods leastPeriod sv height speed) → va_S A s.heap H locs → lv_has ls 6 [(0, .ref q0), (3, .int x3)] → vm_it (f_X8_step_109s sv speed) n (height, x3) = some ex109 → W p l e ({ frames := 3, cells := 0, slots := 0, locals := 75 } : Room) s m ([.ref q0, .int x1, .int x2] : List Value).toArray below meth c H locs 0 0 QQ (F0 m 109 ls []) := by
      clear hP hD hS hl hf h1
      intro n
      induction n with
      | zero => intro height x3 H locs ls hP hD hS hl hf; exact (vm_it_0 hf).elim
      | succ n ih =>
        intro height x3 H locs ls hP hD hS hl hf
        have hf : f_X8_step_109b sv speed height x3 (vm_it (f_X8_step_109s sv speed) n) = some ex109 := hf
        have K_167 : ∀ (height : Nat → Int32) (x3 : Int32) (s1 : Int32) (s2 : Int32) {H : Heap} {locs : List Loc} {ls : Array Slot}, va_P Γ.1 vwCl (wd_X8_step Γ q0 q1 q2 q3 d0 d1 d2 d3 d4 d5 d6 d7 d8 d9 d10 d11 length undoMany zeroKept oneKept seen spot kind begin letters figures value plated driven rows periods leastPeriod sv height speed) H → va_D A (wd_X8_step Γ q0 q1 q2 q3 d0 d1 d2 d3 d4 d5 d6 d7 d8 d9 d10 d11 length undoMany zeroKept oneKept seen spot kind begin letters figures value plated driven rows periods leastPeriod sv height speed) → va_S A s.heap H locs → lv_has ls 6 [(0, .ref q0), (3, .int x3)] → f_X8_step_167 sv height speed x3 s1 s2 (vm_it (f_X8_step_109s sv speed) n) = some ex109 → W p l e ({ frames := 3, cells := 0, slots := 0, locals := 75 } : Room) s m ([.ref q0, .int x1, .int x2] : List Value).toArray below meth c H locs 0 0 QQ (F0 m 167 ls [.int s2, .int s1, .ref q2]) := by
          intro height x3 s1 s2 H locs ls hP hD hS hl hf
          unfold f_X8_step_167 at hf
          obtain ⟨hc_1, hf⟩ := vm_ck hf
          refine vm_iast hx hb hK hP hD hS 2 0 rfl rfl hc_1 (j := (s1.toNatClampNeg)) rfl dX8_step_167 (fun H locs hP hD hS => ?_)
          have hP : va_P Γ.1 vwCl (wd_X8_step Γ q0 q1 q2 q3 d0 d1 d2 d3 d4 d5 d6 d7 d8 d9 d10 d11 length undoMany zeroKept oneKept seen spot kind begin letters figures value plated driven rows periods leastPeriod sv (upd height (s1.toNatClampNeg) s2) speed) H := hP
          have hD : va_D A (wd_X8_step Γ q0 q1 q2 q3 d0 d1 d2 d3 d4 d5 d6 d7 d8 d9 d10 d11 length undoMany zeroKept oneKept seen spot kind begin letters figures value plated driven rows periods leastPeriod sv (upd height (s1.toNatClampNeg) s2) speed) := hD
          refine lv_iinc (v := (x3 + 1)) (lv' := [(3, .int (x3 + 1)), (0, .ref q0)]) hx hb dX8_step_168 hl (k := 1) rfl rfl (by decide) rfl (fun ls hl => ?_)
          refine lv_goto (tgt := 109) hx hb dX8_step_171 (by decide) ?_
          exact ih (upd height (s1.toNatClampNeg) s2) (x3 + 1) hP hD hS (lv_sub hl [1, 0] rfl) hf
        unfold f_X8_step_109b at hf
        refine lv_iload_n hx hb dX8_step_109 rfl (lv_at hl 1 rfl) ?_
        refine lv_aload_n hx hb dX8_step_110 rfl (lv_at hl 0 rfl) ?_
        obtain ⟨r_2, hq_3, hf⟩ := ob1_some hf
        refine vm_cVi (isC := [0, 1]) (wc := (wd_X8_cells Γ q0 q1 d0 d1 d2 d3 d4 d5 q2 q3 d6 d7 d8 d9 d10 d11 length undoMany zeroKept oneKept seen spot kind begin letters figures value plated driven rows periods leastPeriod sv)) (w1 := (wd_X8_cells Γ q0 q1 d0 d1 d2 d3 d4 d5 q2 q3 d6 d7 d8 d9 d10 d11 length undoMany zeroKept oneKept seen spot kind begin letters figures value plated driven rows periods leastPeriod sv)) (As := []) (rest := [.int x3]) ⟨hx, hb, hml, hown, hts⟩ hE hP hD hS hA rfl rfl rfl (c_X8_cells l Γ _ q0 q1 d0 d1 d2 d3 d4 d5 q2 q3 d6 d7 d8 d9 d10 d11 length undoMany zeroKept oneKept seen spot kind begin letters figures value plated driven rows periods leastPeriod sv r_2 hq_3) (cwV 0 hts gX8_step_X8_cells rfl rfl rfl (by decide +kernel) ⟨Nat.le_of_ble_eq_true rfl, Nat.le_of_ble_eq_true rfl⟩) (va_recv (ci := 8) (q0 := 0) hK hP rfl rfl) rfl hl.1 rfl (Nat.le_of_ble_eq_true rfl) dX8_step_111 ⟨Nat.zero_le _, Nat.zero_le _⟩ (fun H locs hP hD hS => ?_)
        have hP : va_P Γ.1 vwCl (wd_X8_step Γ q0 q1 q2 q3 d0 d1 d2 d3 d4 d5 d6 d7 d8 d9 d10 d11 length undoMany zeroKept oneKept seen spot kind begin letters figures value plated driven rows periods leastPeriod sv height speed) H := hP
        have hD : va_D A (wd_X8_step Γ q0 q1 q2 q3 d0 d1 d2 d3 d4 d5 d6 d7 d8 d9 d10 d11 length undoMany zeroKept oneKept seen spot kind begin letters figures value plated driven rows periods leastPeriod sv height speed) := hD
        refine lv_icmp_ge (tgt := 174) hx hb dX8_step_114 (by decide) (fun hc_4 => ?_) (fun hc_4 => ?_)
        · have hf := vm_pos hc_4 hf
          have hX := hX109
          rw [← Option.some.inj hf] at hX
          exact K_174 height speed hP hD hS (lv_sub hl [] rfl) hX
        · have hf := vm_neg hc_4 hf
          refine lv_aload_n hx hb dX8_step_117 rfl (lv_at hl 0 rfl) ?_
          refine va_get (D := Γ.1) (ci := 8) (v := .ref q2) (C := RX8) (T := TX8) (N := 31) hx hb hts hi8 hown hK hP 0 rfl rfl 21 (by decide) (hts (.fieldLink RX8 31 "SandPlatesModel" "height" "[I") (List.mem_of_getElem? (i := 3) rfl)) (fun _ h9 => h9) rfl dX8_step_118 ?_
          refine lv_iload_n hx hb dX8_step_121 rfl (lv_at hl 1 rfl) ?_
          obtain ⟨hc_5, hf⟩ := vm_ck hf
          refine vm_iald hx hb hK hP 2 0 rfl rfl hc_5 (j := x3.toNatClampNeg) rfl dX8_step_122 ?_
          refine lv_aload_n hx hb dX8_step_123 rfl (lv_at hl 0 rfl) ?_
          refine va_get (D := Γ.1) (ci := 8) (v := .ref q3) (C := RX8) (T := TX8) (N := 31) hx hb hts hi8 hown hK hP 0 rfl rfl 22 (by decide) (hts (.fieldLink RX8 34 "SandPlatesModel" "speed" "[I") (List.mem_of_getElem? (i := 1) rfl)) (fun _ h9 => h9) rfl dX8_step_124 ?_
          refine lv_iload_n hx hb dX8_step_127 rfl (lv_at hl 1 rfl) ?_
          obtain ⟨hc_6, hf⟩ := vm_ck hf
          refine vm_iald hx hb hK hP 3 0 rfl rfl hc_6 (j := x3.toNatClampNeg) rfl dX8_step_128 ?_
          refine lv_iadd hx hb dX8_step_129 ?_
          refine lv_istore (lv' := [(4, .int ((height (x3.toNatClampNeg)) + (speed (x3.toNatClampNeg)))), (0, .ref q0), (3, .int x3)]) hx hb dX8_step_130 hl (by decide) rfl (fun ls hl => ?_)
          refine lv_aload_n hx hb dX8_step_132 rfl (lv_at hl 1 rfl) ?_
          refine va_get (D := Γ.1) (ci := 8) (v := .ref q2) (C := RX8) (T := TX8) (N := 31) hx hb hts hi8 hown hK hP 0 rfl rfl 21 (by decide) (hts (.fieldLink RX8 31 "SandPlatesModel" "height" "[I") (List.mem_of_getElem? (i := 3) rfl)) (fun _ h9 => h9) rfl dX8_step_133 ?_
          refine lv_iload_n hx hb dX8_step_136 rfl (lv_at hl 2 rfl) ?_
          refine lv_iload hx hb dX8_step_137 (lv_at hl 0 rfl) ?_
          refine lv_sipush (v := 9999) hx hb dX8_step_139 (by decide) ?_
          refine lv_icmp_le (tgt := 151) hx hb dX8_step_142 (by decide) (fun hc_7 => ?_) (fun hc_7 => ?_)
          · have hf := vm_pos hc_7 hf
            refine lv_iload hx hb dX8_step_151 (lv_at hl 0 rfl) ?_
            refine lv_sipush (v := (-9999)) hx hb dX8_step_153 (by decide) ?_
            refine lv_icmp_ge (tgt := 165) hx hb dX8_step_156 (by decide) (fun hc_8 => ?_) (fun hc_8 => ?_)
            · have hf := vm_pos hc_8 hf
              refine lv_iload hx hb dX8_step_165 (lv_at hl 0 rfl) ?_
              exact K_167 height x3 x3 ((height (x3.toNatClampNeg)) + (speed (x3.toNatClampNeg))) hP hD hS (lv_sub hl [1, 2] rfl) hf
            · have hf := vm_neg hc_8 hf
              refine lv_sipush (v := (-9999)) hx hb dX8_step_159 (by decide) ?_
              refine lv_goto (tgt := 167) hx hb dX8_step_162 (by decide) ?_
              exact K_167 height x3 x3 (-9999) hP hD hS (lv_sub hl [1, 2] rfl) hf
          · have hf := vm_neg hc_7 hf
            refine lv_sipush (v := 9999) hx hb dX8_step_145 (by decide) ?_
            refine lv_goto (tgt := 167) hx hb dX8_step_148 (by decide) ?_
            exact K_167 height x3 x3 9999 hP hD hS (lv_sub hl [1, 2] rfl) hf
    exact LP FU height x3 hP hD hS hl h1
  have K_107 : ∀ (height : Nat → Int32) (speed : Nat → Int32) {H : Heap} {locs : List Loc} {ls : Array Slot}, va_P Γ.1 vwCl (wd_X8_step Γ q0 q1 q2 q3 d0 d1 d2 d3 d4 d5 d6 d7 d8 d9 d10 d11 length undoMany zeroKept oneKept seen spot kind begin letters figures value plated driven rows periods leastPeriod sv height speed) H → va_D A (wd_X8_step Γ q0 q1 q2 q3 d0 d1 d2 d3 d4 d5 d6 d7 d8 d9 d10 d11 length undoMany zeroKept oneKept seen spot kind begin letters figures value plated driven rows periods leastPeriod sv height speed) → va_S A s.heap H locs → lv_has ls 6 [(0, .ref q0)] → f_X8_step_107 sv height speed = some out → W p l e ({ frames := 3, cells := 0, slots := 0, locals := 75 } : Room) s m ([.ref q0, .int x1, .int x2] : List Value).toArray below meth c H locs 0 0 QQ (F0 m 107 ls []) := by
    intro height speed H locs ls hP hD hS hl hf
    unfold f_X8_step_107 at hf
    refine lv_iconst (v := 0) hx hb dX8_step_107 (by decide) ?_
    refine lv_istore_n (lv' := [(3, .int 0), (0, .ref q0)]) hx hb dX8_step_108 rfl hl (by decide) rfl (fun ls hl => ?_)
    exact K_109 height speed 0 hP hD hS (lv_sub hl [1, 0] rfl) hf
  have K_2 : ∀ (height : Nat → Int32) (speed : Nat → Int32) (x3 : Int32) {H : Heap} {locs : List Loc} {ls : Array Slot}, va_P Γ.1 vwCl (wd_X8_step Γ q0 q1 q2 q3 d0 d1 d2 d3 d4 d5 d6 d7 d8 d9 d10 d11 length undoMany zeroKept oneKept seen spot kind begin letters figures value plated driven rows periods leastPeriod sv height speed) H → va_D A (wd_X8_step Γ q0 q1 q2 q3 d0 d1 d2 d3 d4 d5 d6 d7 d8 d9 d10 d11 length undoMany zeroKept oneKept seen spot kind begin letters figures value plated driven rows periods leastPeriod sv height speed) → va_S A s.heap H locs → lv_has ls 6 [(0, .ref q0), (1, .int x1), (2, .int x2), (3, .int x3)] → f_X8_step_2 sv height speed x1 x2 x3 = some out → W p l e ({ frames := 3, cells := 0, slots := 0, locals := 75 } : Room) s m ([.ref q0, .int x1, .int x2] : List Value).toArray below meth c H locs 0 0 QQ (F0 m 2 ls []) := by
    intro height speed x3 H locs ls hP hD hS hl hf
    unfold f_X8_step_2 at hf
    obtain ⟨ex2, h1, hX2⟩ := obx_some hf
    have LP : ∀ (n : Nat) (speed : Nat → Int32) (x3 : Int32)  {H : Heap} {locs : List Loc} {ls : Array Slot}, va_P Γ.1 vwCl (wd_X8_step Γ q0 q1 q2 q3 d0 d1 d2 d3 d4 d5 d6 d7 d8 d9 d10 d11 length undoMany zeroKept oneKept seen spot kind begin letters figures value plated driven rows periods leastPeriod sv height speed) H → va_D A (wd_X8_step Γ q0 q1 q2 q3 d0 d1 d2 d3 d4 d5 d6 d7 d8 d9 d10 d11 length undoMany zeroKept oneKept seen spot kind begin letters figures value plated driven rows periods leastPeriod sv height speed) → va_S A s.heap H locs → lv_has ls 6 [(0, .ref q0), (1, .int x1), (2, .int x2), (3, .int x3)] → vm_it (f_X8_step_2s sv height x1 x2) n (speed, x3) = some ex2 → W p l e ({ frames := 3, cells := 0, slots := 0, locals := 75 } : Room) s m ([.ref q0, .int x1, .int x2] : List Value).toArray below meth c H locs 0 0 QQ (F0 m 2 ls []) := by
      clear hP hD hS hl hf h1
      intro n
      induction n with
      | zero => intro speed x3 H locs ls hP hD hS hl hf; exact (vm_it_0 hf).elim
      | succ n ih =>
        intro speed x3 H locs ls hP hD hS hl hf
        have hf : f_X8_step_2b sv height x1 x2 speed x3 (vm_it (f_X8_step_2s sv height x1 x2) n) = some ex2 := hf
        have K_80 : ∀ (speed : Nat → Int32) (x3 : Int32) (s0 : Int32) (s1 : Int32) {H : Heap} {locs : List Loc} {ls : Array Slot}, va_P Γ.1 vwCl (wd_X8_step Γ q0 q1 q2 q3 d0 d1 d2 d3 d4 d5 d6 d7 d8 d9 d10 d11 length undoMany zeroKept oneKept seen spot kind begin letters figures value plated driven rows periods leastPeriod sv height speed) H → va_D A (wd_X8_step Γ q0 q1 q2 q3 d0 d1 d2 d3 d4 d5 d6 d7 d8 d9 d10 d11 length undoMany zeroKept oneKept seen spot kind begin letters figures value plated driven rows periods leastPeriod sv height speed) → va_S A s.heap H locs → lv_has ls 6 [(0, .ref q0), (1, .int x1), (2, .int x2), (3, .int x3)] → f_X8_step_80 sv height speed x1 x2 x3 s0 s1 (vm_it (f_X8_step_2s sv height x1 x2) n) = some ex2 → W p l e ({ frames := 3, cells := 0, slots := 0, locals := 75 } : Room) s m ([.ref q0, .int x1, .int x2] : List Value).toArray below meth c H locs 0 0 QQ (F0 m 80 ls [.int s1, .int s0]) := by
          intro speed x3 s0 s1 H locs ls hP hD hS hl hf
          unfold f_X8_step_80 at hf
          refine lv_iadd hx hb dX8_step_80 ?_
          refine lv_istore (lv' := [(4, .int (s0 + s1)), (0, .ref q0), (1, .int x1), (2, .int x2), (3, .int x3)]) hx hb dX8_step_81 hl (by decide) rfl (fun ls hl => ?_)
          refine lv_aload_n hx hb dX8_step_83 rfl (lv_at hl 1 rfl) ?_
          refine va_get (D := Γ.1) (ci := 8) (v := .ref q3) (C := RX8) (T := TX8) (N := 31) hx hb hts hi8 hown hK hP 0 rfl rfl 22 (by decide) (hts (.fieldLink RX8 34 "SandPlatesModel" "speed" "[I") (List.mem_of_getElem? (i := 1) rfl)) (fun _ h9 => h9) rfl dX8_step_84 ?_
          refine lv_iload_n hx hb dX8_step_87 rfl (lv_at hl 4 rfl) ?_
          refine lv_iload hx hb dX8_step_88 (lv_at hl 0 rfl) ?_
          refine lv_iload hx hb dX8_step_90 (lv_at hl 0 rfl) ?_
          refine lv_aload_n hx hb dX8_step_92 rfl (lv_at hl 1 rfl) ?_
          refine va_get (D := Γ.1) (ci := 8) (v := .ref q1) (C := RX8) (T := TX8) (N := 31) hx hb hts hi8 hown hK hP 0 rfl rfl 2 (by decide) (hts (.fieldLink RX8 13 "SandPlatesModel" "s" "[I") (List.mem_of_getElem? (i := 2) rfl)) (fun _ h9 => h9) rfl dX8_step_93 ?_
          refine lv_iconst (v := 4) hx hb dX8_step_96 (by decide) ?_
          refine vm_iald hx hb hK hP 1 0 rfl rfl (by decide +kernel) (j := 4) rfl dX8_step_97 ?_
          obtain ⟨hc_9, hf⟩ := vm_ck hf
          refine lv_idiv hx hb dX8_step_98 hc_9 ?_
          refine lv_isub hx hb dX8_step_99 ?_
          obtain ⟨hc_10, hf⟩ := vm_ck hf
          refine vm_iast hx hb hK hP hD hS 3 0 rfl rfl hc_10 (j := (x3.toNatClampNeg)) rfl dX8_step_100 (fun H locs hP hD hS => ?_)
          have hP : va_P Γ.1 vwCl (wd_X8_step Γ q0 q1 q2 q3 d0 d1 d2 d3 d4 d5 d6 d7 d8 d9 d10 d11 length undoMany zeroKept oneKept seen spot kind begin letters figures value plated driven rows periods leastPeriod sv height (upd speed (x3.toNatClampNeg) ((s0 + s1) - ((s0 + s1) / (sv 4))))) H := hP
          have hD : va_D A (wd_X8_step Γ q0 q1 q2 q3 d0 d1 d2 d3 d4 d5 d6 d7 d8 d9 d10 d11 length undoMany zeroKept oneKept seen spot kind begin letters figures value plated driven rows periods leastPeriod sv height (upd speed (x3.toNatClampNeg) ((s0 + s1) - ((s0 + s1) / (sv 4))))) := hD
          refine lv_iinc (v := (x3 + 1)) (lv' := [(3, .int (x3 + 1)), (4, .int (s0 + s1)), (0, .ref q0), (1, .int x1), (2, .int x2)]) hx hb dX8_step_101 hl (k := 4) rfl rfl (by decide) rfl (fun ls hl => ?_)
          refine lv_goto (tgt := 2) hx hb dX8_step_104 (by decide) ?_
          exact ih (upd speed (x3.toNatClampNeg) ((s0 + s1) - ((s0 + s1) / (sv 4)))) (x3 + 1) hP hD hS (lv_sub hl [2, 3, 4, 0] rfl) hf
        have K_59 : ∀ (speed : Nat → Int32) (x3 : Int32) (x4 : Int32) (s0 : Int32) {H : Heap} {locs : List Loc} {ls : Array Slot}, va_P Γ.1 vwCl (wd_X8_step Γ q0 q1 q2 q3 d0 d1 d2 d3 d4 d5 d6 d7 d8 d9 d10 d11 length undoMany zeroKept oneKept seen spot kind begin letters figures value plated driven rows periods leastPeriod sv height speed) H → va_D A (wd_X8_step Γ q0 q1 q2 q3 d0 d1 d2 d3 d4 d5 d6 d7 d8 d9 d10 d11 length undoMany zeroKept oneKept seen spot kind begin letters figures value plated driven rows periods leastPeriod sv height speed) → va_S A s.heap H locs → lv_has ls 6 [(0, .ref q0), (1, .int x1), (2, .int x2), (3, .int x3), (4, .int x4)] → f_X8_step_59 sv height speed x1 x2 x3 x4 s0 (vm_it (f_X8_step_2s sv height x1 x2) n) = some ex2 → W p l e ({ frames := 3, cells := 0, slots := 0, locals := 75 } : Room) s m ([.ref q0, .int x1, .int x2] : List Value).toArray below meth c H locs 0 0 QQ (F0 m 59 ls [.int s0]) := by
          intro speed x3 x4 s0 H locs ls hP hD hS hl hf
          unfold f_X8_step_59 at hf
          refine lv_istore (lv' := [(5, .int s0), (0, .ref q0), (1, .int x1), (2, .int x2), (3, .int x3), (4, .int x4)]) hx hb dX8_step_59 hl (by decide) rfl (fun ls hl => ?_)
          refine lv_iload hx hb dX8_step_61 (lv_at hl 5 rfl) ?_
          refine lv_iload_n hx hb dX8_step_63 rfl (lv_at hl 4 rfl) ?_
          refine lv_aload_n hx hb dX8_step_64 rfl (lv_at hl 1 rfl) ?_
          refine va_get (D := Γ.1) (ci := 8) (v := .ref q1) (C := RX8) (T := TX8) (N := 31) hx hb hts hi8 hown hK hP 0 rfl rfl 2 (by decide) (hts (.fieldLink RX8 13 "SandPlatesModel" "s" "[I") (List.mem_of_getElem? (i := 2) rfl)) (fun _ h9 => h9) rfl dX8_step_65 ?_
          refine lv_bipush (v := 8) hx hb dX8_step_68 (by decide) ?_
          refine vm_iald hx hb hK hP 1 0 rfl rfl (by decide +kernel) (j := 8) rfl dX8_step_70 ?_
          refine lv_icmp_ne (tgt := 79) hx hb dX8_step_71 (by decide) (fun hc_11 => ?_) (fun hc_11 => ?_)
          · have hf := vm_neg hc_11 hf
            refine lv_iconst (v := 0) hx hb dX8_step_79 (by decide) ?_
            exact K_80 speed x3 x4 0 hP hD hS (lv_sub hl [1, 2, 3, 4] rfl) hf
          · have hf := vm_pos hc_11 hf
            refine lv_iload hx hb dX8_step_74 (lv_at hl 0 rfl) ?_
            refine lv_goto (tgt := 80) hx hb dX8_step_76 (by decide) ?_
            exact K_80 speed x3 x4 s0 hP hD hS (lv_sub hl [1, 2, 3, 4] rfl) hf
        unfold f_X8_step_2b at hf
        refine lv_iload_n hx hb dX8_step_2 rfl (lv_at hl 3 rfl) ?_
        refine lv_aload_n hx hb dX8_step_3 rfl (lv_at hl 0 rfl) ?_
        obtain ⟨r_12, hq_13, hf⟩ := ob1_some hf
        refine vm_cVi (isC := [0, 1]) (wc := (wd_X8_cells Γ q0 q1 d0 d1 d2 d3 d4 d5 q2 q3 d6 d7 d8 d9 d10 d11 length undoMany zeroKept oneKept seen spot kind begin letters figures value plated driven rows periods leastPeriod sv)) (w1 := (wd_X8_cells Γ q0 q1 d0 d1 d2 d3 d4 d5 q2 q3 d6 d7 d8 d9 d10 d11 length undoMany zeroKept oneKept seen spot kind begin letters figures value plated driven rows periods leastPeriod sv)) (As := []) (rest := [.int x3]) ⟨hx, hb, hml, hown, hts⟩ hE hP hD hS hA rfl rfl rfl (c_X8_cells l Γ _ q0 q1 d0 d1 d2 d3 d4 d5 q2 q3 d6 d7 d8 d9 d10 d11 length undoMany zeroKept oneKept seen spot kind begin letters figures value plated driven rows periods leastPeriod sv r_12 hq_13) (cwV 0 hts gX8_step_X8_cells rfl rfl rfl (by decide +kernel) ⟨Nat.le_of_ble_eq_true rfl, Nat.le_of_ble_eq_true rfl⟩) (va_recv (ci := 8) (q0 := 0) hK hP rfl rfl) rfl hl.1 rfl (Nat.le_of_ble_eq_true rfl) dX8_step_4 ⟨Nat.zero_le _, Nat.zero_le _⟩ (fun H locs hP hD hS => ?_)
        have hP : va_P Γ.1 vwCl (wd_X8_step Γ q0 q1 q2 q3 d0 d1 d2 d3 d4 d5 d6 d7 d8 d9 d10 d11 length undoMany zeroKept oneKept seen spot kind begin letters figures value plated driven rows periods leastPeriod sv height speed) H := hP
        have hD : va_D A (wd_X8_step Γ q0 q1 q2 q3 d0 d1 d2 d3 d4 d5 d6 d7 d8 d9 d10 d11 length undoMany zeroKept oneKept seen spot kind begin letters figures value plated driven rows periods leastPeriod sv height speed) := hD
        refine lv_icmp_ge (tgt := 107) hx hb dX8_step_7 (by decide) (fun hc_14 => ?_) (fun hc_14 => ?_)
        · have hf := vm_pos hc_14 hf
          have hX := hX2
          rw [← Option.some.inj hf] at hX
          exact K_107 height speed hP hD hS (lv_sub hl [0] rfl) hX
        · have hf := vm_neg hc_14 hf
          refine lv_aload_n hx hb dX8_step_10 rfl (lv_at hl 0 rfl) ?_
          refine va_get (D := Γ.1) (ci := 8) (v := .ref q3) (C := RX8) (T := TX8) (N := 31) hx hb hts hi8 hown hK hP 0 rfl rfl 22 (by decide) (hts (.fieldLink RX8 34 "SandPlatesModel" "speed" "[I") (List.mem_of_getElem? (i := 1) rfl)) (fun _ h9 => h9) rfl dX8_step_11 ?_
          refine lv_iload_n hx hb dX8_step_14 rfl (lv_at hl 3 rfl) ?_
          obtain ⟨hc_15, hf⟩ := vm_ck hf
          refine vm_iald hx hb hK hP 3 0 rfl rfl hc_15 (j := x3.toNatClampNeg) rfl dX8_step_15 ?_
          refine lv_aload_n hx hb dX8_step_16 rfl (lv_at hl 0 rfl) ?_
          refine va_get (D := Γ.1) (ci := 8) (v := .ref q1) (C := RX8) (T := TX8) (N := 31) hx hb hts hi8 hown hK hP 0 rfl rfl 2 (by decide) (hts (.fieldLink RX8 13 "SandPlatesModel" "s" "[I") (List.mem_of_getElem? (i := 2) rfl)) (fun _ h9 => h9) rfl dX8_step_17 ?_
          refine lv_iconst (v := 3) hx hb dX8_step_20 (by decide) ?_
          refine vm_iald hx hb hK hP 1 0 rfl rfl (by decide +kernel) (j := 3) rfl dX8_step_21 ?_
          refine lv_aload_n hx hb dX8_step_22 rfl (lv_at hl 0 rfl) ?_
          refine lv_iload_n hx hb dX8_step_23 rfl (lv_at hl 3 rfl) ?_
          obtain ⟨r_16, hq_17, hf⟩ := ob1_some hf
          refine vm_cVi (isC := [0, 1, 2]) (wc := (wd_X8_pull Γ q0 q1 q2 d0 d1 d2 d3 d4 d5 q3 d6 d7 d8 d9 d10 d11 length undoMany zeroKept oneKept seen spot kind begin letters figures value plated driven rows periods leastPeriod sv height)) (w1 := (wd_X8_pull Γ q0 q1 q2 d0 d1 d2 d3 d4 d5 q3 d6 d7 d8 d9 d10 d11 length undoMany zeroKept oneKept seen spot kind begin letters figures value plated driven rows periods leastPeriod sv height)) (As := [.int x3]) (rest := [.int (sv 3), .int (speed (x3.toNatClampNeg))]) ⟨hx, hb, hml, hown, hts⟩ hE hP hD hS hA rfl rfl rfl (c_X8_pull l Γ _ q0 q1 q2 d0 d1 d2 d3 d4 d5 q3 d6 d7 d8 d9 d10 d11 length undoMany zeroKept oneKept seen spot kind begin letters figures value plated driven rows periods leastPeriod sv height x3 r_16 hq_17) (cwV 1 hts gX8_step_X8_pull rfl rfl rfl (by decide +kernel) ⟨Nat.le_of_ble_eq_true rfl, Nat.le_of_ble_eq_true rfl⟩) (va_recv (ci := 8) (q0 := 0) hK hP rfl rfl) rfl hl.1 rfl (Nat.le_of_ble_eq_true rfl) dX8_step_24 ⟨Nat.zero_le _, Nat.zero_le _⟩ (fun H locs hP hD hS => ?_)
          have hP : va_P Γ.1 vwCl (wd_X8_step Γ q0 q1 q2 q3 d0 d1 d2 d3 d4 d5 d6 d7 d8 d9 d10 d11 length undoMany zeroKept oneKept seen spot kind begin letters figures value plated driven rows periods leastPeriod sv height speed) H := hP
          have hD : va_D A (wd_X8_step Γ q0 q1 q2 q3 d0 d1 d2 d3 d4 d5 d6 d7 d8 d9 d10 d11 length undoMany zeroKept oneKept seen spot kind begin letters figures value plated driven rows periods leastPeriod sv height speed) := hD
          refine lv_imul hx hb dX8_step_27 ?_
          refine lv_bipush (v := 16) hx hb dX8_step_28 (by decide) ?_
          refine lv_idiv hx hb dX8_step_30 (by decide) ?_
          refine lv_iadd hx hb dX8_step_31 ?_
          refine lv_istore (lv' := [(4, .int ((speed (x3.toNatClampNeg)) + (((sv 3) * r_16) / 16))), (0, .ref q0), (1, .int x1), (2, .int x2), (3, .int x3)]) hx hb dX8_step_32 hl (by decide) rfl (fun ls hl => ?_)
          refine lv_iload_n hx hb dX8_step_34 rfl (lv_at hl 2 rfl) ?_
          refine lv_iload_n hx hb dX8_step_35 rfl (lv_at hl 3 rfl) ?_
          obtain ⟨hc_18, hf⟩ := vm_ck hf
          refine lv_irem hx hb dX8_step_36 hc_18 ?_
          refine lv_iload_n hx hb dX8_step_37 rfl (lv_at hl 3 rfl) ?_
          refine lv_iconst (v := 2) hx hb dX8_step_38 (by decide) ?_
          refine lv_idiv hx hb dX8_step_39 (by decide) ?_
          refine lv_icmp_ge (tgt := 52) hx hb dX8_step_40 (by decide) (fun hc_19 => ?_) (fun hc_19 => ?_)
          · have hf := vm_pos hc_19 hf
            refine lv_aload_n hx hb dX8_step_52 rfl (lv_at hl 1 rfl) ?_
            refine va_get (D := Γ.1) (ci := 8) (v := .ref q1) (C := RX8) (T := TX8) (N := 31) hx hb hts hi8 hown hK hP 0 rfl rfl 2 (by decide) (hts (.fieldLink RX8 13 "SandPlatesModel" "s" "[I") (List.mem_of_getElem? (i := 2) rfl)) (fun _ h9 => h9) rfl dX8_step_53 ?_
            refine lv_iconst (v := 5) hx hb dX8_step_56 (by decide) ?_
            refine vm_iald hx hb hK hP 1 0 rfl rfl (by decide +kernel) (j := 5) rfl dX8_step_57 ?_
            refine lv_ineg hx hb dX8_step_58 ?_
            exact K_59 speed x3 ((speed (x3.toNatClampNeg)) + (((sv 3) * r_16) / 16)) (-(sv 5)) hP hD hS (lv_sub hl [1, 2, 3, 4, 0] rfl) hf
          · have hf := vm_neg hc_19 hf
            refine lv_aload_n hx hb dX8_step_43 rfl (lv_at hl 1 rfl) ?_
            refine va_get (D := Γ.1) (ci := 8) (v := .ref q1) (C := RX8) (T := TX8) (N := 31) hx hb hts hi8 hown hK hP 0 rfl rfl 2 (by decide) (hts (.fieldLink RX8 13 "SandPlatesModel" "s" "[I") (List.mem_of_getElem? (i := 2) rfl)) (fun _ h9 => h9) rfl dX8_step_44 ?_
            refine lv_iconst (v := 5) hx hb dX8_step_47 (by decide) ?_
            refine vm_iald hx hb hK hP 1 0 rfl rfl (by decide +kernel) (j := 5) rfl dX8_step_48 ?_
            refine lv_goto (tgt := 59) hx hb dX8_step_49 (by decide) ?_
            exact K_59 speed x3 ((speed (x3.toNatClampNeg)) + (((sv 3) * r_16) / 16)) (sv 5) hP hD hS (lv_sub hl [1, 2, 3, 4, 0] rfl) hf
    exact LP FU speed x3 hP hD hS hl h1
  unfold f_X8_step at hf
  refine lv_iconst (v := 0) hx hb dX8_step_0 (by decide) ?_
  refine lv_istore_n (lv' := [(3, .int 0), (0, .ref q0), (1, .int x1), (2, .int x2)]) hx hb dX8_step_1 rfl hl (by decide) rfl (fun ls hl => ?_)
  exact K_2 height speed 0 hP hD hS (lv_sub hl [1, 2, 3, 0] rfl) hf
def wd_X8_runs (Γ : GE) (q0 q1 q2 q3 q4 q5 q6 d0 d1 d2 d3 d4 d5 d6 d7 d8 : Nat) (length : Int32) (undoMany : Int32) (zeroKept : Int32) (oneKept : Int32) (seen : Int32) (spot : Int32) (kind : Int32) (begin : Int32) (letters : Int64) (figures : Int32) (value : Int32) (plated : Int32) (driven : Int32) (rows : Int32) (periods : Int32) (leastPeriod : Int32) (sv : Nat → Int32) (height : Nat → Int32) (speed : Nat → Int32) (top : Nat → Int32) (low : Nat → Int32) (motion : Nat → Int32) : va_W := [(q0, .inr (8, [.int length, .ref d0, .ref q1, .ref d1, .ref d2, .int undoMany, .ref d3, .int zeroKept, .int oneKept, .ref d4, .ref d5, .int seen, .int spot, .int kind, .int begin, .long letters, .int figures, .int value, .int plated, .int driven, .int rows, .ref q2, .ref q3, .ref q4, .ref q5, .ref q6, .ref d6, .ref d7, .ref d8, .int periods, .int leastPeriod])), (q1, .inl (Γ.2.1 0, 81, .inl sv)), (q2, .inl (Γ.2.1 0, 36, .inl height)), (q3, .inl (Γ.2.1 0, 36, .inl speed)), (q4, .inl (Γ.2.1 0, 36, .inl top)), (q5, .inl (Γ.2.1 0, 36, .inl low)), (q6, .inl (Γ.2.1 0, 36, .inl motion))]
def f_X8_runs_187 (height : Nat → Int32) (speed : Nat → Int32) (top : Nat → Int32) (low : Nat → Int32) (motion : Nat → Int32) : Option ((Nat → Int32) × (Nat → Int32) × (Nat → Int32) × (Nat → Int32) × (Nat → Int32)) := some (height, speed, top, low, motion)
def f_X8_runs_154b (sv : Nat → Int32) (height : Nat → Int32) (speed : Nat → Int32) (top : Nat → Int32) (low : Nat → Int32) (motion : Nat → Int32) (x2 : Int32) (k : (((Nat → Int32) × Int32) → Option (Nat → Int32))) : Option (Nat → Int32) := ob1 (f_X8_cells sv) (fun r_1 => if r_1 ≤ x2 then (some motion) else (if inb x2 36 = true then if inb x2 36 = true then if inb x2 36 = true then k ((upd motion (x2.toNatClampNeg) ((top (x2.toNatClampNeg)) - (low (x2.toNatClampNeg)))), (x2 + 1)) else none else none else none))
def f_X8_runs_154s (sv : Nat → Int32) (height : Nat → Int32) (speed : Nat → Int32) (top : Nat → Int32) (low : Nat → Int32) : ((Nat → Int32) × Int32) → (((Nat → Int32) × Int32) → Option (Nat → Int32)) → Option (Nat → Int32) := fun t k => f_X8_runs_154b sv height speed top low t.1 t.2 k
def f_X8_runs_154 (sv : Nat → Int32) (height : Nat → Int32) (speed : Nat → Int32) (top : Nat → Int32) (low : Nat → Int32) (motion : Nat → Int32) (x2 : Int32) : Option ((Nat → Int32) × (Nat → Int32) × (Nat → Int32) × (Nat → Int32) × (Nat → Int32)) := obx (vm_it (f_X8_runs_154s sv height speed top low) FU (motion, x2)) (fun motion => f_X8_runs_187 height speed top low motion)
def f_X8_runs_152 (sv : Nat → Int32) (height : Nat → Int32) (speed : Nat → Int32) (top : Nat → Int32) (low : Nat → Int32) (motion : Nat → Int32) : Option ((Nat → Int32) × (Nat → Int32) × (Nat → Int32) × (Nat → Int32) × (Nat → Int32)) := f_X8_runs_154 sv height speed top low motion 0
def f_X8_runs_146 (sv : Nat → Int32) (height : Nat → Int32) (speed : Nat → Int32) (top : Nat → Int32) (low : Nat → Int32) (motion : Nat → Int32) (x1 : Int32) (x2 : Int32) (k : (((Nat → Int32) × (Nat → Int32) × (Nat → Int32) × (Nat → Int32) × Int32) → Option ((Nat → Int32) × (Nat → Int32) × (Nat → Int32) × (Nat → Int32)))) : Option ((Nat → Int32) × (Nat → Int32) × (Nat → Int32) × (Nat → Int32)) := k (height, speed, top, low, (x2 + 1))
def f_X8_runs_139 (sv : Nat → Int32) (height : Nat → Int32) (speed : Nat → Int32) (top : Nat → Int32) (low : Nat → Int32) (motion : Nat → Int32) (x1 : Int32) (x2 : Int32) (x3 : Int32) (s1 : Int32) (s2 : Int32) (k : (((Nat → Int32) × (Nat → Int32) × Int32) → Option ((Nat → Int32) × (Nat → Int32)))) : Option ((Nat → Int32) × (Nat → Int32)) := if inb s1 36 = true then k (top, (upd low (s1.toNatClampNeg) s2), (x3 + 1)) else none
def f_X8_runs_103 (sv : Nat → Int32) (height : Nat → Int32) (speed : Nat → Int32) (top : Nat → Int32) (low : Nat → Int32) (motion : Nat → Int32) (x1 : Int32) (x2 : Int32) (x3 : Int32) (s1 : Int32) (s2 : Int32) (k : (((Nat → Int32) × (Nat → Int32) × Int32) → Option ((Nat → Int32) × (Nat → Int32)))) : Option ((Nat → Int32) × (Nat → Int32)) := if inb s1 36 = true then if inb x3 36 = true then if inb x3 36 = true then if (low (x3.toNatClampNeg)) ≤ (height (x3.toNatClampNeg)) then (if inb x3 36 = true then f_X8_runs_139 sv height speed (upd top (s1.toNatClampNeg) s2) low motion x1 x2 x3 x3 (low (x3.toNatClampNeg)) k else none) else (if inb x3 36 = true then f_X8_runs_139 sv height speed (upd top (s1.toNatClampNeg) s2) low motion x1 x2 x3 x3 (height (x3.toNatClampNeg)) k else none) else none else none else none
def f_X8_runs_54b (sv : Nat → Int32) (height : Nat → Int32) (speed : Nat → Int32) (motion : Nat → Int32) (x1 : Int32) (x2 : Int32) (top : Nat → Int32) (low : Nat → Int32) (x3 : Int32) (k : (((Nat → Int32) × (Nat → Int32) × Int32) → Option ((Nat → Int32) × (Nat → Int32)))) : Option ((Nat → Int32) × (Nat → Int32)) := ob1 (f_X8_cells sv) (fun r_14 => if r_14 ≤ x3 then (some (top, low)) else (if x2 < 30 then (some (top, low)) else (if inb x3 36 = true then if inb x3 36 = true then if (height (x3.toNatClampNeg)) ≤ (top (x3.toNatClampNeg)) then (if inb x3 36 = true then f_X8_runs_103 sv height speed top low motion x1 x2 x3 x3 (top (x3.toNatClampNeg)) k else none) else (if inb x3 36 = true then f_X8_runs_103 sv height speed top low motion x1 x2 x3 x3 (height (x3.toNatClampNeg)) k else none) else none else none)))
def f_X8_runs_54s (sv : Nat → Int32) (height : Nat → Int32) (speed : Nat → Int32) (motion : Nat → Int32) (x1 : Int32) (x2 : Int32) : ((Nat → Int32) × (Nat → Int32) × Int32) → (((Nat → Int32) × (Nat → Int32) × Int32) → Option ((Nat → Int32) × (Nat → Int32))) → Option ((Nat → Int32) × (Nat → Int32)) := fun t k => f_X8_runs_54b sv height speed motion x1 x2 t.1 t.2.1 t.2.2 k
def f_X8_runs_54 (sv : Nat → Int32) (height : Nat → Int32) (speed : Nat → Int32) (top : Nat → Int32) (low : Nat → Int32) (motion : Nat → Int32) (x1 : Int32) (x2 : Int32) (x3 : Int32) (k : (((Nat → Int32) × (Nat → Int32) × (Nat → Int32) × (Nat → Int32) × Int32) → Option ((Nat → Int32) × (Nat → Int32) × (Nat → Int32) × (Nat → Int32)))) : Option ((Nat → Int32) × (Nat → Int32) × (Nat → Int32) × (Nat → Int32)) := obx (vm_it (f_X8_runs_54s sv height speed motion x1 x2) FU (top, low, x3)) (un2 (fun top low => f_X8_runs_146 sv height speed top low motion x1 x2 k))
def f_X8_runs_38b (sv : Nat → Int32) (motion : Nat → Int32) (x1 : Int32) (height : Nat → Int32) (speed : Nat → Int32) (top : Nat → Int32) (low : Nat → Int32) (x2 : Int32) (k : (((Nat → Int32) × (Nat → Int32) × (Nat → Int32) × (Nat → Int32) × Int32) → Option ((Nat → Int32) × (Nat → Int32) × (Nat → Int32) × (Nat → Int32)))) : Option ((Nat → Int32) × (Nat → Int32) × (Nat → Int32) × (Nat → Int32)) := if (30 + x1) ≤ x2 then (some (height, speed, top, low)) else (ob2 (f_X8_step sv height speed x2 x1) (fun height_24 speed_25 => f_X8_runs_54 sv height_24 speed_25 top low motion x1 x2 0 k))
def f_X8_runs_38s (sv : Nat → Int32) (motion : Nat → Int32) (x1 : Int32) : ((Nat → Int32) × (Nat → Int32) × (Nat → Int32) × (Nat → Int32) × Int32) → (((Nat → Int32) × (Nat → Int32) × (Nat → Int32) × (Nat → Int32) × Int32) → Option ((Nat → Int32) × (Nat → Int32) × (Nat → Int32) × (Nat → Int32))) → Option ((Nat → Int32) × (Nat → Int32) × (Nat → Int32) × (Nat → Int32)) := fun t k => f_X8_runs_38b sv motion x1 t.1 t.2.1 t.2.2.1 t.2.2.2.1 t.2.2.2.2 k
def f_X8_runs_38 (sv : Nat → Int32) (height : Nat → Int32) (speed : Nat → Int32) (top : Nat → Int32) (low : Nat → Int32) (motion : Nat → Int32) (x1 : Int32) (x2 : Int32) : Option ((Nat → Int32) × (Nat → Int32) × (Nat → Int32) × (Nat → Int32) × (Nat → Int32)) := obx (vm_it (f_X8_runs_38s sv motion x1) FU (height, speed, top, low, x2)) (un4 (fun height speed top low => f_X8_runs_152 sv height speed top low motion))
def f_X8_runs_36 (sv : Nat → Int32) (height : Nat → Int32) (speed : Nat → Int32) (top : Nat → Int32) (low : Nat → Int32) (motion : Nat → Int32) (x1 : Int32) : Option ((Nat → Int32) × (Nat → Int32) × (Nat → Int32) × (Nat → Int32) × (Nat → Int32)) := f_X8_runs_38 sv height speed top low motion x1 0
def f_X8_runs_6b (sv : Nat → Int32) (height : Nat → Int32) (speed : Nat → Int32) (motion : Nat → Int32) (x1 : Int32) (top : Nat → Int32) (low : Nat → Int32) (x2 : Int32) (k : (((Nat → Int32) × (Nat → Int32) × Int32) → Option ((Nat → Int32) × (Nat → Int32)))) : Option ((Nat → Int32) × (Nat → Int32)) := if 36 ≤ x2 then (some (top, low)) else (if inb x2 36 = true then if inb x2 36 = true then k ((upd top (x2.toNatClampNeg) (-10000)), (upd low (x2.toNatClampNeg) 10000), (x2 + 1)) else none else none)
def f_X8_runs_6s (sv : Nat → Int32) (height : Nat → Int32) (speed : Nat → Int32) (motion : Nat → Int32) (x1 : Int32) : ((Nat → Int32) × (Nat → Int32) × Int32) → (((Nat → Int32) × (Nat → Int32) × Int32) → Option ((Nat → Int32) × (Nat → Int32))) → Option ((Nat → Int32) × (Nat → Int32)) := fun t k => f_X8_runs_6b sv height speed motion x1 t.1 t.2.1 t.2.2 k
def f_X8_runs_6 (sv : Nat → Int32) (height : Nat → Int32) (speed : Nat → Int32) (top : Nat → Int32) (low : Nat → Int32) (motion : Nat → Int32) (x1 : Int32) (x2 : Int32) : Option ((Nat → Int32) × (Nat → Int32) × (Nat → Int32) × (Nat → Int32) × (Nat → Int32)) := obx (vm_it (f_X8_runs_6s sv height speed motion x1) FU (top, low, x2)) (un2 (fun top low => f_X8_runs_36 sv height speed top low motion x1))
def f_X8_runs (sv : Nat → Int32) (height : Nat → Int32) (speed : Nat → Int32) (top : Nat → Int32) (low : Nat → Int32) (motion : Nat → Int32) (x1 : Int32) : Option ((Nat → Int32) × (Nat → Int32) × (Nat → Int32) × (Nat → Int32) × (Nat → Int32)) := ob2 (f_X8_rests height speed) (fun height_30 speed_31 => f_X8_runs_6 sv height_30 speed_31 top low motion x1 0)
set_option maxHeartbeats 4000000 in
set_option maxRecDepth 100000 in
theorem c_X8_runs (l : Launch) (Γ : GE) (sz : Nat) (q0 q1 q2 q3 q4 q5 q6 d0 d1 d2 d3 d4 d5 d6 d7 d8 : Nat) (length : Int32) (undoMany : Int32) (zeroKept : Int32) (oneKept : Int32) (seen : Int32) (spot : Int32) (kind : Int32) (begin : Int32) (letters : Int64) (figures : Int32) (value : Int32) (plated : Int32) (driven : Int32) (rows : Int32) (periods : Int32) (leastPeriod : Int32) (sv : Nat → Int32) (height : Nat → Int32) (speed : Nat → Int32) (top : Nat → Int32) (low : Nat → Int32) (motion : Nat → Int32) (x1 : Int32) (o_height : Nat → Int32) (o_speed : Nat → Int32) (o_top : Nat → Int32) (o_low : Nat → Int32) (o_motion : Nat → Int32) (hf : f_X8_runs sv height speed top low motion x1 = some (o_height, o_speed, o_top, o_low, o_motion)) : MetV l yX8_runs wsX8_runs ({ frames := 4, cells := 0, slots := 0, locals := 100 } : Room) Γ [.ref q0, .int x1] (wd_X8_runs Γ q0 q1 q2 q3 q4 q5 q6 d0 d1 d2 d3 d4 d5 d6 d7 d8 length undoMany zeroKept oneKept seen spot kind begin letters figures value plated driven rows periods leastPeriod sv height speed top low motion) (wd_X8_runs Γ q0 q1 q2 q3 q4 q5 q6 d0 d1 d2 d3 d4 d5 d6 d7 d8 length undoMany zeroKept oneKept seen spot kind begin letters figures value plated driven rows periods leastPeriod sv o_height o_speed o_top o_low o_motion) sz := by
  refine Met.ofW (cc := cX8_runs) (maxL := 4) (ret := none) (by decide) rfl ?_
  intro p e s m args below meth c s₁ B hml hv
  obtain ⟨rfl, hsz, hE, hP, hD⟩ := hv
  have hx := B.exec
  have hb := B.bytes
  have hr := B.returns
  have hts := atoms_spec (ws := wsX8_runs) B.pre
  have hown : s.vm.findClass RX8 = some m.cls := findClass_of_methodNamed B.named
  have hlocks := B.notSynchronized
  subst hsz
  generalize hAe : va_A (wd_X8_runs Γ q0 q1 q2 q3 q4 q5 q6 d0 d1 d2 d3 d4 d5 d6 d7 d8 length undoMany zeroKept oneKept seen spot kind begin letters figures value plated driven rows periods leastPeriod sv height speed top low motion) s.heap.size = A at hE hD ⊢
  have hA : ∀ q : Nat, s.heap.size ≤ q → A q := fun q h => by rw [← hAe]; exact Or.inr h
  clear hAe
  have hS : va_S A s.heap s.heap [] := va_S.rf
  have hK := hE.1
  have hl := lv_entry ([.ref q0, .int x1]) (n := 4) (Nat.le_of_ble_eq_true rfl)
  rw [lg_entry_eq]
  generalize (lg_sl ([.ref q0, .int x1]) ++ List.replicate (4 - (lg_sl ([.ref q0, .int x1])).length) Slot.unset).toArray = ls at hl ⊢
  have hl : lv_has ls 4 [(0, .ref q0), (1, .int x1)] := hl
  have hi8 : ∀ w ∈ u_ws RX8 TX8 31, w ∈ wsX8_runs := fun w h => (List.mem_cons_of_mem _ (List.mem_append_right _ h))
  obtain ⟨out, hout⟩ : ∃ o, o = (o_height, o_speed, o_top, o_low, o_motion) := ⟨_, rfl⟩
  rw [← hout] at hf
  obtain ⟨QQ, hQQ⟩ : ∃ Q, Q = MQ below (va_Qv (fun _ : Unit => True) (CQ Γ (wd_X8_runs Γ q0 q1 q2 q3 q4 q5 q6 d0 d1 d2 d3 d4 d5 d6 d7 d8 length undoMany zeroKept oneKept seen spot kind begin letters figures value plated driven rows periods leastPeriod sv o_height o_speed o_top o_low o_motion) A) A) (([.ref q0, .int x1] : List Value).toArray) s 0 0 A := ⟨_, rfl⟩
  show W p l e ({ frames := 4, cells := 0, slots := 0, locals := 100 } : Room) s m (([.ref q0, .int x1] : List Value).toArray) below meth c s.heap [] 0 0 (MQ below _ (([.ref q0, .int x1] : List Value).toArray) s 0 0 A) (F0 m 0 ls [])
  rw [← hQQ]
  have K_187 : ∀ (height : Nat → Int32) (speed : Nat → Int32) (top : Nat → Int32) (low : Nat → Int32) (motion : Nat → Int32) {H : Heap} {locs : List Loc} {ls : Array Slot}, va_P Γ.1 vwCl (wd_X8_runs Γ q0 q1 q2 q3 q4 q5 q6 d0 d1 d2 d3 d4 d5 d6 d7 d8 length undoMany zeroKept oneKept seen spot kind begin letters figures value plated driven rows periods leastPeriod sv height speed top low motion) H → va_D A (wd_X8_runs Γ q0 q1 q2 q3 q4 q5 q6 d0 d1 d2 d3 d4 d5 d6 d7 d8 length undoMany zeroKept oneKept seen spot kind begin letters figures value plated driven rows periods leastPeriod sv height speed top low motion) → va_S A s.heap H locs → lv_has ls 4 [] → f_X8_runs_187 height speed top low motion = some out → W p l e ({ frames := 4, cells := 0, slots := 0, locals := 100 } : Room) s m ([.ref q0, .int x1] : List Value).toArray below meth c H locs 0 0 QQ (F0 m 187 ls []) := by
    intro height speed top low motion H locs ls hP hD hS hl hf
    unfold f_X8_runs_187 at hf
    subst hout; obtain ⟨rfl, rfl, rfl, rfl, rfl⟩ := rt5 hf
    subst hQQ
    exact W.vret hx hb hr (fun t ht hW => ⟨⟨(), rfl, trivial, by rw [ht]; exact hP, hD⟩, hS.F ht⟩) hS.2.2 dX8_runs_187
  have K_154 : ∀ (height : Nat → Int32) (speed : Nat → Int32) (top : Nat → Int32) (low : Nat → Int32) (motion : Nat → Int32) (x2 : Int32) {H : Heap} {locs : List Loc} {ls : Array Slot}, va_P Γ.1 vwCl (wd_X8_runs Γ q0 q1 q2 q3 q4 q5 q6 d0 d1 d2 d3 d4 d5 d6 d7 d8 length undoMany zeroKept oneKept seen spot kind begin letters figures value plated driven rows periods leastPeriod sv height speed top low motion) H → va_D A (wd_X8_runs Γ q0 q1 q2 q3 q4 q5 q6 d0 d1 d2 d3 d4 d5 d6 d7 d8 length undoMany zeroKept oneKept seen spot kind begin letters figures value plated driven rows periods leastPeriod sv height speed top low motion) → va_S A s.heap H locs → lv_has ls 4 [(0, .ref q0), (2, .int x2)] → f_X8_runs_154 sv height speed top low motion x2 = some out → W p l e ({ frames := 4, cells := 0, slots := 0, locals := 100 } : Room) s m ([.ref q0, .int x1] : List Value).toArray below meth c H locs 0 0 QQ (F0 m 154 ls []) := by
    intro height speed top low motion x2 H locs ls hP hD hS hl hf
    unfold f_X8_runs_154 at hf
    obtain ⟨ex154, h1, hX154⟩ := obx_some hf
    have LP : ∀ (n : Nat) (motion : Nat → Int32) (x2 : Int32)  {H : Heap} {locs : List Loc} {ls : Array Slot}, va_P Γ.1 vwCl (wd_X8_runs Γ q0 q1 q2 q3 q4 q5 q6 d0 d1 d2 d3 d4 d5 d6 d7 d8 length undoMany zeroKept oneKept seen spot kind begin letters figures value plated driven rows periods leastPeriod sv height speed top low motion) H → va_D A (wd_X8_runs Γ q0 q1 q2 q3 q4 q5 q6 d0 d1 d2 d3 d4 d5 d6 d7 d8 length undoMany zeroKept oneKept seen spot kind begin letters figures value plated driven rows periods leastPeriod sv height speed top low motion) → va_S A s.heap H locs → lv_has ls 4 [(0, .ref q0), (2, .int x2)] → vm_it (f_X8_runs_154s sv height speed top low) n (motion, x2) = some ex154 → W p l e ({ frames := 4, cells := 0, slots := 0, locals := 100 } : Room) s m ([.ref q0, .int x1] : List Value).toArray below meth c H locs 0 0 QQ (F0 m 154 ls []) := by
      clear hP hD hS hl hf h1
      intro n
      induction n with
      | zero => intro motion x2 H locs ls hP hD hS hl hf; exact (vm_it_0 hf).elim
      | succ n ih =>
        intro motion x2 H locs ls hP hD hS hl hf
        have hf : f_X8_runs_154b sv height speed top low motion x2 (vm_it (f_X8_runs_154s sv height speed top low) n) = some ex154 := hf
        unfold f_X8_runs_154b at hf
        refine lv_iload_n hx hb dX8_runs_154 rfl (lv_at hl 1 rfl) ?_
        refine lv_aload_n hx hb dX8_runs_155 rfl (lv_at hl 0 rfl) ?_
        obtain ⟨r_1, hq_2, hf⟩ := ob1_some hf
        refine vm_cVi (isC := [0, 1]) (wc := (wd_X8_cells Γ q0 q1 d0 d1 d2 d3 d4 d5 q2 q3 q4 q5 q6 d6 d7 d8 length undoMany zeroKept oneKept seen spot kind begin letters figures value plated driven rows periods leastPeriod sv)) (w1 := (wd_X8_cells Γ q0 q1 d0 d1 d2 d3 d4 d5 q2 q3 q4 q5 q6 d6 d7 d8 length undoMany zeroKept oneKept seen spot kind begin letters figures value plated driven rows periods leastPeriod sv)) (As := []) (rest := [.int x2]) ⟨hx, hb, hml, hown, hts⟩ hE hP hD hS hA rfl rfl rfl (c_X8_cells l Γ _ q0 q1 d0 d1 d2 d3 d4 d5 q2 q3 q4 q5 q6 d6 d7 d8 length undoMany zeroKept oneKept seen spot kind begin letters figures value plated driven rows periods leastPeriod sv r_1 hq_2) (cwV 0 hts gX8_runs_X8_cells rfl rfl rfl (by decide +kernel) ⟨Nat.le_of_ble_eq_true rfl, Nat.le_of_ble_eq_true rfl⟩) (va_recv (ci := 8) (q0 := 0) hK hP rfl rfl) rfl hl.1 rfl (Nat.le_of_ble_eq_true rfl) dX8_runs_156 ⟨Nat.zero_le _, Nat.zero_le _⟩ (fun H locs hP hD hS => ?_)
        have hP : va_P Γ.1 vwCl (wd_X8_runs Γ q0 q1 q2 q3 q4 q5 q6 d0 d1 d2 d3 d4 d5 d6 d7 d8 length undoMany zeroKept oneKept seen spot kind begin letters figures value plated driven rows periods leastPeriod sv height speed top low motion) H := hP
        have hD : va_D A (wd_X8_runs Γ q0 q1 q2 q3 q4 q5 q6 d0 d1 d2 d3 d4 d5 d6 d7 d8 length undoMany zeroKept oneKept seen spot kind begin letters figures value plated driven rows periods leastPeriod sv height speed top low motion) := hD
        refine lv_icmp_ge (tgt := 187) hx hb dX8_runs_159 (by decide) (fun hc_3 => ?_) (fun hc_3 => ?_)
        · have hf := vm_pos hc_3 hf
          have hX := hX154
          rw [← Option.some.inj hf] at hX
          exact K_187 height speed top low motion hP hD hS (lv_sub hl [] rfl) hX
        · have hf := vm_neg hc_3 hf
          refine lv_aload_n hx hb dX8_runs_162 rfl (lv_at hl 0 rfl) ?_
          refine va_get (D := Γ.1) (ci := 8) (v := .ref q6) (C := RX8) (T := TX8) (N := 31) hx hb hts hi8 hown hK hP 0 rfl rfl 25 (by decide) (hts (.fieldLink RX8 43 "SandPlatesModel" "motion" "[I") (List.mem_of_getElem? (i := 4) rfl)) (fun _ h9 => h9) rfl dX8_runs_163 ?_
          refine lv_iload_n hx hb dX8_runs_166 rfl (lv_at hl 1 rfl) ?_
          refine lv_aload_n hx hb dX8_runs_167 rfl (lv_at hl 0 rfl) ?_
          refine va_get (D := Γ.1) (ci := 8) (v := .ref q4) (C := RX8) (T := TX8) (N := 31) hx hb hts hi8 hown hK hP 0 rfl rfl 23 (by decide) (hts (.fieldLink RX8 37 "SandPlatesModel" "top" "[I") (List.mem_of_getElem? (i := 1) rfl)) (fun _ h9 => h9) rfl dX8_runs_168 ?_
          refine lv_iload_n hx hb dX8_runs_171 rfl (lv_at hl 1 rfl) ?_
          obtain ⟨hc_4, hf⟩ := vm_ck hf
          refine vm_iald hx hb hK hP 4 0 rfl rfl hc_4 (j := x2.toNatClampNeg) rfl dX8_runs_172 ?_
          refine lv_aload_n hx hb dX8_runs_173 rfl (lv_at hl 0 rfl) ?_
          refine va_get (D := Γ.1) (ci := 8) (v := .ref q5) (C := RX8) (T := TX8) (N := 31) hx hb hts hi8 hown hK hP 0 rfl rfl 24 (by decide) (hts (.fieldLink RX8 40 "SandPlatesModel" "low" "[I") (List.mem_of_getElem? (i := 2) rfl)) (fun _ h9 => h9) rfl dX8_runs_174 ?_
          refine lv_iload_n hx hb dX8_runs_177 rfl (lv_at hl 1 rfl) ?_
          obtain ⟨hc_5, hf⟩ := vm_ck hf
          refine vm_iald hx hb hK hP 5 0 rfl rfl hc_5 (j := x2.toNatClampNeg) rfl dX8_runs_178 ?_
          refine lv_isub hx hb dX8_runs_179 ?_
          obtain ⟨hc_6, hf⟩ := vm_ck hf
          refine vm_iast hx hb hK hP hD hS 6 0 rfl rfl hc_6 (j := (x2.toNatClampNeg)) rfl dX8_runs_180 (fun H locs hP hD hS => ?_)
          have hP : va_P Γ.1 vwCl (wd_X8_runs Γ q0 q1 q2 q3 q4 q5 q6 d0 d1 d2 d3 d4 d5 d6 d7 d8 length undoMany zeroKept oneKept seen spot kind begin letters figures value plated driven rows periods leastPeriod sv height speed top low (upd motion (x2.toNatClampNeg) ((top (x2.toNatClampNeg)) - (low (x2.toNatClampNeg))))) H := hP
          have hD : va_D A (wd_X8_runs Γ q0 q1 q2 q3 q4 q5 q6 d0 d1 d2 d3 d4 d5 d6 d7 d8 length undoMany zeroKept oneKept seen spot kind begin letters figures value plated driven rows periods leastPeriod sv height speed top low (upd motion (x2.toNatClampNeg) ((top (x2.toNatClampNeg)) - (low (x2.toNatClampNeg))))) := hD
          refine lv_iinc (v := (x2 + 1)) (lv' := [(2, .int (x2 + 1)), (0, .ref q0)]) hx hb dX8_runs_181 hl (k := 1) rfl rfl (by decide) rfl (fun ls hl => ?_)
          refine lv_goto (tgt := 154) hx hb dX8_runs_184 (by decide) ?_
          exact ih (upd motion (x2.toNatClampNeg) ((top (x2.toNatClampNeg)) - (low (x2.toNatClampNeg)))) (x2 + 1) hP hD hS (lv_sub hl [1, 0] rfl) hf
    exact LP FU motion x2 hP hD hS hl h1
  have K_152 : ∀ (height : Nat → Int32) (speed : Nat → Int32) (top : Nat → Int32) (low : Nat → Int32) (motion : Nat → Int32) {H : Heap} {locs : List Loc} {ls : Array Slot}, va_P Γ.1 vwCl (wd_X8_runs Γ q0 q1 q2 q3 q4 q5 q6 d0 d1 d2 d3 d4 d5 d6 d7 d8 length undoMany zeroKept oneKept seen spot kind begin letters figures value plated driven rows periods leastPeriod sv height speed top low motion) H → va_D A (wd_X8_runs Γ q0 q1 q2 q3 q4 q5 q6 d0 d1 d2 d3 d4 d5 d6 d7 d8 length undoMany zeroKept oneKept seen spot kind begin letters figures value plated driven rows periods leastPeriod sv height speed top low motion) → va_S A s.heap H locs → lv_has ls 4 [(0, .ref q0)] → f_X8_runs_152 sv height speed top low motion = some out → W p l e ({ frames := 4, cells := 0, slots := 0, locals := 100 } : Room) s m ([.ref q0, .int x1] : List Value).toArray below meth c H locs 0 0 QQ (F0 m 152 ls []) := by
    intro height speed top low motion H locs ls hP hD hS hl hf
    unfold f_X8_runs_152 at hf
    refine lv_iconst (v := 0) hx hb dX8_runs_152 (by decide) ?_
    refine lv_istore_n (lv' := [(2, .int 0), (0, .ref q0)]) hx hb dX8_runs_153 rfl hl (by decide) rfl (fun ls hl => ?_)
    exact K_154 height speed top low motion 0 hP hD hS (lv_sub hl [1, 0] rfl) hf
  have K_38 : ∀ (height : Nat → Int32) (speed : Nat → Int32) (top : Nat → Int32) (low : Nat → Int32) (motion : Nat → Int32) (x2 : Int32) {H : Heap} {locs : List Loc} {ls : Array Slot}, va_P Γ.1 vwCl (wd_X8_runs Γ q0 q1 q2 q3 q4 q5 q6 d0 d1 d2 d3 d4 d5 d6 d7 d8 length undoMany zeroKept oneKept seen spot kind begin letters figures value plated driven rows periods leastPeriod sv height speed top low motion) H → va_D A (wd_X8_runs Γ q0 q1 q2 q3 q4 q5 q6 d0 d1 d2 d3 d4 d5 d6 d7 d8 length undoMany zeroKept oneKept seen spot kind begin letters figures value plated driven rows periods leastPeriod sv height speed top low motion) → va_S A s.heap H locs → lv_has ls 4 [(0, .ref q0), (1, .int x1), (2, .int x2)] → f_X8_runs_38 sv height speed top low motion x1 x2 = some out → W p l e ({ frames := 4, cells := 0, slots := 0, locals := 100 } : Room) s m ([.ref q0, .int x1] : List Value).toArray below meth c H locs 0 0 QQ (F0 m 38 ls []) := by
    intro height speed top low motion x2 H locs ls hP hD hS hl hf
    unfold f_X8_runs_38 at hf
    obtain ⟨ex38, h1, hX38⟩ := obx_some hf
    have LP : ∀ (n : Nat) (height : Nat → Int32) (speed : Nat → Int32) (top : Nat → Int32) (low : Nat → Int32) (x2 : Int32)  {H : Heap} {locs : List Loc} {ls : Array Slot}, va_P Γ.1 vwCl (wd_X8_runs Γ q0 q1 q2 q3 q4 q5 q6 d0 d1 d2 d3 d4 d5 d6 d7 d8 length undoMany zeroKept oneKept seen spot kind begin letters figures value plated driven rows periods leastPeriod sv height speed top low motion) H → va_D A (wd_X8_runs Γ q0 q1 q2 q3 q4 q5 q6 d0 d1 d2 d3 d4 d5 d6 d7 d8 length undoMany zeroKept oneKept seen spot kind begin letters figures value plated driven rows periods leastPeriod sv height speed top low motion) → va_S A s.heap H locs → lv_has ls 4 [(0, .ref q0), (1, .int x1), (2, .int x2)] → vm_it (f_X8_runs_38s sv motion x1) n (height, speed, top, low, x2) = some ex38 → W p l e ({ frames := 4, cells := 0, slots := 0, locals := 100 } : Room) s m ([.ref q0, .int x1] : List Value).toArray below meth c H locs 0 0 QQ (F0 m 38 ls []) := by
      clear hP hD hS hl hf h1
      intro n
      induction n with
      | zero => intro height speed top low x2 H locs ls hP hD hS hl hf; exact (vm_it_0 hf).elim
      | succ n ih =>
        intro height speed top low x2 H locs ls hP hD hS hl hf
        have hf : f_X8_runs_38b sv motion x1 height speed top low x2 (vm_it (f_X8_runs_38s sv motion x1) n) = some ex38 := hf
        have K_146 : ∀ (height : Nat → Int32) (speed : Nat → Int32) (top : Nat → Int32) (low : Nat → Int32) (x2 : Int32) {H : Heap} {locs : List Loc} {ls : Array Slot}, va_P Γ.1 vwCl (wd_X8_runs Γ q0 q1 q2 q3 q4 q5 q6 d0 d1 d2 d3 d4 d5 d6 d7 d8 length undoMany zeroKept oneKept seen spot kind begin letters figures value plated driven rows periods leastPeriod sv height speed top low motion) H → va_D A (wd_X8_runs Γ q0 q1 q2 q3 q4 q5 q6 d0 d1 d2 d3 d4 d5 d6 d7 d8 length undoMany zeroKept oneKept seen spot kind begin letters figures value plated driven rows periods leastPeriod sv height speed top low motion) → va_S A s.heap H locs → lv_has ls 4 [(0, .ref q0), (1, .int x1), (2, .int x2)] → f_X8_runs_146 sv height speed top low motion x1 x2 (vm_it (f_X8_runs_38s sv motion x1) n) = some ex38 → W p l e ({ frames := 4, cells := 0, slots := 0, locals := 100 } : Room) s m ([.ref q0, .int x1] : List Value).toArray below meth c H locs 0 0 QQ (F0 m 146 ls []) := by
          intro height speed top low x2 H locs ls hP hD hS hl hf
          unfold f_X8_runs_146 at hf
          refine lv_iinc (v := (x2 + 1)) (lv' := [(2, .int (x2 + 1)), (0, .ref q0), (1, .int x1)]) hx hb dX8_runs_146 hl (k := 2) rfl rfl (by decide) rfl (fun ls hl => ?_)
          refine lv_goto (tgt := 38) hx hb dX8_runs_149 (by decide) ?_
          exact ih height speed top low (x2 + 1) hP hD hS (lv_sub hl [1, 2, 0] rfl) hf
        have K_54 : ∀ (height : Nat → Int32) (speed : Nat → Int32) (top : Nat → Int32) (low : Nat → Int32) (x2 : Int32) (x3 : Int32) {H : Heap} {locs : List Loc} {ls : Array Slot}, va_P Γ.1 vwCl (wd_X8_runs Γ q0 q1 q2 q3 q4 q5 q6 d0 d1 d2 d3 d4 d5 d6 d7 d8 length undoMany zeroKept oneKept seen spot kind begin letters figures value plated driven rows periods leastPeriod sv height speed top low motion) H → va_D A (wd_X8_runs Γ q0 q1 q2 q3 q4 q5 q6 d0 d1 d2 d3 d4 d5 d6 d7 d8 length undoMany zeroKept oneKept seen spot kind begin letters figures value plated driven rows periods leastPeriod sv height speed top low motion) → va_S A s.heap H locs → lv_has ls 4 [(0, .ref q0), (1, .int x1), (2, .int x2), (3, .int x3)] → f_X8_runs_54 sv height speed top low motion x1 x2 x3 (vm_it (f_X8_runs_38s sv motion x1) n) = some ex38 → W p l e ({ frames := 4, cells := 0, slots := 0, locals := 100 } : Room) s m ([.ref q0, .int x1] : List Value).toArray below meth c H locs 0 0 QQ (F0 m 54 ls []) := by
          intro height speed top low x2 x3 H locs ls hP hD hS hl hf
          unfold f_X8_runs_54 at hf
          obtain ⟨ex54, h1, hX54⟩ := obx_some hf
          have LP : ∀ (n : Nat) (top : Nat → Int32) (low : Nat → Int32) (x3 : Int32)  {H : Heap} {locs : List Loc} {ls : Array Slot}, va_P Γ.1 vwCl (wd_X8_runs Γ q0 q1 q2 q3 q4 q5 q6 d0 d1 d2 d3 d4 d5 d6 d7 d8 length undoMany zeroKept oneKept seen spot kind begin letters figures value plated driven rows periods leastPeriod sv height speed top low motion) H → va_D A (wd_X8_runs Γ q0 q1 q2 q3 q4 q5 q6 d0 d1 d2 d3 d4 d5 d6 d7 d8 length undoMany zeroKept oneKept seen spot kind begin letters figures value plated driven rows periods leastPeriod sv height speed top low motion) → va_S A s.heap H locs → lv_has ls 4 [(0, .ref q0), (1, .int x1), (2, .int x2), (3, .int x3)] → vm_it (f_X8_runs_54s sv height speed motion x1 x2) n (top, low, x3) = some ex54 → W p l e ({ frames := 4, cells := 0, slots := 0, locals := 100 } : Room) s m ([.ref q0, .int x1] : List Value).toArray below meth c H locs 0 0 QQ (F0 m 54 ls []) := by
            clear hP hD hS hl hf h1
            intro n
            induction n with
            | zero => intro top low x3 H locs ls hP hD hS hl hf; exact (vm_it_0 hf).elim
            | succ n ih =>
              intro top low x3 H locs ls hP hD hS hl hf
              have hf : f_X8_runs_54b sv height speed motion x1 x2 top low x3 (vm_it (f_X8_runs_54s sv height speed motion x1 x2) n) = some ex54 := hf
              have K_139 : ∀ (top : Nat → Int32) (low : Nat → Int32) (x3 : Int32) (s1 : Int32) (s2 : Int32) {H : Heap} {locs : List Loc} {ls : Array Slot}, va_P Γ.1 vwCl (wd_X8_runs Γ q0 q1 q2 q3 q4 q5 q6 d0 d1 d2 d3 d4 d5 d6 d7 d8 length undoMany zeroKept oneKept seen spot kind begin letters figures value plated driven rows periods leastPeriod sv height speed top low motion) H → va_D A (wd_X8_runs Γ q0 q1 q2 q3 q4 q5 q6 d0 d1 d2 d3 d4 d5 d6 d7 d8 length undoMany zeroKept oneKept seen spot kind begin letters figures value plated driven rows periods leastPeriod sv height speed top low motion) → va_S A s.heap H locs → lv_has ls 4 [(0, .ref q0), (1, .int x1), (2, .int x2), (3, .int x3)] → f_X8_runs_139 sv height speed top low motion x1 x2 x3 s1 s2 (vm_it (f_X8_runs_54s sv height speed motion x1 x2) n) = some ex54 → W p l e ({ frames := 4, cells := 0, slots := 0, locals := 100 } : Room) s m ([.ref q0, .int x1] : List Value).toArray below meth c H locs 0 0 QQ (F0 m 139 ls [.int s2, .int s1, .ref q5]) := by
                intro top low x3 s1 s2 H locs ls hP hD hS hl hf
                unfold f_X8_runs_139 at hf
                obtain ⟨hc_7, hf⟩ := vm_ck hf
                refine vm_iast hx hb hK hP hD hS 5 0 rfl rfl hc_7 (j := (s1.toNatClampNeg)) rfl dX8_runs_139 (fun H locs hP hD hS => ?_)
                have hP : va_P Γ.1 vwCl (wd_X8_runs Γ q0 q1 q2 q3 q4 q5 q6 d0 d1 d2 d3 d4 d5 d6 d7 d8 length undoMany zeroKept oneKept seen spot kind begin letters figures value plated driven rows periods leastPeriod sv height speed top (upd low (s1.toNatClampNeg) s2) motion) H := hP
                have hD : va_D A (wd_X8_runs Γ q0 q1 q2 q3 q4 q5 q6 d0 d1 d2 d3 d4 d5 d6 d7 d8 length undoMany zeroKept oneKept seen spot kind begin letters figures value plated driven rows periods leastPeriod sv height speed top (upd low (s1.toNatClampNeg) s2) motion) := hD
                refine lv_iinc (v := (x3 + 1)) (lv' := [(3, .int (x3 + 1)), (0, .ref q0), (1, .int x1), (2, .int x2)]) hx hb dX8_runs_140 hl (k := 3) rfl rfl (by decide) rfl (fun ls hl => ?_)
                refine lv_goto (tgt := 54) hx hb dX8_runs_143 (by decide) ?_
                exact ih top (upd low (s1.toNatClampNeg) s2) (x3 + 1) hP hD hS (lv_sub hl [1, 2, 3, 0] rfl) hf
              have K_103 : ∀ (top : Nat → Int32) (low : Nat → Int32) (x3 : Int32) (s1 : Int32) (s2 : Int32) {H : Heap} {locs : List Loc} {ls : Array Slot}, va_P Γ.1 vwCl (wd_X8_runs Γ q0 q1 q2 q3 q4 q5 q6 d0 d1 d2 d3 d4 d5 d6 d7 d8 length undoMany zeroKept oneKept seen spot kind begin letters figures value plated driven rows periods leastPeriod sv height speed top low motion) H → va_D A (wd_X8_runs Γ q0 q1 q2 q3 q4 q5 q6 d0 d1 d2 d3 d4 d5 d6 d7 d8 length undoMany zeroKept oneKept seen spot kind begin letters figures value plated driven rows periods leastPeriod sv height speed top low motion) → va_S A s.heap H locs → lv_has ls 4 [(0, .ref q0), (1, .int x1), (2, .int x2), (3, .int x3)] → f_X8_runs_103 sv height speed top low motion x1 x2 x3 s1 s2 (vm_it (f_X8_runs_54s sv height speed motion x1 x2) n) = some ex54 → W p l e ({ frames := 4, cells := 0, slots := 0, locals := 100 } : Room) s m ([.ref q0, .int x1] : List Value).toArray below meth c H locs 0 0 QQ (F0 m 103 ls [.int s2, .int s1, .ref q4]) := by
                intro top low x3 s1 s2 H locs ls hP hD hS hl hf
                unfold f_X8_runs_103 at hf
                obtain ⟨hc_8, hf⟩ := vm_ck hf
                refine vm_iast hx hb hK hP hD hS 4 0 rfl rfl hc_8 (j := (s1.toNatClampNeg)) rfl dX8_runs_103 (fun H locs hP hD hS => ?_)
                have hP : va_P Γ.1 vwCl (wd_X8_runs Γ q0 q1 q2 q3 q4 q5 q6 d0 d1 d2 d3 d4 d5 d6 d7 d8 length undoMany zeroKept oneKept seen spot kind begin letters figures value plated driven rows periods leastPeriod sv height speed (upd top (s1.toNatClampNeg) s2) low motion) H := hP
                have hD : va_D A (wd_X8_runs Γ q0 q1 q2 q3 q4 q5 q6 d0 d1 d2 d3 d4 d5 d6 d7 d8 length undoMany zeroKept oneKept seen spot kind begin letters figures value plated driven rows periods leastPeriod sv height speed (upd top (s1.toNatClampNeg) s2) low motion) := hD
                refine lv_aload_n hx hb dX8_runs_104 rfl (lv_at hl 0 rfl) ?_
                refine va_get (D := Γ.1) (ci := 8) (v := .ref q5) (C := RX8) (T := TX8) (N := 31) hx hb hts hi8 hown hK hP 0 rfl rfl 24 (by decide) (hts (.fieldLink RX8 40 "SandPlatesModel" "low" "[I") (List.mem_of_getElem? (i := 2) rfl)) (fun _ h9 => h9) rfl dX8_runs_105 ?_
                refine lv_iload_n hx hb dX8_runs_108 rfl (lv_at hl 3 rfl) ?_
                refine lv_aload_n hx hb dX8_runs_109 rfl (lv_at hl 0 rfl) ?_
                refine va_get (D := Γ.1) (ci := 8) (v := .ref q2) (C := RX8) (T := TX8) (N := 31) hx hb hts hi8 hown hK hP 0 rfl rfl 21 (by decide) (hts (.fieldLink RX8 31 "SandPlatesModel" "height" "[I") (List.mem_of_getElem? (i := 3) rfl)) (fun _ h9 => h9) rfl dX8_runs_110 ?_
                refine lv_iload_n hx hb dX8_runs_113 rfl (lv_at hl 3 rfl) ?_
                obtain ⟨hc_9, hf⟩ := vm_ck hf
                refine vm_iald hx hb hK hP 2 0 rfl rfl hc_9 (j := x3.toNatClampNeg) rfl dX8_runs_114 ?_
                refine lv_aload_n hx hb dX8_runs_115 rfl (lv_at hl 0 rfl) ?_
                refine va_get (D := Γ.1) (ci := 8) (v := .ref q5) (C := RX8) (T := TX8) (N := 31) hx hb hts hi8 hown hK hP 0 rfl rfl 24 (by decide) (hts (.fieldLink RX8 40 "SandPlatesModel" "low" "[I") (List.mem_of_getElem? (i := 2) rfl)) (fun _ h9 => h9) rfl dX8_runs_116 ?_
                refine lv_iload_n hx hb dX8_runs_119 rfl (lv_at hl 3 rfl) ?_
                obtain ⟨hc_10, hf⟩ := vm_ck hf
                refine vm_iald hx hb hK hP 5 0 rfl rfl hc_10 (j := x3.toNatClampNeg) rfl dX8_runs_120 ?_
                refine lv_icmp_ge (tgt := 133) hx hb dX8_runs_121 (by decide) (fun hc_11 => ?_) (fun hc_11 => ?_)
                · have hf := vm_pos hc_11 hf
                  refine lv_aload_n hx hb dX8_runs_133 rfl (lv_at hl 0 rfl) ?_
                  refine va_get (D := Γ.1) (ci := 8) (v := .ref q5) (C := RX8) (T := TX8) (N := 31) hx hb hts hi8 hown hK hP 0 rfl rfl 24 (by decide) (hts (.fieldLink RX8 40 "SandPlatesModel" "low" "[I") (List.mem_of_getElem? (i := 2) rfl)) (fun _ h9 => h9) rfl dX8_runs_134 ?_
                  refine lv_iload_n hx hb dX8_runs_137 rfl (lv_at hl 3 rfl) ?_
                  obtain ⟨hc_12, hf⟩ := vm_ck hf
                  refine vm_iald hx hb hK hP 5 0 rfl rfl hc_12 (j := x3.toNatClampNeg) rfl dX8_runs_138 ?_
                  exact K_139 (upd top (s1.toNatClampNeg) s2) low x3 x3 (low (x3.toNatClampNeg)) hP hD hS (lv_sub hl [0, 1, 2, 3] rfl) hf
                · have hf := vm_neg hc_11 hf
                  refine lv_aload_n hx hb dX8_runs_124 rfl (lv_at hl 0 rfl) ?_
                  refine va_get (D := Γ.1) (ci := 8) (v := .ref q2) (C := RX8) (T := TX8) (N := 31) hx hb hts hi8 hown hK hP 0 rfl rfl 21 (by decide) (hts (.fieldLink RX8 31 "SandPlatesModel" "height" "[I") (List.mem_of_getElem? (i := 3) rfl)) (fun _ h9 => h9) rfl dX8_runs_125 ?_
                  refine lv_iload_n hx hb dX8_runs_128 rfl (lv_at hl 3 rfl) ?_
                  obtain ⟨hc_13, hf⟩ := vm_ck hf
                  refine vm_iald hx hb hK hP 2 0 rfl rfl hc_13 (j := x3.toNatClampNeg) rfl dX8_runs_129 ?_
                  refine lv_goto (tgt := 139) hx hb dX8_runs_130 (by decide) ?_
                  exact K_139 (upd top (s1.toNatClampNeg) s2) low x3 x3 (height (x3.toNatClampNeg)) hP hD hS (lv_sub hl [0, 1, 2, 3] rfl) hf
              unfold f_X8_runs_54b at hf
              refine lv_iload_n hx hb dX8_runs_54 rfl (lv_at hl 3 rfl) ?_
              refine lv_aload_n hx hb dX8_runs_55 rfl (lv_at hl 0 rfl) ?_
              obtain ⟨r_14, hq_15, hf⟩ := ob1_some hf
              refine vm_cVi (isC := [0, 1]) (wc := (wd_X8_cells Γ q0 q1 d0 d1 d2 d3 d4 d5 q2 q3 q4 q5 q6 d6 d7 d8 length undoMany zeroKept oneKept seen spot kind begin letters figures value plated driven rows periods leastPeriod sv)) (w1 := (wd_X8_cells Γ q0 q1 d0 d1 d2 d3 d4 d5 q2 q3 q4 q5 q6 d6 d7 d8 length undoMany zeroKept oneKept seen spot kind begin letters figures value plated driven rows periods leastPeriod sv)) (As := []) (rest := [.int x3]) ⟨hx, hb, hml, hown, hts⟩ hE hP hD hS hA rfl rfl rfl (c_X8_cells l Γ _ q0 q1 d0 d1 d2 d3 d4 d5 q2 q3 q4 q5 q6 d6 d7 d8 length undoMany zeroKept oneKept seen spot kind begin letters figures value plated driven rows periods leastPeriod sv r_14 hq_15) (cwV 0 hts gX8_runs_X8_cells rfl rfl rfl (by decide +kernel) ⟨Nat.le_of_ble_eq_true rfl, Nat.le_of_ble_eq_true rfl⟩) (va_recv (ci := 8) (q0 := 0) hK hP rfl rfl) rfl hl.1 rfl (Nat.le_of_ble_eq_true rfl) dX8_runs_56 ⟨Nat.zero_le _, Nat.zero_le _⟩ (fun H locs hP hD hS => ?_)
              have hP : va_P Γ.1 vwCl (wd_X8_runs Γ q0 q1 q2 q3 q4 q5 q6 d0 d1 d2 d3 d4 d5 d6 d7 d8 length undoMany zeroKept oneKept seen spot kind begin letters figures value plated driven rows periods leastPeriod sv height speed top low motion) H := hP
              have hD : va_D A (wd_X8_runs Γ q0 q1 q2 q3 q4 q5 q6 d0 d1 d2 d3 d4 d5 d6 d7 d8 length undoMany zeroKept oneKept seen spot kind begin letters figures value plated driven rows periods leastPeriod sv height speed top low motion) := hD
              refine lv_icmp_ge (tgt := 146) hx hb dX8_runs_59 (by decide) (fun hc_16 => ?_) (fun hc_16 => ?_)
              · have hf := vm_pos hc_16 hf
                have hX := hX54
                rw [← Option.some.inj hf] at hX
                exact K_146 height speed top low x2 hP hD hS (lv_sub hl [0, 1, 2] rfl) hX
              · have hf := vm_neg hc_16 hf
                refine lv_iload_n hx hb dX8_runs_62 rfl (lv_at hl 2 rfl) ?_
                refine lv_bipush (v := 30) hx hb dX8_runs_63 (by decide) ?_
                refine lv_icmp_lt (tgt := 146) hx hb dX8_runs_65 (by decide) (fun hc_17 => ?_) (fun hc_17 => ?_)
                · have hf := vm_pos hc_17 hf
                  have hX := hX54
                  rw [← Option.some.inj hf] at hX
                  exact K_146 height speed top low x2 hP hD hS (lv_sub hl [0, 1, 2] rfl) hX
                · have hf := vm_neg hc_17 hf
                  refine lv_aload_n hx hb dX8_runs_68 rfl (lv_at hl 0 rfl) ?_
                  refine va_get (D := Γ.1) (ci := 8) (v := .ref q4) (C := RX8) (T := TX8) (N := 31) hx hb hts hi8 hown hK hP 0 rfl rfl 23 (by decide) (hts (.fieldLink RX8 37 "SandPlatesModel" "top" "[I") (List.mem_of_getElem? (i := 1) rfl)) (fun _ h9 => h9) rfl dX8_runs_69 ?_
                  refine lv_iload_n hx hb dX8_runs_72 rfl (lv_at hl 3 rfl) ?_
                  refine lv_aload_n hx hb dX8_runs_73 rfl (lv_at hl 0 rfl) ?_
                  refine va_get (D := Γ.1) (ci := 8) (v := .ref q2) (C := RX8) (T := TX8) (N := 31) hx hb hts hi8 hown hK hP 0 rfl rfl 21 (by decide) (hts (.fieldLink RX8 31 "SandPlatesModel" "height" "[I") (List.mem_of_getElem? (i := 3) rfl)) (fun _ h9 => h9) rfl dX8_runs_74 ?_
                  refine lv_iload_n hx hb dX8_runs_77 rfl (lv_at hl 3 rfl) ?_
                  obtain ⟨hc_18, hf⟩ := vm_ck hf
                  refine vm_iald hx hb hK hP 2 0 rfl rfl hc_18 (j := x3.toNatClampNeg) rfl dX8_runs_78 ?_
                  refine lv_aload_n hx hb dX8_runs_79 rfl (lv_at hl 0 rfl) ?_
                  refine va_get (D := Γ.1) (ci := 8) (v := .ref q4) (C := RX8) (T := TX8) (N := 31) hx hb hts hi8 hown hK hP 0 rfl rfl 23 (by decide) (hts (.fieldLink RX8 37 "SandPlatesModel" "top" "[I") (List.mem_of_getElem? (i := 1) rfl)) (fun _ h9 => h9) rfl dX8_runs_80 ?_
                  refine lv_iload_n hx hb dX8_runs_83 rfl (lv_at hl 3 rfl) ?_
                  obtain ⟨hc_19, hf⟩ := vm_ck hf
                  refine vm_iald hx hb hK hP 4 0 rfl rfl hc_19 (j := x3.toNatClampNeg) rfl dX8_runs_84 ?_
                  refine lv_icmp_le (tgt := 97) hx hb dX8_runs_85 (by decide) (fun hc_20 => ?_) (fun hc_20 => ?_)
                  · have hf := vm_pos hc_20 hf
                    refine lv_aload_n hx hb dX8_runs_97 rfl (lv_at hl 0 rfl) ?_
                    refine va_get (D := Γ.1) (ci := 8) (v := .ref q4) (C := RX8) (T := TX8) (N := 31) hx hb hts hi8 hown hK hP 0 rfl rfl 23 (by decide) (hts (.fieldLink RX8 37 "SandPlatesModel" "top" "[I") (List.mem_of_getElem? (i := 1) rfl)) (fun _ h9 => h9) rfl dX8_runs_98 ?_
                    refine lv_iload_n hx hb dX8_runs_101 rfl (lv_at hl 3 rfl) ?_
                    obtain ⟨hc_21, hf⟩ := vm_ck hf
                    refine vm_iald hx hb hK hP 4 0 rfl rfl hc_21 (j := x3.toNatClampNeg) rfl dX8_runs_102 ?_
                    exact K_103 top low x3 x3 (top (x3.toNatClampNeg)) hP hD hS (lv_sub hl [0, 1, 2, 3] rfl) hf
                  · have hf := vm_neg hc_20 hf
                    refine lv_aload_n hx hb dX8_runs_88 rfl (lv_at hl 0 rfl) ?_
                    refine va_get (D := Γ.1) (ci := 8) (v := .ref q2) (C := RX8) (T := TX8) (N := 31) hx hb hts hi8 hown hK hP 0 rfl rfl 21 (by decide) (hts (.fieldLink RX8 31 "SandPlatesModel" "height" "[I") (List.mem_of_getElem? (i := 3) rfl)) (fun _ h9 => h9) rfl dX8_runs_89 ?_
                    refine lv_iload_n hx hb dX8_runs_92 rfl (lv_at hl 3 rfl) ?_
                    obtain ⟨hc_22, hf⟩ := vm_ck hf
                    refine vm_iald hx hb hK hP 2 0 rfl rfl hc_22 (j := x3.toNatClampNeg) rfl dX8_runs_93 ?_
                    refine lv_goto (tgt := 103) hx hb dX8_runs_94 (by decide) ?_
                    exact K_103 top low x3 x3 (height (x3.toNatClampNeg)) hP hD hS (lv_sub hl [0, 1, 2, 3] rfl) hf
          exact LP FU top low x3 hP hD hS hl h1
        unfold f_X8_runs_38b at hf
        refine lv_iload_n hx hb dX8_runs_38 rfl (lv_at hl 2 rfl) ?_
        refine lv_bipush (v := 30) hx hb dX8_runs_39 (by decide) ?_
        refine lv_iload_n hx hb dX8_runs_41 rfl (lv_at hl 1 rfl) ?_
        refine lv_iadd hx hb dX8_runs_42 ?_
        refine lv_icmp_ge (tgt := 152) hx hb dX8_runs_43 (by decide) (fun hc_23 => ?_) (fun hc_23 => ?_)
        · have hf := vm_pos hc_23 hf
          have hX := hX38
          rw [← Option.some.inj hf] at hX
          exact K_152 height speed top low motion hP hD hS (lv_sub hl [0] rfl) hX
        · have hf := vm_neg hc_23 hf
          refine lv_aload_n hx hb dX8_runs_46 rfl (lv_at hl 0 rfl) ?_
          refine lv_iload_n hx hb dX8_runs_47 rfl (lv_at hl 2 rfl) ?_
          refine lv_iload_n hx hb dX8_runs_48 rfl (lv_at hl 1 rfl) ?_
          obtain ⟨height_24, speed_25, hq_26, hf⟩ := ob2_some hf
          refine vm_cVv (isC := [0, 1, 2, 3]) (wc := (wd_X8_step Γ q0 q1 q2 q3 d0 d1 d2 d3 d4 d5 q4 q5 q6 d6 d7 d8 length undoMany zeroKept oneKept seen spot kind begin letters figures value plated driven rows periods leastPeriod sv height speed)) (w1 := (wd_X8_step Γ q0 q1 q2 q3 d0 d1 d2 d3 d4 d5 q4 q5 q6 d6 d7 d8 length undoMany zeroKept oneKept seen spot kind begin letters figures value plated driven rows periods leastPeriod sv height_24 speed_25)) (As := [.int x2, .int x1]) (rest := []) ⟨hx, hb, hml, hown, hts⟩ hE hP hD hS hA rfl rfl rfl (c_X8_step l Γ _ q0 q1 q2 q3 d0 d1 d2 d3 d4 d5 q4 q5 q6 d6 d7 d8 length undoMany zeroKept oneKept seen spot kind begin letters figures value plated driven rows periods leastPeriod sv height speed x2 x1 height_24 speed_25 hq_26) (cwV 2 hts gX8_runs_X8_step rfl rfl rfl (by decide +kernel) ⟨Nat.le_of_ble_eq_true rfl, Nat.le_of_ble_eq_true rfl⟩) (va_recv (ci := 8) (q0 := 0) hK hP rfl rfl) rfl hl.1 rfl (Nat.le_of_ble_eq_true rfl) dX8_runs_49 ⟨Nat.zero_le _, Nat.zero_le _⟩ (fun H locs hP hD hS => ?_)
          have hP : va_P Γ.1 vwCl (wd_X8_runs Γ q0 q1 q2 q3 q4 q5 q6 d0 d1 d2 d3 d4 d5 d6 d7 d8 length undoMany zeroKept oneKept seen spot kind begin letters figures value plated driven rows periods leastPeriod sv height_24 speed_25 top low motion) H := hP
          have hD : va_D A (wd_X8_runs Γ q0 q1 q2 q3 q4 q5 q6 d0 d1 d2 d3 d4 d5 d6 d7 d8 length undoMany zeroKept oneKept seen spot kind begin letters figures value plated driven rows periods leastPeriod sv height_24 speed_25 top low motion) := hD
          refine lv_iconst (v := 0) hx hb dX8_runs_52 (by decide) ?_
          refine lv_istore_n (lv' := [(3, .int 0), (0, .ref q0), (1, .int x1), (2, .int x2)]) hx hb dX8_runs_53 rfl hl (by decide) rfl (fun ls hl => ?_)
          exact K_54 height_24 speed_25 top low x2 0 hP hD hS (lv_sub hl [1, 2, 3, 0] rfl) hf
    exact LP FU height speed top low x2 hP hD hS hl h1
  have K_36 : ∀ (height : Nat → Int32) (speed : Nat → Int32) (top : Nat → Int32) (low : Nat → Int32) (motion : Nat → Int32) {H : Heap} {locs : List Loc} {ls : Array Slot}, va_P Γ.1 vwCl (wd_X8_runs Γ q0 q1 q2 q3 q4 q5 q6 d0 d1 d2 d3 d4 d5 d6 d7 d8 length undoMany zeroKept oneKept seen spot kind begin letters figures value plated driven rows periods leastPeriod sv height speed top low motion) H → va_D A (wd_X8_runs Γ q0 q1 q2 q3 q4 q5 q6 d0 d1 d2 d3 d4 d5 d6 d7 d8 length undoMany zeroKept oneKept seen spot kind begin letters figures value plated driven rows periods leastPeriod sv height speed top low motion) → va_S A s.heap H locs → lv_has ls 4 [(0, .ref q0), (1, .int x1)] → f_X8_runs_36 sv height speed top low motion x1 = some out → W p l e ({ frames := 4, cells := 0, slots := 0, locals := 100 } : Room) s m ([.ref q0, .int x1] : List Value).toArray below meth c H locs 0 0 QQ (F0 m 36 ls []) := by
    intro height speed top low motion H locs ls hP hD hS hl hf
    unfold f_X8_runs_36 at hf
    refine lv_iconst (v := 0) hx hb dX8_runs_36 (by decide) ?_
    refine lv_istore_n (lv' := [(2, .int 0), (0, .ref q0), (1, .int x1)]) hx hb dX8_runs_37 rfl hl (by decide) rfl (fun ls hl => ?_)
    exact K_38 height speed top low motion 0 hP hD hS (lv_sub hl [1, 2, 0] rfl) hf
  have K_6 : ∀ (height : Nat → Int32) (speed : Nat → Int32) (top : Nat → Int32) (low : Nat → Int32) (motion : Nat → Int32) (x2 : Int32) {H : Heap} {locs : List Loc} {ls : Array Slot}, va_P Γ.1 vwCl (wd_X8_runs Γ q0 q1 q2 q3 q4 q5 q6 d0 d1 d2 d3 d4 d5 d6 d7 d8 length undoMany zeroKept oneKept seen spot kind begin letters figures value plated driven rows periods leastPeriod sv height speed top low motion) H → va_D A (wd_X8_runs Γ q0 q1 q2 q3 q4 q5 q6 d0 d1 d2 d3 d4 d5 d6 d7 d8 length undoMany zeroKept oneKept seen spot kind begin letters figures value plated driven rows periods leastPeriod sv height speed top low motion) → va_S A s.heap H locs → lv_has ls 4 [(0, .ref q0), (1, .int x1), (2, .int x2)] → f_X8_runs_6 sv height speed top low motion x1 x2 = some out → W p l e ({ frames := 4, cells := 0, slots := 0, locals := 100 } : Room) s m ([.ref q0, .int x1] : List Value).toArray below meth c H locs 0 0 QQ (F0 m 6 ls []) := by
    intro height speed top low motion x2 H locs ls hP hD hS hl hf
    unfold f_X8_runs_6 at hf
    obtain ⟨ex6, h1, hX6⟩ := obx_some hf
    have LP : ∀ (n : Nat) (top : Nat → Int32) (low : Nat → Int32) (x2 : Int32)  {H : Heap} {locs : List Loc} {ls : Array Slot}, va_P Γ.1 vwCl (wd_X8_runs Γ q0 q1 q2 q3 q4 q5 q6 d0 d1 d2 d3 d4 d5 d6 d7 d8 length undoMany zeroKept oneKept seen spot kind begin letters figures value plated driven rows periods leastPeriod sv height speed top low motion) H → va_D A (wd_X8_runs Γ q0 q1 q2 q3 q4 q5 q6 d0 d1 d2 d3 d4 d5 d6 d7 d8 length undoMany zeroKept oneKept seen spot kind begin letters figures value plated driven rows periods leastPeriod sv height speed top low motion) → va_S A s.heap H locs → lv_has ls 4 [(0, .ref q0), (1, .int x1), (2, .int x2)] → vm_it (f_X8_runs_6s sv height speed motion x1) n (top, low, x2) = some ex6 → W p l e ({ frames := 4, cells := 0, slots := 0, locals := 100 } : Room) s m ([.ref q0, .int x1] : List Value).toArray below meth c H locs 0 0 QQ (F0 m 6 ls []) := by
      clear hP hD hS hl hf h1
      intro n
      induction n with
      | zero => intro top low x2 H locs ls hP hD hS hl hf; exact (vm_it_0 hf).elim
      | succ n ih =>
        intro top low x2 H locs ls hP hD hS hl hf
        have hf : f_X8_runs_6b sv height speed motion x1 top low x2 (vm_it (f_X8_runs_6s sv height speed motion x1) n) = some ex6 := hf
        unfold f_X8_runs_6b at hf
        refine lv_iload_n hx hb dX8_runs_6 rfl (lv_at hl 2 rfl) ?_
        refine lv_bipush (v := 36) hx hb dX8_runs_7 (by decide) ?_
        refine lv_icmp_ge (tgt := 36) hx hb dX8_runs_9 (by decide) (fun hc_27 => ?_) (fun hc_27 => ?_)
        · have hf := vm_pos hc_27 hf
          have hX := hX6
          rw [← Option.some.inj hf] at hX
          exact K_36 height speed top low motion hP hD hS (lv_sub hl [0, 1] rfl) hX
        · have hf := vm_neg hc_27 hf
          refine lv_aload_n hx hb dX8_runs_12 rfl (lv_at hl 0 rfl) ?_
          refine va_get (D := Γ.1) (ci := 8) (v := .ref q4) (C := RX8) (T := TX8) (N := 31) hx hb hts hi8 hown hK hP 0 rfl rfl 23 (by decide) (hts (.fieldLink RX8 37 "SandPlatesModel" "top" "[I") (List.mem_of_getElem? (i := 1) rfl)) (fun _ h9 => h9) rfl dX8_runs_13 ?_
          refine lv_iload_n hx hb dX8_runs_16 rfl (lv_at hl 2 rfl) ?_
          refine lv_sipush (v := (-10000)) hx hb dX8_runs_17 (by decide) ?_
          obtain ⟨hc_28, hf⟩ := vm_ck hf
          refine vm_iast hx hb hK hP hD hS 4 0 rfl rfl hc_28 (j := (x2.toNatClampNeg)) rfl dX8_runs_20 (fun H locs hP hD hS => ?_)
          have hP : va_P Γ.1 vwCl (wd_X8_runs Γ q0 q1 q2 q3 q4 q5 q6 d0 d1 d2 d3 d4 d5 d6 d7 d8 length undoMany zeroKept oneKept seen spot kind begin letters figures value plated driven rows periods leastPeriod sv height speed (upd top (x2.toNatClampNeg) (-10000)) low motion) H := hP
          have hD : va_D A (wd_X8_runs Γ q0 q1 q2 q3 q4 q5 q6 d0 d1 d2 d3 d4 d5 d6 d7 d8 length undoMany zeroKept oneKept seen spot kind begin letters figures value plated driven rows periods leastPeriod sv height speed (upd top (x2.toNatClampNeg) (-10000)) low motion) := hD
          refine lv_aload_n hx hb dX8_runs_21 rfl (lv_at hl 0 rfl) ?_
          refine va_get (D := Γ.1) (ci := 8) (v := .ref q5) (C := RX8) (T := TX8) (N := 31) hx hb hts hi8 hown hK hP 0 rfl rfl 24 (by decide) (hts (.fieldLink RX8 40 "SandPlatesModel" "low" "[I") (List.mem_of_getElem? (i := 2) rfl)) (fun _ h9 => h9) rfl dX8_runs_22 ?_
          refine lv_iload_n hx hb dX8_runs_25 rfl (lv_at hl 2 rfl) ?_
          refine lv_sipush (v := 10000) hx hb dX8_runs_26 (by decide) ?_
          obtain ⟨hc_29, hf⟩ := vm_ck hf
          refine vm_iast hx hb hK hP hD hS 5 0 rfl rfl hc_29 (j := (x2.toNatClampNeg)) rfl dX8_runs_29 (fun H locs hP hD hS => ?_)
          have hP : va_P Γ.1 vwCl (wd_X8_runs Γ q0 q1 q2 q3 q4 q5 q6 d0 d1 d2 d3 d4 d5 d6 d7 d8 length undoMany zeroKept oneKept seen spot kind begin letters figures value plated driven rows periods leastPeriod sv height speed (upd top (x2.toNatClampNeg) (-10000)) (upd low (x2.toNatClampNeg) 10000) motion) H := hP
          have hD : va_D A (wd_X8_runs Γ q0 q1 q2 q3 q4 q5 q6 d0 d1 d2 d3 d4 d5 d6 d7 d8 length undoMany zeroKept oneKept seen spot kind begin letters figures value plated driven rows periods leastPeriod sv height speed (upd top (x2.toNatClampNeg) (-10000)) (upd low (x2.toNatClampNeg) 10000) motion) := hD
          refine lv_iinc (v := (x2 + 1)) (lv' := [(2, .int (x2 + 1)), (0, .ref q0), (1, .int x1)]) hx hb dX8_runs_30 hl (k := 2) rfl rfl (by decide) rfl (fun ls hl => ?_)
          refine lv_goto (tgt := 6) hx hb dX8_runs_33 (by decide) ?_
          exact ih (upd top (x2.toNatClampNeg) (-10000)) (upd low (x2.toNatClampNeg) 10000) (x2 + 1) hP hD hS (lv_sub hl [1, 2, 0] rfl) hf
    exact LP FU top low x2 hP hD hS hl h1
  unfold f_X8_runs at hf
  refine lv_aload_n hx hb dX8_runs_0 rfl (lv_at hl 0 rfl) ?_
  obtain ⟨height_30, speed_31, hq_32, hf⟩ := ob2_some hf
  refine vm_cVv (isC := [0, 2, 3]) (wc := (wd_X8_rests Γ q0 q2 q3 d0 q1 d1 d2 d3 d4 d5 q4 q5 q6 d6 d7 d8 length undoMany zeroKept oneKept seen spot kind begin letters figures value plated driven rows periods leastPeriod height speed)) (w1 := (wd_X8_rests Γ q0 q2 q3 d0 q1 d1 d2 d3 d4 d5 q4 q5 q6 d6 d7 d8 length undoMany zeroKept oneKept seen spot kind begin letters figures value plated driven rows periods leastPeriod height_30 speed_31)) (As := []) (rest := []) ⟨hx, hb, hml, hown, hts⟩ hE hP hD hS hA rfl rfl rfl (c_X8_rests l Γ _ q0 q2 q3 d0 q1 d1 d2 d3 d4 d5 q4 q5 q6 d6 d7 d8 length undoMany zeroKept oneKept seen spot kind begin letters figures value plated driven rows periods leastPeriod height speed height_30 speed_31 hq_32) (cwV 0 hts gX8_runs_X8_rests rfl rfl rfl (by decide +kernel) ⟨Nat.le_of_ble_eq_true rfl, Nat.le_of_ble_eq_true rfl⟩) (va_recv (ci := 8) (q0 := 0) hK hP rfl rfl) rfl hl.1 rfl (Nat.le_of_ble_eq_true rfl) dX8_runs_1 ⟨Nat.zero_le _, Nat.zero_le _⟩ (fun H locs hP hD hS => ?_)
  have hP : va_P Γ.1 vwCl (wd_X8_runs Γ q0 q1 q2 q3 q4 q5 q6 d0 d1 d2 d3 d4 d5 d6 d7 d8 length undoMany zeroKept oneKept seen spot kind begin letters figures value plated driven rows periods leastPeriod sv height_30 speed_31 top low motion) H := hP
  have hD : va_D A (wd_X8_runs Γ q0 q1 q2 q3 q4 q5 q6 d0 d1 d2 d3 d4 d5 d6 d7 d8 length undoMany zeroKept oneKept seen spot kind begin letters figures value plated driven rows periods leastPeriod sv height_30 speed_31 top low motion) := hD
  refine lv_iconst (v := 0) hx hb dX8_runs_4 (by decide) ?_
  refine lv_istore_n (lv' := [(2, .int 0), (0, .ref q0), (1, .int x1)]) hx hb dX8_runs_5 rfl hl (by decide) rfl (fun ls hl => ?_)
  exact K_6 height_30 speed_31 top low motion 0 hP hD hS (lv_sub hl [1, 2, 0] rfl) hf
def wd_X8_isStill (Γ : GE) (q0 q1 q2 d0 d1 d2 d3 d4 d5 d6 d7 d8 d9 d10 d11 d12 : Nat) (length : Int32) (undoMany : Int32) (zeroKept : Int32) (oneKept : Int32) (seen : Int32) (spot : Int32) (kind : Int32) (begin : Int32) (letters : Int64) (figures : Int32) (value : Int32) (plated : Int32) (driven : Int32) (rows : Int32) (periods : Int32) (leastPeriod : Int32) (sv : Nat → Int32) (motion : Nat → Int32) : va_W := [(q0, .inr (8, [.int length, .ref d0, .ref q1, .ref d1, .ref d2, .int undoMany, .ref d3, .int zeroKept, .int oneKept, .ref d4, .ref d5, .int seen, .int spot, .int kind, .int begin, .long letters, .int figures, .int value, .int plated, .int driven, .int rows, .ref d6, .ref d7, .ref d8, .ref d9, .ref q2, .ref d10, .ref d11, .ref d12, .int periods, .int leastPeriod])), (q1, .inl (Γ.2.1 0, 81, .inl sv)), (q2, .inl (Γ.2.1 0, 36, .inl motion))]
def f_X8_isStill_21 (s0 : Int32) : Option Int32 := if s0 = 0 ∨ s0 = 1 then some s0 else none
def f_X8_isStill (sv : Nat → Int32) (motion : Nat → Int32) (x1 : Int32) : Option Int32 := if inb x1 36 = true then if (sv 7) < (motion (x1.toNatClampNeg)) then (f_X8_isStill_21 0) else (f_X8_isStill_21 1) else none
set_option maxHeartbeats 4000000 in
set_option maxRecDepth 100000 in
theorem c_X8_isStill (l : Launch) (Γ : GE) (sz : Nat) (q0 q1 q2 d0 d1 d2 d3 d4 d5 d6 d7 d8 d9 d10 d11 d12 : Nat) (length : Int32) (undoMany : Int32) (zeroKept : Int32) (oneKept : Int32) (seen : Int32) (spot : Int32) (kind : Int32) (begin : Int32) (letters : Int64) (figures : Int32) (value : Int32) (plated : Int32) (driven : Int32) (rows : Int32) (periods : Int32) (leastPeriod : Int32) (sv : Nat → Int32) (motion : Nat → Int32) (x1 : Int32) (ro : Int32) (hf : f_X8_isStill sv motion x1 = some ro) : MetI l yX8_isStill wsX8_isStill ({ frames := 0, cells := 0, slots := 0, locals := 0 } : Room) Γ [.ref q0, .int x1] (wd_X8_isStill Γ q0 q1 q2 d0 d1 d2 d3 d4 d5 d6 d7 d8 d9 d10 d11 d12 length undoMany zeroKept oneKept seen spot kind begin letters figures value plated driven rows periods leastPeriod sv motion) (wd_X8_isStill Γ q0 q1 q2 d0 d1 d2 d3 d4 d5 d6 d7 d8 d9 d10 d11 d12 length undoMany zeroKept oneKept seen spot kind begin letters figures value plated driven rows periods leastPeriod sv motion) sz ro := by
  refine Met.ofW (cc := cX8_isStill) (maxL := 2) (ret := (some .boolean)) (by decide) rfl ?_
  intro p e s m args below meth c s₁ B hml hv
  obtain ⟨rfl, hsz, hE, hP, hD⟩ := hv
  have hx := B.exec
  have hb := B.bytes
  have hr := B.returns
  have hts := atoms_spec (ws := wsX8_isStill) B.pre
  have hown : s.vm.findClass RX8 = some m.cls := findClass_of_methodNamed B.named
  have hlocks := B.notSynchronized
  subst hsz
  generalize hAe : va_A (wd_X8_isStill Γ q0 q1 q2 d0 d1 d2 d3 d4 d5 d6 d7 d8 d9 d10 d11 d12 length undoMany zeroKept oneKept seen spot kind begin letters figures value plated driven rows periods leastPeriod sv motion) s.heap.size = A at hE hD ⊢
  have hA : ∀ q : Nat, s.heap.size ≤ q → A q := fun q h => by rw [← hAe]; exact Or.inr h
  clear hAe
  have hS : va_S A s.heap s.heap [] := va_S.rf
  have hK := hE.1
  have hl := lv_entry ([.ref q0, .int x1]) (n := 2) (Nat.le_of_ble_eq_true rfl)
  rw [lg_entry_eq]
  generalize (lg_sl ([.ref q0, .int x1]) ++ List.replicate (2 - (lg_sl ([.ref q0, .int x1])).length) Slot.unset).toArray = ls at hl ⊢
  have hl : lv_has ls 2 [(0, .ref q0), (1, .int x1)] := hl
  have hi8 : ∀ w ∈ u_ws RX8 TX8 31, w ∈ wsX8_isStill := fun w h => (List.mem_cons_of_mem _ (List.mem_append_right _ h))
  obtain ⟨out, hout⟩ : ∃ o, o = ro := ⟨_, rfl⟩
  rw [← hout] at hf
  obtain ⟨QQ, hQQ⟩ : ∃ Q, Q = MQ below (va_Qi (fun (r' : Int32) (_ : Unit) => r' = ro) (CQ Γ (wd_X8_isStill Γ q0 q1 q2 d0 d1 d2 d3 d4 d5 d6 d7 d8 d9 d10 d11 d12 length undoMany zeroKept oneKept seen spot kind begin letters figures value plated driven rows periods leastPeriod sv motion) A) A) (([.ref q0, .int x1] : List Value).toArray) s 0 0 A := ⟨_, rfl⟩
  show W p l e ({ frames := 0, cells := 0, slots := 0, locals := 0 } : Room) s m (([.ref q0, .int x1] : List Value).toArray) below meth c s.heap [] 0 0 (MQ below _ (([.ref q0, .int x1] : List Value).toArray) s 0 0 A) (F0 m 0 ls [])
  rw [← hQQ]
  have K_21 : ∀ (s0 : Int32) {H : Heap} {locs : List Loc} {ls : Array Slot}, va_P Γ.1 vwCl (wd_X8_isStill Γ q0 q1 q2 d0 d1 d2 d3 d4 d5 d6 d7 d8 d9 d10 d11 d12 length undoMany zeroKept oneKept seen spot kind begin letters figures value plated driven rows periods leastPeriod sv motion) H → va_D A (wd_X8_isStill Γ q0 q1 q2 d0 d1 d2 d3 d4 d5 d6 d7 d8 d9 d10 d11 d12 length undoMany zeroKept oneKept seen spot kind begin letters figures value plated driven rows periods leastPeriod sv motion) → va_S A s.heap H locs → lv_has ls 2 [] → f_X8_isStill_21 s0 = some out → W p l e ({ frames := 0, cells := 0, slots := 0, locals := 0 } : Room) s m ([.ref q0, .int x1] : List Value).toArray below meth c H locs 0 0 QQ (F0 m 21 ls [.int s0]) := by
    intro s0 H locs ls hP hD hS hl hf
    unfold f_X8_isStill_21 at hf
    obtain ⟨hc_1, hf⟩ := vm_ck hf
    subst hout; obtain rfl := Option.some.inj hf
    subst hQQ
    exact W.zret hx hb hr (vm_nz hc_1) (fun t ht hW => ⟨⟨_, (), rfl, rfl, by rw [ht]; exact hP, hD⟩, hS.F ht⟩) hS.2.2 dX8_isStill_21
  unfold f_X8_isStill at hf
  refine lv_aload_n hx hb dX8_isStill_0 rfl (lv_at hl 0 rfl) ?_
  refine va_get (D := Γ.1) (ci := 8) (v := .ref q2) (C := RX8) (T := TX8) (N := 31) hx hb hts hi8 hown hK hP 0 rfl rfl 25 (by decide) (hts (.fieldLink RX8 43 "SandPlatesModel" "motion" "[I") (List.mem_of_getElem? (i := 1) rfl)) (fun _ h9 => h9) rfl dX8_isStill_1 ?_
  refine lv_iload_n hx hb dX8_isStill_4 rfl (lv_at hl 1 rfl) ?_
  obtain ⟨hc_2, hf⟩ := vm_ck hf
  refine vm_iald hx hb hK hP 2 0 rfl rfl hc_2 (j := x1.toNatClampNeg) rfl dX8_isStill_5 ?_
  refine lv_aload_n hx hb dX8_isStill_6 rfl (lv_at hl 0 rfl) ?_
  refine va_get (D := Γ.1) (ci := 8) (v := .ref q1) (C := RX8) (T := TX8) (N := 31) hx hb hts hi8 hown hK hP 0 rfl rfl 2 (by decide) (hts (.fieldLink RX8 13 "SandPlatesModel" "s" "[I") (List.mem_of_getElem? (i := 2) rfl)) (fun _ h9 => h9) rfl dX8_isStill_7 ?_
  refine lv_bipush (v := 7) hx hb dX8_isStill_10 (by decide) ?_
  refine vm_iald hx hb hK hP 1 0 rfl rfl (by decide +kernel) (j := 7) rfl dX8_isStill_12 ?_
  refine lv_icmp_gt (tgt := 20) hx hb dX8_isStill_13 (by decide) (fun hc_3 => ?_) (fun hc_3 => ?_)
  · have hf := vm_pos hc_3 hf
    refine lv_iconst (v := 0) hx hb dX8_isStill_20 (by decide) ?_
    exact K_21 0 hP hD hS (lv_sub hl [] rfl) hf
  · have hf := vm_neg hc_3 hf
    refine lv_iconst (v := 1) hx hb dX8_isStill_16 (by decide) ?_
    refine lv_goto (tgt := 21) hx hb dX8_isStill_17 (by decide) ?_
    exact K_21 1 hP hD hS (lv_sub hl [] rfl) hf
def wd_X8_undo (Γ : GE) (q0 q1 q2 d0 d1 d2 d3 d4 d5 d6 d7 d8 d9 d10 d11 d12 : Nat) (length : Int32) (undoMany : Int32) (zeroKept : Int32) (oneKept : Int32) (seen : Int32) (spot : Int32) (kind : Int32) (begin : Int32) (letters : Int64) (figures : Int32) (value : Int32) (plated : Int32) (driven : Int32) (rows : Int32) (periods : Int32) (leastPeriod : Int32) (sv : Nat → Int32) (before : Nat → Int32) : va_W := [(q0, .inr (8, [.int length, .ref d0, .ref q1, .ref d1, .ref q2, .int undoMany, .ref d2, .int zeroKept, .int oneKept, .ref d3, .ref d4, .int seen, .int spot, .int kind, .int begin, .long letters, .int figures, .int value, .int plated, .int driven, .int rows, .ref d5, .ref d6, .ref d7, .ref d8, .ref d9, .ref d10, .ref d11, .ref d12, .int periods, .int leastPeriod])), (q1, .inl (Γ.2.1 0, 81, .inl sv)), (q2, .inl (Γ.2.1 0, 486, .inl before))]
def f_X8_undo_54 (undoMany : Int32) (sv : Nat → Int32) : Option (Int32 × Int32 × (Nat → Int32)) := some (undoMany, undoMany, sv)
def f_X8_undo_22b (undoMany : Int32) (before : Nat → Int32) (sv : Nat → Int32) (x1 : Int32) (k : (((Nat → Int32) × Int32) → Option (Nat → Int32))) : Option (Nat → Int32) := if 81 ≤ x1 then (some sv) else (if inb ((81 * undoMany) + x1) 486 = true then if inb x1 81 = true then k ((upd sv (x1.toNatClampNeg) (before (((81 * undoMany) + x1).toNatClampNeg))), (x1 + 1)) else none else none)
def f_X8_undo_22s (undoMany : Int32) (before : Nat → Int32) : ((Nat → Int32) × Int32) → (((Nat → Int32) × Int32) → Option (Nat → Int32)) → Option (Nat → Int32) := fun t k => f_X8_undo_22b undoMany before t.1 t.2 k
def f_X8_undo_22 (undoMany : Int32) (sv : Nat → Int32) (before : Nat → Int32) (x1 : Int32) : Option (Int32 × Int32 × (Nat → Int32)) := obx (vm_it (f_X8_undo_22s undoMany before) FU (sv, x1)) (fun sv => f_X8_undo_54 undoMany sv)
def f_X8_undo (undoMany : Int32) (sv : Nat → Int32) (before : Nat → Int32) : Option (Int32 × Int32 × (Nat → Int32)) := if undoMany = 0 then (some ((-2), undoMany, sv)) else (f_X8_undo_22 (undoMany - 1) sv before 0)
set_option maxHeartbeats 4000000 in
set_option maxRecDepth 100000 in
theorem c_X8_undo (l : Launch) (Γ : GE) (sz : Nat) (q0 q1 q2 d0 d1 d2 d3 d4 d5 d6 d7 d8 d9 d10 d11 d12 : Nat) (length : Int32) (undoMany : Int32) (zeroKept : Int32) (oneKept : Int32) (seen : Int32) (spot : Int32) (kind : Int32) (begin : Int32) (letters : Int64) (figures : Int32) (value : Int32) (plated : Int32) (driven : Int32) (rows : Int32) (periods : Int32) (leastPeriod : Int32) (sv : Nat → Int32) (before : Nat → Int32) (ro : Int32) (o_undoMany : Int32) (o_sv : Nat → Int32) (hf : f_X8_undo undoMany sv before = some (ro, o_undoMany, o_sv)) : MetI l yX8_undo wsX8_undo ({ frames := 0, cells := 0, slots := 0, locals := 0 } : Room) Γ [.ref q0] (wd_X8_undo Γ q0 q1 q2 d0 d1 d2 d3 d4 d5 d6 d7 d8 d9 d10 d11 d12 length undoMany zeroKept oneKept seen spot kind begin letters figures value plated driven rows periods leastPeriod sv before) (wd_X8_undo Γ q0 q1 q2 d0 d1 d2 d3 d4 d5 d6 d7 d8 d9 d10 d11 d12 length o_undoMany zeroKept oneKept seen spot kind begin letters figures value plated driven rows periods leastPeriod o_sv before) sz ro := by
  refine Met.ofW (cc := cX8_undo) (maxL := 2) (ret := (some .int)) (by decide) rfl ?_
  intro p e s m args below meth c s₁ B hml hv
  obtain ⟨rfl, hsz, hE, hP, hD⟩ := hv
  have hx := B.exec
  have hb := B.bytes
  have hr := B.returns
  have hts := atoms_spec (ws := wsX8_undo) B.pre
  have hown : s.vm.findClass RX8 = some m.cls := findClass_of_methodNamed B.named
  have hlocks := B.notSynchronized
  subst hsz
  generalize hAe : va_A (wd_X8_undo Γ q0 q1 q2 d0 d1 d2 d3 d4 d5 d6 d7 d8 d9 d10 d11 d12 length undoMany zeroKept oneKept seen spot kind begin letters figures value plated driven rows periods leastPeriod sv before) s.heap.size = A at hE hD ⊢
  have hA : ∀ q : Nat, s.heap.size ≤ q → A q := fun q h => by rw [← hAe]; exact Or.inr h
  clear hAe
  have hS : va_S A s.heap s.heap [] := va_S.rf
  have hK := hE.1
  have hl := lv_entry ([.ref q0]) (n := 2) (Nat.le_of_ble_eq_true rfl)
  rw [lg_entry_eq]
  generalize (lg_sl ([.ref q0]) ++ List.replicate (2 - (lg_sl ([.ref q0])).length) Slot.unset).toArray = ls at hl ⊢
  have hl : lv_has ls 2 [(0, .ref q0)] := hl
  have hi8 : ∀ w ∈ u_ws RX8 TX8 31, w ∈ wsX8_undo := fun w h => (List.mem_cons_of_mem _ (List.mem_append_right _ h))
  obtain ⟨out, hout⟩ : ∃ o, o = (ro, o_undoMany, o_sv) := ⟨_, rfl⟩
  rw [← hout] at hf
  obtain ⟨QQ, hQQ⟩ : ∃ Q, Q = MQ below (va_Qi (fun (r' : Int32) (_ : Unit) => r' = ro) (CQ Γ (wd_X8_undo Γ q0 q1 q2 d0 d1 d2 d3 d4 d5 d6 d7 d8 d9 d10 d11 d12 length o_undoMany zeroKept oneKept seen spot kind begin letters figures value plated driven rows periods leastPeriod o_sv before) A) A) (([.ref q0] : List Value).toArray) s 0 0 A := ⟨_, rfl⟩
  show W p l e ({ frames := 0, cells := 0, slots := 0, locals := 0 } : Room) s m (([.ref q0] : List Value).toArray) below meth c s.heap [] 0 0 (MQ below _ (([.ref q0] : List Value).toArray) s 0 0 A) (F0 m 0 ls [])
  rw [← hQQ]
  have K_54 : ∀ (undoMany : Int32) (sv : Nat → Int32) {H : Heap} {locs : List Loc} {ls : Array Slot}, va_P Γ.1 vwCl (wd_X8_undo Γ q0 q1 q2 d0 d1 d2 d3 d4 d5 d6 d7 d8 d9 d10 d11 d12 length undoMany zeroKept oneKept seen spot kind begin letters figures value plated driven rows periods leastPeriod sv before) H → va_D A (wd_X8_undo Γ q0 q1 q2 d0 d1 d2 d3 d4 d5 d6 d7 d8 d9 d10 d11 d12 length undoMany zeroKept oneKept seen spot kind begin letters figures value plated driven rows periods leastPeriod sv before) → va_S A s.heap H locs → lv_has ls 2 [(0, .ref q0)] → f_X8_undo_54 undoMany sv = some out → W p l e ({ frames := 0, cells := 0, slots := 0, locals := 0 } : Room) s m ([.ref q0] : List Value).toArray below meth c H locs 0 0 QQ (F0 m 54 ls []) := by
    intro undoMany sv H locs ls hP hD hS hl hf
    unfold f_X8_undo_54 at hf
    refine lv_aload_n hx hb dX8_undo_54 rfl (lv_at hl 0 rfl) ?_
    refine va_get (D := Γ.1) (ci := 8) (v := .int undoMany) (C := RX8) (T := TX8) (N := 31) hx hb hts hi8 hown hK hP 0 rfl rfl 5 (by decide) (hts (.fieldLink RX8 165 "SandPlatesModel" "undoMany" "I") (List.mem_of_getElem? (i := 1) rfl)) (fun _ h9 => h9) rfl dX8_undo_55 ?_
    subst hout; obtain ⟨rfl, rfl, rfl⟩ := rt3 hf
    subst hQQ
    exact W.iret hx hb hr (fun t ht hW => ⟨⟨_, (), rfl, rfl, by rw [ht]; exact hP, hD⟩, hS.F ht⟩) hS.2.2 dX8_undo_58
  have K_22 : ∀ (undoMany : Int32) (sv : Nat → Int32) (x1 : Int32) {H : Heap} {locs : List Loc} {ls : Array Slot}, va_P Γ.1 vwCl (wd_X8_undo Γ q0 q1 q2 d0 d1 d2 d3 d4 d5 d6 d7 d8 d9 d10 d11 d12 length undoMany zeroKept oneKept seen spot kind begin letters figures value plated driven rows periods leastPeriod sv before) H → va_D A (wd_X8_undo Γ q0 q1 q2 d0 d1 d2 d3 d4 d5 d6 d7 d8 d9 d10 d11 d12 length undoMany zeroKept oneKept seen spot kind begin letters figures value plated driven rows periods leastPeriod sv before) → va_S A s.heap H locs → lv_has ls 2 [(0, .ref q0), (1, .int x1)] → f_X8_undo_22 undoMany sv before x1 = some out → W p l e ({ frames := 0, cells := 0, slots := 0, locals := 0 } : Room) s m ([.ref q0] : List Value).toArray below meth c H locs 0 0 QQ (F0 m 22 ls []) := by
    intro undoMany sv x1 H locs ls hP hD hS hl hf
    unfold f_X8_undo_22 at hf
    obtain ⟨ex22, h1, hX22⟩ := obx_some hf
    have LP : ∀ (n : Nat) (sv : Nat → Int32) (x1 : Int32)  {H : Heap} {locs : List Loc} {ls : Array Slot}, va_P Γ.1 vwCl (wd_X8_undo Γ q0 q1 q2 d0 d1 d2 d3 d4 d5 d6 d7 d8 d9 d10 d11 d12 length undoMany zeroKept oneKept seen spot kind begin letters figures value plated driven rows periods leastPeriod sv before) H → va_D A (wd_X8_undo Γ q0 q1 q2 d0 d1 d2 d3 d4 d5 d6 d7 d8 d9 d10 d11 d12 length undoMany zeroKept oneKept seen spot kind begin letters figures value plated driven rows periods leastPeriod sv before) → va_S A s.heap H locs → lv_has ls 2 [(0, .ref q0), (1, .int x1)] → vm_it (f_X8_undo_22s undoMany before) n (sv, x1) = some ex22 → W p l e ({ frames := 0, cells := 0, slots := 0, locals := 0 } : Room) s m ([.ref q0] : List Value).toArray below meth c H locs 0 0 QQ (F0 m 22 ls []) := by
      clear hP hD hS hl hf h1
      intro n
      induction n with
      | zero => intro sv x1 H locs ls hP hD hS hl hf; exact (vm_it_0 hf).elim
      | succ n ih =>
        intro sv x1 H locs ls hP hD hS hl hf
        have hf : f_X8_undo_22b undoMany before sv x1 (vm_it (f_X8_undo_22s undoMany before) n) = some ex22 := hf
        unfold f_X8_undo_22b at hf
        refine lv_iload_n hx hb dX8_undo_22 rfl (lv_at hl 1 rfl) ?_
        refine lv_bipush (v := 81) hx hb dX8_undo_23 (by decide) ?_
        refine lv_icmp_ge (tgt := 54) hx hb dX8_undo_25 (by decide) (fun hc_1 => ?_) (fun hc_1 => ?_)
        · have hf := vm_pos hc_1 hf
          have hX := hX22
          rw [← Option.some.inj hf] at hX
          exact K_54 undoMany sv hP hD hS (lv_sub hl [0] rfl) hX
        · have hf := vm_neg hc_1 hf
          refine lv_aload_n hx hb dX8_undo_28 rfl (lv_at hl 0 rfl) ?_
          refine va_get (D := Γ.1) (ci := 8) (v := .ref q1) (C := RX8) (T := TX8) (N := 31) hx hb hts hi8 hown hK hP 0 rfl rfl 2 (by decide) (hts (.fieldLink RX8 13 "SandPlatesModel" "s" "[I") (List.mem_of_getElem? (i := 2) rfl)) (fun _ h9 => h9) rfl dX8_undo_29 ?_
          refine lv_iload_n hx hb dX8_undo_32 rfl (lv_at hl 1 rfl) ?_
          refine lv_aload_n hx hb dX8_undo_33 rfl (lv_at hl 0 rfl) ?_
          refine va_get (D := Γ.1) (ci := 8) (v := .ref q2) (C := RX8) (T := TX8) (N := 31) hx hb hts hi8 hown hK hP 0 rfl rfl 4 (by decide) (hts (.fieldLink RX8 19 "SandPlatesModel" "before" "[I") (List.mem_of_getElem? (i := 3) rfl)) (fun _ h9 => h9) rfl dX8_undo_34 ?_
          refine lv_bipush (v := 81) hx hb dX8_undo_37 (by decide) ?_
          refine lv_aload_n hx hb dX8_undo_39 rfl (lv_at hl 0 rfl) ?_
          refine va_get (D := Γ.1) (ci := 8) (v := .int undoMany) (C := RX8) (T := TX8) (N := 31) hx hb hts hi8 hown hK hP 0 rfl rfl 5 (by decide) (hts (.fieldLink RX8 165 "SandPlatesModel" "undoMany" "I") (List.mem_of_getElem? (i := 1) rfl)) (fun _ h9 => h9) rfl dX8_undo_40 ?_
          refine lv_imul hx hb dX8_undo_43 ?_
          refine lv_iload_n hx hb dX8_undo_44 rfl (lv_at hl 1 rfl) ?_
          refine lv_iadd hx hb dX8_undo_45 ?_
          obtain ⟨hc_2, hf⟩ := vm_ck hf
          refine vm_iald hx hb hK hP 2 0 rfl rfl hc_2 (j := ((81 * undoMany) + x1).toNatClampNeg) rfl dX8_undo_46 ?_
          obtain ⟨hc_3, hf⟩ := vm_ck hf
          refine vm_iast hx hb hK hP hD hS 1 0 rfl rfl hc_3 (j := (x1.toNatClampNeg)) rfl dX8_undo_47 (fun H locs hP hD hS => ?_)
          have hP : va_P Γ.1 vwCl (wd_X8_undo Γ q0 q1 q2 d0 d1 d2 d3 d4 d5 d6 d7 d8 d9 d10 d11 d12 length undoMany zeroKept oneKept seen spot kind begin letters figures value plated driven rows periods leastPeriod (upd sv (x1.toNatClampNeg) (before (((81 * undoMany) + x1).toNatClampNeg))) before) H := hP
          have hD : va_D A (wd_X8_undo Γ q0 q1 q2 d0 d1 d2 d3 d4 d5 d6 d7 d8 d9 d10 d11 d12 length undoMany zeroKept oneKept seen spot kind begin letters figures value plated driven rows periods leastPeriod (upd sv (x1.toNatClampNeg) (before (((81 * undoMany) + x1).toNatClampNeg))) before) := hD
          refine lv_iinc (v := (x1 + 1)) (lv' := [(1, .int (x1 + 1)), (0, .ref q0)]) hx hb dX8_undo_48 hl (k := 1) rfl rfl (by decide) rfl (fun ls hl => ?_)
          refine lv_goto (tgt := 22) hx hb dX8_undo_51 (by decide) ?_
          exact ih (upd sv (x1.toNatClampNeg) (before (((81 * undoMany) + x1).toNatClampNeg))) (x1 + 1) hP hD hS (lv_sub hl [1, 0] rfl) hf
    exact LP FU sv x1 hP hD hS hl h1
  unfold f_X8_undo at hf
  refine lv_aload_n hx hb dX8_undo_0 rfl (lv_at hl 0 rfl) ?_
  refine va_get (D := Γ.1) (ci := 8) (v := .int undoMany) (C := RX8) (T := TX8) (N := 31) hx hb hts hi8 hown hK hP 0 rfl rfl 5 (by decide) (hts (.fieldLink RX8 165 "SandPlatesModel" "undoMany" "I") (List.mem_of_getElem? (i := 1) rfl)) (fun _ h9 => h9) rfl dX8_undo_1 ?_
  refine lv_if_ne (tgt := 10) hx hb dX8_undo_4 (by decide) (fun hc_4 => ?_) (fun hc_4 => ?_)
  · have hf := vm_neg hc_4 hf
    refine lv_aload_n hx hb dX8_undo_10 rfl (lv_at hl 0 rfl) ?_
    refine lv_dup hx hb dX8_undo_11 rfl ?_
    refine va_get (D := Γ.1) (ci := 8) (v := .int undoMany) (C := RX8) (T := TX8) (N := 31) hx hb hts hi8 hown hK hP 0 rfl rfl 5 (by decide) (hts (.fieldLink RX8 165 "SandPlatesModel" "undoMany" "I") (List.mem_of_getElem? (i := 1) rfl)) (fun _ h9 => h9) rfl dX8_undo_12 ?_
    refine lv_iconst (v := 1) hx hb dX8_undo_15 (by decide) ?_
    refine lv_isub hx hb dX8_undo_16 ?_
    refine va_put (D := Γ.1) (ci := 8) (v := .int (undoMany - 1)) (ty := .int) (C := RX8) (T := TX8) (N := 31) hx hb hts hi8 tyX8 tyX8_ok nmX8 hown hK hP hD hS 0 rfl rfl 5 (by decide) (hts (.fieldLink RX8 165 "SandPlatesModel" "undoMany" "I") (List.mem_of_getElem? (i := 1) rfl)) (fun _ h9 => h9) rfl (by decide +kernel) rfl rfl (Nat.le_of_ble_eq_true rfl) dX8_undo_17 (fun H locs hP hD hS => ?_)
    have hP : va_P Γ.1 vwCl (wd_X8_undo Γ q0 q1 q2 d0 d1 d2 d3 d4 d5 d6 d7 d8 d9 d10 d11 d12 length (undoMany - 1) zeroKept oneKept seen spot kind begin letters figures value plated driven rows periods leastPeriod sv before) H := hP
    have hD : va_D A (wd_X8_undo Γ q0 q1 q2 d0 d1 d2 d3 d4 d5 d6 d7 d8 d9 d10 d11 d12 length (undoMany - 1) zeroKept oneKept seen spot kind begin letters figures value plated driven rows periods leastPeriod sv before) := hD
    refine lv_iconst (v := 0) hx hb dX8_undo_20 (by decide) ?_
    refine lv_istore_n (lv' := [(1, .int 0), (0, .ref q0)]) hx hb dX8_undo_21 rfl hl (by decide) rfl (fun ls hl => ?_)
    exact K_22 (undoMany - 1) sv 0 hP hD hS (lv_sub hl [1, 0] rfl) hf
  · have hf := vm_pos hc_4 hf
    refine lv_bipush (v := (-2)) hx hb dX8_undo_7 (by decide) ?_
    subst hout; obtain ⟨rfl, rfl, rfl⟩ := rt3 hf
    subst hQQ
    exact W.iret hx hb hr (fun t ht hW => ⟨⟨_, (), rfl, rfl, by rw [ht]; exact hP, hD⟩, hS.F ht⟩) hS.2.2 dX8_undo_9
def wd_X8_goesTo (Γ : GE) (q0 q1 q2 d0 d1 d2 d3 d4 d5 d6 d7 d8 d9 d10 d11 d12 : Nat) (length : Int32) (undoMany : Int32) (zeroKept : Int32) (oneKept : Int32) (seen : Int32) (spot : Int32) (kind : Int32) (begin : Int32) (letters : Int64) (figures : Int32) (value : Int32) (plated : Int32) (driven : Int32) (rows : Int32) (periods : Int32) (leastPeriod : Int32) (sv : Nat → Int32) (motion : Nat → Int32) : va_W := [(q0, .inr (8, [.int length, .ref d0, .ref q1, .ref d1, .ref d2, .int undoMany, .ref d3, .int zeroKept, .int oneKept, .ref d4, .ref d5, .int seen, .int spot, .int kind, .int begin, .long letters, .int figures, .int value, .int plated, .int driven, .int rows, .ref d6, .ref d7, .ref d8, .ref d9, .ref q2, .ref d10, .ref d11, .ref d12, .int periods, .int leastPeriod])), (q1, .inl (Γ.2.1 0, 81, .inl sv)), (q2, .inl (Γ.2.1 0, 36, .inl motion))]
def f_X8_goesTo_79 (x2 : Int32) : Option Int32 := some x2
def f_X8_goesTo_72 (sv : Nat → Int32) (motion : Nat → Int32) (x1 : Int32) (x3 : Int32) (s0 : Int32) (k : ((Int32 × Int32) → Option Int32)) : Option Int32 := k (s0, (x3 + 1))
def f_X8_goesTo_71 (sv : Nat → Int32) (motion : Nat → Int32) (x1 : Int32) (x2 : Int32) (x3 : Int32) (k : ((Int32 × Int32) → Option Int32)) : Option Int32 := f_X8_goesTo_72 sv motion x1 x3 x2 k
def f_X8_goesTo_66 (sv : Nat → Int32) (motion : Nat → Int32) (x1 : Int32) (x3 : Int32) (x4 : Int32) (k : ((Int32 × Int32) → Option Int32)) : Option Int32 := f_X8_goesTo_72 sv motion x1 x3 x4 k
def f_X8_goesTo_4b (sv : Nat → Int32) (motion : Nat → Int32) (x1 : Int32) (x2 : Int32) (x3 : Int32) (k : ((Int32 × Int32) → Option Int32)) : Option Int32 := if 4 ≤ x3 then (some x2) else (ob1 (f_X8_isStill sv motion x1) (fun r_2 => if r_2 = 0 then (ob1 (f_X8_next sv x1 x3) (fun r_5 => if r_5 < 0 then (f_X8_goesTo_71 sv motion x1 x2 x3 k) else (if inb r_5 36 = true then if inb x1 36 = true then if (motion (x1.toNatClampNeg)) ≤ (motion (r_5.toNatClampNeg)) then (f_X8_goesTo_71 sv motion x1 x2 x3 k) else (if x2 < 0 then (f_X8_goesTo_66 sv motion x1 x3 r_5 k) else (if inb r_5 36 = true then if inb x2 36 = true then if (motion (x2.toNatClampNeg)) ≤ (motion (r_5.toNatClampNeg)) then (f_X8_goesTo_71 sv motion x1 x2 x3 k) else (f_X8_goesTo_66 sv motion x1 x3 r_5 k) else none else none)) else none else none))) else (some x2)))
def f_X8_goesTo_4s (sv : Nat → Int32) (motion : Nat → Int32) (x1 : Int32) : (Int32 × Int32) → ((Int32 × Int32) → Option Int32) → Option Int32 := fun t k => f_X8_goesTo_4b sv motion x1 t.1 t.2 k
def f_X8_goesTo_4 (sv : Nat → Int32) (motion : Nat → Int32) (x1 : Int32) (x2 : Int32) (x3 : Int32) : Option Int32 := obx (vm_it (f_X8_goesTo_4s sv motion x1) FU (x2, x3)) (fun x2 => f_X8_goesTo_79 x2)
def f_X8_goesTo (sv : Nat → Int32) (motion : Nat → Int32) (x1 : Int32) : Option Int32 := f_X8_goesTo_4 sv motion x1 (-1) 0
set_option maxHeartbeats 4000000 in
set_option maxRecDepth 100000 in
theorem c_X8_goesTo (l : Launch) (Γ : GE) (sz : Nat) (q0 q1 q2 d0 d1 d2 d3 d4 d5 d6 d7 d8 d9 d10 d11 d12 : Nat) (length : Int32) (undoMany : Int32) (zeroKept : Int32) (oneKept : Int32) (seen : Int32) (spot : Int32) (kind : Int32) (begin : Int32) (letters : Int64) (figures : Int32) (value : Int32) (plated : Int32) (driven : Int32) (rows : Int32) (periods : Int32) (leastPeriod : Int32) (sv : Nat → Int32) (motion : Nat → Int32) (x1 : Int32) (ro : Int32) (hf : f_X8_goesTo sv motion x1 = some ro) : MetI l yX8_goesTo wsX8_goesTo ({ frames := 2, cells := 0, slots := 0, locals := 51 } : Room) Γ [.ref q0, .int x1] (wd_X8_goesTo Γ q0 q1 q2 d0 d1 d2 d3 d4 d5 d6 d7 d8 d9 d10 d11 d12 length undoMany zeroKept oneKept seen spot kind begin letters figures value plated driven rows periods leastPeriod sv motion) (wd_X8_goesTo Γ q0 q1 q2 d0 d1 d2 d3 d4 d5 d6 d7 d8 d9 d10 d11 d12 length undoMany zeroKept oneKept seen spot kind begin letters figures value plated driven rows periods leastPeriod sv motion) sz ro := by
  refine Met.ofW (cc := cX8_goesTo) (maxL := 5) (ret := (some .int)) (by decide) rfl ?_
  intro p e s m args below meth c s₁ B hml hv
  obtain ⟨rfl, hsz, hE, hP, hD⟩ := hv
  have hx := B.exec
  have hb := B.bytes
  have hr := B.returns
  have hts := atoms_spec (ws := wsX8_goesTo) B.pre
  have hown : s.vm.findClass RX8 = some m.cls := findClass_of_methodNamed B.named
  have hlocks := B.notSynchronized
  subst hsz
  generalize hAe : va_A (wd_X8_goesTo Γ q0 q1 q2 d0 d1 d2 d3 d4 d5 d6 d7 d8 d9 d10 d11 d12 length undoMany zeroKept oneKept seen spot kind begin letters figures value plated driven rows periods leastPeriod sv motion) s.heap.size = A at hE hD ⊢
  have hA : ∀ q : Nat, s.heap.size ≤ q → A q := fun q h => by rw [← hAe]; exact Or.inr h
  clear hAe
  have hS : va_S A s.heap s.heap [] := va_S.rf
  have hK := hE.1
  have hl := lv_entry ([.ref q0, .int x1]) (n := 5) (Nat.le_of_ble_eq_true rfl)
  rw [lg_entry_eq]
  generalize (lg_sl ([.ref q0, .int x1]) ++ List.replicate (5 - (lg_sl ([.ref q0, .int x1])).length) Slot.unset).toArray = ls at hl ⊢
  have hl : lv_has ls 5 [(0, .ref q0), (1, .int x1)] := hl
  have hi8 : ∀ w ∈ u_ws RX8 TX8 31, w ∈ wsX8_goesTo := fun w h => (List.mem_cons_of_mem _ (List.mem_append_right _ h))
  obtain ⟨out, hout⟩ : ∃ o, o = ro := ⟨_, rfl⟩
  rw [← hout] at hf
  obtain ⟨QQ, hQQ⟩ : ∃ Q, Q = MQ below (va_Qi (fun (r' : Int32) (_ : Unit) => r' = ro) (CQ Γ (wd_X8_goesTo Γ q0 q1 q2 d0 d1 d2 d3 d4 d5 d6 d7 d8 d9 d10 d11 d12 length undoMany zeroKept oneKept seen spot kind begin letters figures value plated driven rows periods leastPeriod sv motion) A) A) (([.ref q0, .int x1] : List Value).toArray) s 0 0 A := ⟨_, rfl⟩
  show W p l e ({ frames := 2, cells := 0, slots := 0, locals := 51 } : Room) s m (([.ref q0, .int x1] : List Value).toArray) below meth c s.heap [] 0 0 (MQ below _ (([.ref q0, .int x1] : List Value).toArray) s 0 0 A) (F0 m 0 ls [])
  rw [← hQQ]
  have K_79 : ∀ (x2 : Int32) {H : Heap} {locs : List Loc} {ls : Array Slot}, va_P Γ.1 vwCl (wd_X8_goesTo Γ q0 q1 q2 d0 d1 d2 d3 d4 d5 d6 d7 d8 d9 d10 d11 d12 length undoMany zeroKept oneKept seen spot kind begin letters figures value plated driven rows periods leastPeriod sv motion) H → va_D A (wd_X8_goesTo Γ q0 q1 q2 d0 d1 d2 d3 d4 d5 d6 d7 d8 d9 d10 d11 d12 length undoMany zeroKept oneKept seen spot kind begin letters figures value plated driven rows periods leastPeriod sv motion) → va_S A s.heap H locs → lv_has ls 5 [(2, .int x2)] → f_X8_goesTo_79 x2 = some out → W p l e ({ frames := 2, cells := 0, slots := 0, locals := 51 } : Room) s m ([.ref q0, .int x1] : List Value).toArray below meth c H locs 0 0 QQ (F0 m 79 ls []) := by
    intro x2 H locs ls hP hD hS hl hf
    unfold f_X8_goesTo_79 at hf
    refine lv_iload_n hx hb dX8_goesTo_79 rfl (lv_at hl 0 rfl) ?_
    subst hout; obtain rfl := Option.some.inj hf
    subst hQQ
    exact W.iret hx hb hr (fun t ht hW => ⟨⟨_, (), rfl, rfl, by rw [ht]; exact hP, hD⟩, hS.F ht⟩) hS.2.2 dX8_goesTo_80
  have K_4 : ∀ (x2 : Int32) (x3 : Int32) {H : Heap} {locs : List Loc} {ls : Array Slot}, va_P Γ.1 vwCl (wd_X8_goesTo Γ q0 q1 q2 d0 d1 d2 d3 d4 d5 d6 d7 d8 d9 d10 d11 d12 length undoMany zeroKept oneKept seen spot kind begin letters figures value plated driven rows periods leastPeriod sv motion) H → va_D A (wd_X8_goesTo Γ q0 q1 q2 d0 d1 d2 d3 d4 d5 d6 d7 d8 d9 d10 d11 d12 length undoMany zeroKept oneKept seen spot kind begin letters figures value plated driven rows periods leastPeriod sv motion) → va_S A s.heap H locs → lv_has ls 5 [(0, .ref q0), (1, .int x1), (2, .int x2), (3, .int x3)] → f_X8_goesTo_4 sv motion x1 x2 x3 = some out → W p l e ({ frames := 2, cells := 0, slots := 0, locals := 51 } : Room) s m ([.ref q0, .int x1] : List Value).toArray below meth c H locs 0 0 QQ (F0 m 4 ls []) := by
    intro x2 x3 H locs ls hP hD hS hl hf
    unfold f_X8_goesTo_4 at hf
    obtain ⟨ex4, h1, hX4⟩ := obx_some hf
    have LP : ∀ (n : Nat) (x2 : Int32) (x3 : Int32)  {H : Heap} {locs : List Loc} {ls : Array Slot}, va_P Γ.1 vwCl (wd_X8_goesTo Γ q0 q1 q2 d0 d1 d2 d3 d4 d5 d6 d7 d8 d9 d10 d11 d12 length undoMany zeroKept oneKept seen spot kind begin letters figures value plated driven rows periods leastPeriod sv motion) H → va_D A (wd_X8_goesTo Γ q0 q1 q2 d0 d1 d2 d3 d4 d5 d6 d7 d8 d9 d10 d11 d12 length undoMany zeroKept oneKept seen spot kind begin letters figures value plated driven rows periods leastPeriod sv motion) → va_S A s.heap H locs → lv_has ls 5 [(0, .ref q0), (1, .int x1), (2, .int x2), (3, .int x3)] → vm_it (f_X8_goesTo_4s sv motion x1) n (x2, x3) = some ex4 → W p l e ({ frames := 2, cells := 0, slots := 0, locals := 51 } : Room) s m ([.ref q0, .int x1] : List Value).toArray below meth c H locs 0 0 QQ (F0 m 4 ls []) := by
      clear hP hD hS hl hf h1
      intro n
      induction n with
      | zero => intro x2 x3 H locs ls hP hD hS hl hf; exact (vm_it_0 hf).elim
      | succ n ih =>
        intro x2 x3 H locs ls hP hD hS hl hf
        have hf : f_X8_goesTo_4b sv motion x1 x2 x3 (vm_it (f_X8_goesTo_4s sv motion x1) n) = some ex4 := hf
        have K_72 : ∀ (x3 : Int32) (s0 : Int32) {H : Heap} {locs : List Loc} {ls : Array Slot}, va_P Γ.1 vwCl (wd_X8_goesTo Γ q0 q1 q2 d0 d1 d2 d3 d4 d5 d6 d7 d8 d9 d10 d11 d12 length undoMany zeroKept oneKept seen spot kind begin letters figures value plated driven rows periods leastPeriod sv motion) H → va_D A (wd_X8_goesTo Γ q0 q1 q2 d0 d1 d2 d3 d4 d5 d6 d7 d8 d9 d10 d11 d12 length undoMany zeroKept oneKept seen spot kind begin letters figures value plated driven rows periods leastPeriod sv motion) → va_S A s.heap H locs → lv_has ls 5 [(0, .ref q0), (1, .int x1), (3, .int x3)] → f_X8_goesTo_72 sv motion x1 x3 s0 (vm_it (f_X8_goesTo_4s sv motion x1) n) = some ex4 → W p l e ({ frames := 2, cells := 0, slots := 0, locals := 51 } : Room) s m ([.ref q0, .int x1] : List Value).toArray below meth c H locs 0 0 QQ (F0 m 72 ls [.int s0]) := by
          intro x3 s0 H locs ls hP hD hS hl hf
          unfold f_X8_goesTo_72 at hf
          refine lv_istore_n (lv' := [(2, .int s0), (0, .ref q0), (1, .int x1), (3, .int x3)]) hx hb dX8_goesTo_72 rfl hl (by decide) rfl (fun ls hl => ?_)
          refine lv_iinc (v := (x3 + 1)) (lv' := [(3, .int (x3 + 1)), (2, .int s0), (0, .ref q0), (1, .int x1)]) hx hb dX8_goesTo_73 hl (k := 3) rfl rfl (by decide) rfl (fun ls hl => ?_)
          refine lv_goto (tgt := 4) hx hb dX8_goesTo_76 (by decide) ?_
          exact ih s0 (x3 + 1) hP hD hS (lv_sub hl [2, 3, 1, 0] rfl) hf
        have K_71 : ∀ (x2 : Int32) (x3 : Int32) {H : Heap} {locs : List Loc} {ls : Array Slot}, va_P Γ.1 vwCl (wd_X8_goesTo Γ q0 q1 q2 d0 d1 d2 d3 d4 d5 d6 d7 d8 d9 d10 d11 d12 length undoMany zeroKept oneKept seen spot kind begin letters figures value plated driven rows periods leastPeriod sv motion) H → va_D A (wd_X8_goesTo Γ q0 q1 q2 d0 d1 d2 d3 d4 d5 d6 d7 d8 d9 d10 d11 d12 length undoMany zeroKept oneKept seen spot kind begin letters figures value plated driven rows periods leastPeriod sv motion) → va_S A s.heap H locs → lv_has ls 5 [(0, .ref q0), (1, .int x1), (2, .int x2), (3, .int x3)] → f_X8_goesTo_71 sv motion x1 x2 x3 (vm_it (f_X8_goesTo_4s sv motion x1) n) = some ex4 → W p l e ({ frames := 2, cells := 0, slots := 0, locals := 51 } : Room) s m ([.ref q0, .int x1] : List Value).toArray below meth c H locs 0 0 QQ (F0 m 71 ls []) := by
          intro x2 x3 H locs ls hP hD hS hl hf
          unfold f_X8_goesTo_71 at hf
          refine lv_iload_n hx hb dX8_goesTo_71 rfl (lv_at hl 2 rfl) ?_
          exact K_72 x3 x2 hP hD hS (lv_sub hl [0, 1, 3] rfl) hf
        have K_66 : ∀ (x3 : Int32) (x4 : Int32) {H : Heap} {locs : List Loc} {ls : Array Slot}, va_P Γ.1 vwCl (wd_X8_goesTo Γ q0 q1 q2 d0 d1 d2 d3 d4 d5 d6 d7 d8 d9 d10 d11 d12 length undoMany zeroKept oneKept seen spot kind begin letters figures value plated driven rows periods leastPeriod sv motion) H → va_D A (wd_X8_goesTo Γ q0 q1 q2 d0 d1 d2 d3 d4 d5 d6 d7 d8 d9 d10 d11 d12 length undoMany zeroKept oneKept seen spot kind begin letters figures value plated driven rows periods leastPeriod sv motion) → va_S A s.heap H locs → lv_has ls 5 [(0, .ref q0), (1, .int x1), (3, .int x3), (4, .int x4)] → f_X8_goesTo_66 sv motion x1 x3 x4 (vm_it (f_X8_goesTo_4s sv motion x1) n) = some ex4 → W p l e ({ frames := 2, cells := 0, slots := 0, locals := 51 } : Room) s m ([.ref q0, .int x1] : List Value).toArray below meth c H locs 0 0 QQ (F0 m 66 ls []) := by
          intro x3 x4 H locs ls hP hD hS hl hf
          unfold f_X8_goesTo_66 at hf
          refine lv_iload hx hb dX8_goesTo_66 (lv_at hl 3 rfl) ?_
          refine lv_goto (tgt := 72) hx hb dX8_goesTo_68 (by decide) ?_
          exact K_72 x3 x4 hP hD hS (lv_sub hl [0, 1, 2] rfl) hf
        unfold f_X8_goesTo_4b at hf
        refine lv_iload_n hx hb dX8_goesTo_4 rfl (lv_at hl 3 rfl) ?_
        refine lv_iconst (v := 4) hx hb dX8_goesTo_5 (by decide) ?_
        refine lv_icmp_ge (tgt := 79) hx hb dX8_goesTo_6 (by decide) (fun hc_1 => ?_) (fun hc_1 => ?_)
        · have hf := vm_pos hc_1 hf
          have hX := hX4
          rw [← Option.some.inj hf] at hX
          exact K_79 x2 hP hD hS (lv_sub hl [2] rfl) hX
        · have hf := vm_neg hc_1 hf
          refine lv_aload_n hx hb dX8_goesTo_9 rfl (lv_at hl 0 rfl) ?_
          refine lv_iload_n hx hb dX8_goesTo_10 rfl (lv_at hl 1 rfl) ?_
          obtain ⟨r_2, hq_3, hf⟩ := ob1_some hf
          refine vm_cVi (isC := [0, 1, 2]) (wc := (wd_X8_isStill Γ q0 q1 q2 d0 d1 d2 d3 d4 d5 d6 d7 d8 d9 d10 d11 d12 length undoMany zeroKept oneKept seen spot kind begin letters figures value plated driven rows periods leastPeriod sv motion)) (w1 := (wd_X8_isStill Γ q0 q1 q2 d0 d1 d2 d3 d4 d5 d6 d7 d8 d9 d10 d11 d12 length undoMany zeroKept oneKept seen spot kind begin letters figures value plated driven rows periods leastPeriod sv motion)) (As := [.int x1]) (rest := []) ⟨hx, hb, hml, hown, hts⟩ hE hP hD hS hA rfl rfl rfl (c_X8_isStill l Γ _ q0 q1 q2 d0 d1 d2 d3 d4 d5 d6 d7 d8 d9 d10 d11 d12 length undoMany zeroKept oneKept seen spot kind begin letters figures value plated driven rows periods leastPeriod sv motion x1 r_2 hq_3) (cwV 1 hts gX8_goesTo_X8_isStill rfl rfl rfl (by decide +kernel) ⟨Nat.le_of_ble_eq_true rfl, Nat.le_of_ble_eq_true rfl⟩) (va_recv (ci := 8) (q0 := 0) hK hP rfl rfl) rfl hl.1 rfl (Nat.le_of_ble_eq_true rfl) dX8_goesTo_11 ⟨Nat.zero_le _, Nat.zero_le _⟩ (fun H locs hP hD hS => ?_)
          have hP : va_P Γ.1 vwCl (wd_X8_goesTo Γ q0 q1 q2 d0 d1 d2 d3 d4 d5 d6 d7 d8 d9 d10 d11 d12 length undoMany zeroKept oneKept seen spot kind begin letters figures value plated driven rows periods leastPeriod sv motion) H := hP
          have hD : va_D A (wd_X8_goesTo Γ q0 q1 q2 d0 d1 d2 d3 d4 d5 d6 d7 d8 d9 d10 d11 d12 length undoMany zeroKept oneKept seen spot kind begin letters figures value plated driven rows periods leastPeriod sv motion) := hD
          refine lv_if_ne (tgt := 79) hx hb dX8_goesTo_14 (by decide) (fun hc_4 => ?_) (fun hc_4 => ?_)
          · have hf := vm_neg hc_4 hf
            have hX := hX4
            rw [← Option.some.inj hf] at hX
            exact K_79 x2 hP hD hS (lv_sub hl [2] rfl) hX
          · have hf := vm_pos hc_4 hf
            refine lv_aload_n hx hb dX8_goesTo_17 rfl (lv_at hl 0 rfl) ?_
            refine lv_iload_n hx hb dX8_goesTo_18 rfl (lv_at hl 1 rfl) ?_
            refine lv_iload_n hx hb dX8_goesTo_19 rfl (lv_at hl 3 rfl) ?_
            obtain ⟨r_5, hq_6, hf⟩ := ob1_some hf
            refine vm_cVi (isC := [0, 1]) (wc := (wd_X8_next Γ q0 q1 d0 d1 d2 d3 d4 d5 d6 d7 d8 d9 q2 d10 d11 d12 length undoMany zeroKept oneKept seen spot kind begin letters figures value plated driven rows periods leastPeriod sv)) (w1 := (wd_X8_next Γ q0 q1 d0 d1 d2 d3 d4 d5 d6 d7 d8 d9 q2 d10 d11 d12 length undoMany zeroKept oneKept seen spot kind begin letters figures value plated driven rows periods leastPeriod sv)) (As := [.int x1, .int x3]) (rest := []) ⟨hx, hb, hml, hown, hts⟩ hE hP hD hS hA rfl rfl rfl (c_X8_next l Γ _ q0 q1 d0 d1 d2 d3 d4 d5 d6 d7 d8 d9 q2 d10 d11 d12 length undoMany zeroKept oneKept seen spot kind begin letters figures value plated driven rows periods leastPeriod sv x1 x3 r_5 hq_6) (cwV 2 hts gX8_goesTo_X8_next rfl rfl rfl (by decide +kernel) ⟨Nat.le_of_ble_eq_true rfl, Nat.le_of_ble_eq_true rfl⟩) (va_recv (ci := 8) (q0 := 0) hK hP rfl rfl) rfl hl.1 rfl (Nat.le_of_ble_eq_true rfl) dX8_goesTo_20 ⟨Nat.zero_le _, Nat.zero_le _⟩ (fun H locs hP hD hS => ?_)
            have hP : va_P Γ.1 vwCl (wd_X8_goesTo Γ q0 q1 q2 d0 d1 d2 d3 d4 d5 d6 d7 d8 d9 d10 d11 d12 length undoMany zeroKept oneKept seen spot kind begin letters figures value plated driven rows periods leastPeriod sv motion) H := hP
            have hD : va_D A (wd_X8_goesTo Γ q0 q1 q2 d0 d1 d2 d3 d4 d5 d6 d7 d8 d9 d10 d11 d12 length undoMany zeroKept oneKept seen spot kind begin letters figures value plated driven rows periods leastPeriod sv motion) := hD
            refine lv_istore (lv' := [(4, .int r_5), (0, .ref q0), (1, .int x1), (2, .int x2), (3, .int x3)]) hx hb dX8_goesTo_23 hl (by decide) rfl (fun ls hl => ?_)
            refine lv_iload hx hb dX8_goesTo_25 (lv_at hl 0 rfl) ?_
            refine lv_if_lt (tgt := 71) hx hb dX8_goesTo_27 (by decide) (fun hc_7 => ?_) (fun hc_7 => ?_)
            · have hf := vm_pos hc_7 hf
              exact K_71 x2 x3 hP hD hS (lv_sub hl [1, 2, 3, 4] rfl) hf
            · have hf := vm_neg hc_7 hf
              refine lv_aload_n hx hb dX8_goesTo_30 rfl (lv_at hl 1 rfl) ?_
              refine va_get (D := Γ.1) (ci := 8) (v := .ref q2) (C := RX8) (T := TX8) (N := 31) hx hb hts hi8 hown hK hP 0 rfl rfl 25 (by decide) (hts (.fieldLink RX8 43 "SandPlatesModel" "motion" "[I") (List.mem_of_getElem? (i := 1) rfl)) (fun _ h9 => h9) rfl dX8_goesTo_31 ?_
              refine lv_iload hx hb dX8_goesTo_34 (lv_at hl 0 rfl) ?_
              obtain ⟨hc_8, hf⟩ := vm_ck hf
              refine vm_iald hx hb hK hP 2 0 rfl rfl hc_8 (j := r_5.toNatClampNeg) rfl dX8_goesTo_36 ?_
              refine lv_aload_n hx hb dX8_goesTo_37 rfl (lv_at hl 1 rfl) ?_
              refine va_get (D := Γ.1) (ci := 8) (v := .ref q2) (C := RX8) (T := TX8) (N := 31) hx hb hts hi8 hown hK hP 0 rfl rfl 25 (by decide) (hts (.fieldLink RX8 43 "SandPlatesModel" "motion" "[I") (List.mem_of_getElem? (i := 1) rfl)) (fun _ h9 => h9) rfl dX8_goesTo_38 ?_
              refine lv_iload_n hx hb dX8_goesTo_41 rfl (lv_at hl 2 rfl) ?_
              obtain ⟨hc_9, hf⟩ := vm_ck hf
              refine vm_iald hx hb hK hP 2 0 rfl rfl hc_9 (j := x1.toNatClampNeg) rfl dX8_goesTo_42 ?_
              refine lv_icmp_ge (tgt := 71) hx hb dX8_goesTo_43 (by decide) (fun hc_10 => ?_) (fun hc_10 => ?_)
              · have hf := vm_pos hc_10 hf
                exact K_71 x2 x3 hP hD hS (lv_sub hl [1, 2, 3, 4] rfl) hf
              · have hf := vm_neg hc_10 hf
                refine lv_iload_n hx hb dX8_goesTo_46 rfl (lv_at hl 3 rfl) ?_
                refine lv_if_lt (tgt := 66) hx hb dX8_goesTo_47 (by decide) (fun hc_11 => ?_) (fun hc_11 => ?_)
                · have hf := vm_pos hc_11 hf
                  exact K_66 x3 r_5 hP hD hS (lv_sub hl [1, 2, 4, 0] rfl) hf
                · have hf := vm_neg hc_11 hf
                  refine lv_aload_n hx hb dX8_goesTo_50 rfl (lv_at hl 1 rfl) ?_
                  refine va_get (D := Γ.1) (ci := 8) (v := .ref q2) (C := RX8) (T := TX8) (N := 31) hx hb hts hi8 hown hK hP 0 rfl rfl 25 (by decide) (hts (.fieldLink RX8 43 "SandPlatesModel" "motion" "[I") (List.mem_of_getElem? (i := 1) rfl)) (fun _ h9 => h9) rfl dX8_goesTo_51 ?_
                  refine lv_iload hx hb dX8_goesTo_54 (lv_at hl 0 rfl) ?_
                  obtain ⟨hc_12, hf⟩ := vm_ck hf
                  refine vm_iald hx hb hK hP 2 0 rfl rfl hc_12 (j := r_5.toNatClampNeg) rfl dX8_goesTo_56 ?_
                  refine lv_aload_n hx hb dX8_goesTo_57 rfl (lv_at hl 1 rfl) ?_
                  refine va_get (D := Γ.1) (ci := 8) (v := .ref q2) (C := RX8) (T := TX8) (N := 31) hx hb hts hi8 hown hK hP 0 rfl rfl 25 (by decide) (hts (.fieldLink RX8 43 "SandPlatesModel" "motion" "[I") (List.mem_of_getElem? (i := 1) rfl)) (fun _ h9 => h9) rfl dX8_goesTo_58 ?_
                  refine lv_iload_n hx hb dX8_goesTo_61 rfl (lv_at hl 3 rfl) ?_
                  obtain ⟨hc_13, hf⟩ := vm_ck hf
                  refine vm_iald hx hb hK hP 2 0 rfl rfl hc_13 (j := x2.toNatClampNeg) rfl dX8_goesTo_62 ?_
                  refine lv_icmp_ge (tgt := 71) hx hb dX8_goesTo_63 (by decide) (fun hc_14 => ?_) (fun hc_14 => ?_)
                  · have hf := vm_pos hc_14 hf
                    exact K_71 x2 x3 hP hD hS (lv_sub hl [1, 2, 3, 4] rfl) hf
                  · have hf := vm_neg hc_14 hf
                    exact K_66 x3 r_5 hP hD hS (lv_sub hl [1, 2, 4, 0] rfl) hf
    exact LP FU x2 x3 hP hD hS hl h1
  unfold f_X8_goesTo at hf
  refine lv_iconst (v := (-1)) hx hb dX8_goesTo_0 (by decide) ?_
  refine lv_istore_n (lv' := [(2, .int (-1)), (0, .ref q0), (1, .int x1)]) hx hb dX8_goesTo_1 rfl hl (by decide) rfl (fun ls hl => ?_)
  refine lv_iconst (v := 0) hx hb dX8_goesTo_2 (by decide) ?_
  refine lv_istore_n (lv' := [(3, .int 0), (2, .int (-1)), (0, .ref q0), (1, .int x1)]) hx hb dX8_goesTo_3 rfl hl (by decide) rfl (fun ls hl => ?_)
  exact K_4 (-1) 0 hP hD hS (lv_sub hl [2, 3, 1, 0] rfl) hf
def wd_X8_shakesOnce_t (Γ : GE) (q0 q1 q2 q3 q4 d0 d1 d2 d3 d4 d5 d6 d7 d8 d9 d10 : Nat) (length : Int32) (undoMany : Int32) (zeroKept : Int32) (oneKept : Int32) (seen : Int32) (spot : Int32) (kind : Int32) (begin : Int32) (letters : Int64) (figures : Int32) (value : Int32) (plated : Int32) (driven : Int32) (rows : Int32) (periods : Int32) (leastPeriod : Int32) (sv : Nat → Int32) (motion : Nat → Int32) (lie : Nat → Int32) (tried : Nat → Int32) : va_W := [(q0, .inr (8, [.int length, .ref d0, .ref q1, .ref d1, .ref d2, .int undoMany, .ref d3, .int zeroKept, .int oneKept, .ref d4, .ref d5, .int seen, .int spot, .int kind, .int begin, .long letters, .int figures, .int value, .int plated, .int driven, .int rows, .ref d6, .ref d7, .ref d8, .ref d9, .ref q2, .ref q3, .ref q4, .ref d10, .int periods, .int leastPeriod])), (q1, .inl (Γ.2.1 0, 81, .inl sv)), (q2, .inl (Γ.2.1 0, 36, .inl motion)), (q3, .inl (Γ.2.1 0, 36, .inl lie)), (q4, .inl (Γ.2.1 0, 36, .inl tried))]
def f_X8_shakesOnce_t_127 (lie : Nat → Int32) (tried : Nat → Int32) (x3 : Int32) : Option (Int32 × (Nat → Int32) × (Nat → Int32)) := some (x3, lie, tried)
def f_X8_shakesOnce_t_99b (sv : Nat → Int32) (lie : Nat → Int32) (x2 : Int32) (x3 : Int32) (tried : Nat → Int32) (x4 : Int32) (k : (((Nat → Int32) × Int32) → Option (Nat → Int32))) : Option (Nat → Int32) := ob1 (f_X8_cells sv) (fun r_1 => if r_1 ≤ x4 then (some tried) else (if inb x4 36 = true then if inb (x2 + x4) 36 = true then k ((upd tried ((x2 + x4).toNatClampNeg) (lie (x4.toNatClampNeg))), (x4 + 1)) else none else none))
def f_X8_shakesOnce_t_99s (sv : Nat → Int32) (lie : Nat → Int32) (x2 : Int32) (x3 : Int32) : ((Nat → Int32) × Int32) → (((Nat → Int32) × Int32) → Option (Nat → Int32)) → Option (Nat → Int32) := fun t k => f_X8_shakesOnce_t_99b sv lie x2 x3 t.1 t.2 k
def f_X8_shakesOnce_t_99 (sv : Nat → Int32) (lie : Nat → Int32) (tried : Nat → Int32) (x2 : Int32) (x3 : Int32) (x4 : Int32) : Option (Int32 × (Nat → Int32) × (Nat → Int32)) := obx (vm_it (f_X8_shakesOnce_t_99s sv lie x2 x3) FU (tried, x4)) (fun tried => f_X8_shakesOnce_t_127 lie tried x3)
def f_X8_shakesOnce_t_96 (sv : Nat → Int32) (lie : Nat → Int32) (tried : Nat → Int32) (x2 : Int32) (x3 : Int32) : Option (Int32 × (Nat → Int32) × (Nat → Int32)) := f_X8_shakesOnce_t_99 sv lie tried x2 x3 0
def f_X8_shakesOnce_t_88 (sv : Nat → Int32) (motion : Nat → Int32) (lie : Nat → Int32) (tried : Nat → Int32) (x2 : Int32) (x4 : Int32) (s0 : Int32) (s1 : Int32) (k : (((Nat → Int32) × Int32 × Int32) → Option ((Nat → Int32) × Int32))) : Option ((Nat → Int32) × Int32) := k (lie, (s0 + s1), (x4 + 1))
def f_X8_shakesOnce_t_62 (sv : Nat → Int32) (motion : Nat → Int32) (lie : Nat → Int32) (tried : Nat → Int32) (x2 : Int32) (x3 : Int32) (x4 : Int32) (x5 : Int32) (s1 : Int32) (k : (((Nat → Int32) × Int32 × Int32) → Option ((Nat → Int32) × Int32))) : Option ((Nat → Int32) × Int32) := if inb s1 36 = true then if inb (x2 + x4) 36 = true then if inb s1 36 = true then if 0 ≤ x5 then (if inb (x2 + x4) 36 = true then f_X8_shakesOnce_t_88 sv motion (upd lie (s1.toNatClampNeg) ((lie (s1.toNatClampNeg)) + (tried ((x2 + x4).toNatClampNeg)))) tried x2 x4 x3 (tried ((x2 + x4).toNatClampNeg)) k else none) else (f_X8_shakesOnce_t_88 sv motion (upd lie (s1.toNatClampNeg) ((lie (s1.toNatClampNeg)) + (tried ((x2 + x4).toNatClampNeg)))) tried x2 x4 x3 0 k) else none else none else none
def f_X8_shakesOnce_t_29b (sv : Nat → Int32) (motion : Nat → Int32) (tried : Nat → Int32) (x2 : Int32) (lie : Nat → Int32) (x3 : Int32) (x4 : Int32) (k : (((Nat → Int32) × Int32 × Int32) → Option ((Nat → Int32) × Int32))) : Option ((Nat → Int32) × Int32) := ob1 (f_X8_cells sv) (fun r_11 => if r_11 ≤ x4 then (some (lie, x3)) else (ob1 (f_X8_goesTo sv motion x4) (fun r_14 => if 0 ≤ r_14 then (f_X8_shakesOnce_t_62 sv motion lie tried x2 x3 x4 r_14 r_14 k) else (f_X8_shakesOnce_t_62 sv motion lie tried x2 x3 x4 r_14 x4 k))))
def f_X8_shakesOnce_t_29s (sv : Nat → Int32) (motion : Nat → Int32) (tried : Nat → Int32) (x2 : Int32) : ((Nat → Int32) × Int32 × Int32) → (((Nat → Int32) × Int32 × Int32) → Option ((Nat → Int32) × Int32)) → Option ((Nat → Int32) × Int32) := fun t k => f_X8_shakesOnce_t_29b sv motion tried x2 t.1 t.2.1 t.2.2 k
def f_X8_shakesOnce_t_29 (sv : Nat → Int32) (motion : Nat → Int32) (lie : Nat → Int32) (tried : Nat → Int32) (x2 : Int32) (x3 : Int32) (x4 : Int32) : Option (Int32 × (Nat → Int32) × (Nat → Int32)) := obx (vm_it (f_X8_shakesOnce_t_29s sv motion tried x2) FU (lie, x3, x4)) (un2 (fun lie x3 => f_X8_shakesOnce_t_96 sv lie tried x2 x3))
def f_X8_shakesOnce_t_26 (sv : Nat → Int32) (motion : Nat → Int32) (lie : Nat → Int32) (tried : Nat → Int32) (x2 : Int32) (x3 : Int32) : Option (Int32 × (Nat → Int32) × (Nat → Int32)) := f_X8_shakesOnce_t_29 sv motion lie tried x2 x3 0
def f_X8_shakesOnce_t_5b (sv : Nat → Int32) (motion : Nat → Int32) (tried : Nat → Int32) (x2 : Int32) (x3 : Int32) (lie : Nat → Int32) (x4 : Int32) (k : (((Nat → Int32) × Int32) → Option (Nat → Int32))) : Option (Nat → Int32) := if 36 ≤ x4 then (some lie) else (if inb x4 36 = true then k ((upd lie (x4.toNatClampNeg) 0), (x4 + 1)) else none)
def f_X8_shakesOnce_t_5s (sv : Nat → Int32) (motion : Nat → Int32) (tried : Nat → Int32) (x2 : Int32) (x3 : Int32) : ((Nat → Int32) × Int32) → (((Nat → Int32) × Int32) → Option (Nat → Int32)) → Option (Nat → Int32) := fun t k => f_X8_shakesOnce_t_5b sv motion tried x2 x3 t.1 t.2 k
def f_X8_shakesOnce_t_5 (sv : Nat → Int32) (motion : Nat → Int32) (lie : Nat → Int32) (tried : Nat → Int32) (x2 : Int32) (x3 : Int32) (x4 : Int32) : Option (Int32 × (Nat → Int32) × (Nat → Int32)) := obx (vm_it (f_X8_shakesOnce_t_5s sv motion tried x2 x3) FU (lie, x4)) (fun lie => f_X8_shakesOnce_t_26 sv motion lie tried x2 x3)
def f_X8_shakesOnce_t (sv : Nat → Int32) (motion : Nat → Int32) (lie : Nat → Int32) (tried : Nat → Int32) (x2 : Int32) : Option (Int32 × (Nat → Int32) × (Nat → Int32)) := f_X8_shakesOnce_t_5 sv motion lie tried x2 0 0
set_option maxHeartbeats 4000000 in
set_option maxRecDepth 100000 in
theorem c_X8_shakesOnce_t (l : Launch) (Γ : GE) (sz : Nat) (q0 q1 q2 q3 q4 d0 d1 d2 d3 d4 d5 d6 d7 d8 d9 d10 : Nat) (length : Int32) (undoMany : Int32) (zeroKept : Int32) (oneKept : Int32) (seen : Int32) (spot : Int32) (kind : Int32) (begin : Int32) (letters : Int64) (figures : Int32) (value : Int32) (plated : Int32) (driven : Int32) (rows : Int32) (periods : Int32) (leastPeriod : Int32) (sv : Nat → Int32) (motion : Nat → Int32) (lie : Nat → Int32) (tried : Nat → Int32) (x2 : Int32) (ro : Int32) (o_lie : Nat → Int32) (o_tried : Nat → Int32) (hf : f_X8_shakesOnce_t sv motion lie tried x2 = some (ro, o_lie, o_tried)) : MetI l yX8_shakesOnce wsX8_shakesOnce ({ frames := 3, cells := 0, slots := 0, locals := 75 } : Room) Γ [.ref q0, .ref q4, .int x2] (wd_X8_shakesOnce_t Γ q0 q1 q2 q3 q4 d0 d1 d2 d3 d4 d5 d6 d7 d8 d9 d10 length undoMany zeroKept oneKept seen spot kind begin letters figures value plated driven rows periods leastPeriod sv motion lie tried) (wd_X8_shakesOnce_t Γ q0 q1 q2 q3 q4 d0 d1 d2 d3 d4 d5 d6 d7 d8 d9 d10 length undoMany zeroKept oneKept seen spot kind begin letters figures value plated driven rows periods leastPeriod sv motion o_lie o_tried) sz ro := by
  refine Met.ofW (cc := cX8_shakesOnce) (maxL := 6) (ret := (some .int)) (by decide) rfl ?_
  intro p e s m args below meth c s₁ B hml hv
  obtain ⟨rfl, hsz, hE, hP, hD⟩ := hv
  have hx := B.exec
  have hb := B.bytes
  have hr := B.returns
  have hts := atoms_spec (ws := wsX8_shakesOnce) B.pre
  have hown : s.vm.findClass RX8 = some m.cls := findClass_of_methodNamed B.named
  have hlocks := B.notSynchronized
  subst hsz
  generalize hAe : va_A (wd_X8_shakesOnce_t Γ q0 q1 q2 q3 q4 d0 d1 d2 d3 d4 d5 d6 d7 d8 d9 d10 length undoMany zeroKept oneKept seen spot kind begin letters figures value plated driven rows periods leastPeriod sv motion lie tried) s.heap.size = A at hE hD ⊢
  have hA : ∀ q : Nat, s.heap.size ≤ q → A q := fun q h => by rw [← hAe]; exact Or.inr h
  clear hAe
  have hS : va_S A s.heap s.heap [] := va_S.rf
  have hK := hE.1
  have hl := lv_entry ([.ref q0, .ref q4, .int x2]) (n := 6) (Nat.le_of_ble_eq_true rfl)
  rw [lg_entry_eq]
  generalize (lg_sl ([.ref q0, .ref q4, .int x2]) ++ List.replicate (6 - (lg_sl ([.ref q0, .ref q4, .int x2])).length) Slot.unset).toArray = ls at hl ⊢
  have hl : lv_has ls 6 [(0, .ref q0), (1, .ref q4), (2, .int x2)] := hl
  have hi8 : ∀ w ∈ u_ws RX8 TX8 31, w ∈ wsX8_shakesOnce := fun w h => (List.mem_cons_of_mem _ (List.mem_append_right _ h))
  obtain ⟨out, hout⟩ : ∃ o, o = (ro, o_lie, o_tried) := ⟨_, rfl⟩
  rw [← hout] at hf
  obtain ⟨QQ, hQQ⟩ : ∃ Q, Q = MQ below (va_Qi (fun (r' : Int32) (_ : Unit) => r' = ro) (CQ Γ (wd_X8_shakesOnce_t Γ q0 q1 q2 q3 q4 d0 d1 d2 d3 d4 d5 d6 d7 d8 d9 d10 length undoMany zeroKept oneKept seen spot kind begin letters figures value plated driven rows periods leastPeriod sv motion o_lie o_tried) A) A) (([.ref q0, .ref q4, .int x2] : List Value).toArray) s 0 0 A := ⟨_, rfl⟩
  show W p l e ({ frames := 3, cells := 0, slots := 0, locals := 75 } : Room) s m (([.ref q0, .ref q4, .int x2] : List Value).toArray) below meth c s.heap [] 0 0 (MQ below _ (([.ref q0, .ref q4, .int x2] : List Value).toArray) s 0 0 A) (F0 m 0 ls [])
  rw [← hQQ]
  have K_127 : ∀ (lie : Nat → Int32) (tried : Nat → Int32) (x3 : Int32) {H : Heap} {locs : List Loc} {ls : Array Slot}, va_P Γ.1 vwCl (wd_X8_shakesOnce_t Γ q0 q1 q2 q3 q4 d0 d1 d2 d3 d4 d5 d6 d7 d8 d9 d10 length undoMany zeroKept oneKept seen spot kind begin letters figures value plated driven rows periods leastPeriod sv motion lie tried) H → va_D A (wd_X8_shakesOnce_t Γ q0 q1 q2 q3 q4 d0 d1 d2 d3 d4 d5 d6 d7 d8 d9 d10 length undoMany zeroKept oneKept seen spot kind begin letters figures value plated driven rows periods leastPeriod sv motion lie tried) → va_S A s.heap H locs → lv_has ls 6 [(3, .int x3)] → f_X8_shakesOnce_t_127 lie tried x3 = some out → W p l e ({ frames := 3, cells := 0, slots := 0, locals := 75 } : Room) s m ([.ref q0, .ref q4, .int x2] : List Value).toArray below meth c H locs 0 0 QQ (F0 m 127 ls []) := by
    intro lie tried x3 H locs ls hP hD hS hl hf
    unfold f_X8_shakesOnce_t_127 at hf
    refine lv_iload_n hx hb dX8_shakesOnce_127 rfl (lv_at hl 0 rfl) ?_
    subst hout; obtain ⟨rfl, rfl, rfl⟩ := rt3 hf
    subst hQQ
    exact W.iret hx hb hr (fun t ht hW => ⟨⟨_, (), rfl, rfl, by rw [ht]; exact hP, hD⟩, hS.F ht⟩) hS.2.2 dX8_shakesOnce_128
  have K_99 : ∀ (lie : Nat → Int32) (tried : Nat → Int32) (x3 : Int32) (x4 : Int32) {H : Heap} {locs : List Loc} {ls : Array Slot}, va_P Γ.1 vwCl (wd_X8_shakesOnce_t Γ q0 q1 q2 q3 q4 d0 d1 d2 d3 d4 d5 d6 d7 d8 d9 d10 length undoMany zeroKept oneKept seen spot kind begin letters figures value plated driven rows periods leastPeriod sv motion lie tried) H → va_D A (wd_X8_shakesOnce_t Γ q0 q1 q2 q3 q4 d0 d1 d2 d3 d4 d5 d6 d7 d8 d9 d10 length undoMany zeroKept oneKept seen spot kind begin letters figures value plated driven rows periods leastPeriod sv motion lie tried) → va_S A s.heap H locs → lv_has ls 6 [(0, .ref q0), (1, .ref q4), (2, .int x2), (3, .int x3), (4, .int x4)] → f_X8_shakesOnce_t_99 sv lie tried x2 x3 x4 = some out → W p l e ({ frames := 3, cells := 0, slots := 0, locals := 75 } : Room) s m ([.ref q0, .ref q4, .int x2] : List Value).toArray below meth c H locs 0 0 QQ (F0 m 99 ls []) := by
    intro lie tried x3 x4 H locs ls hP hD hS hl hf
    unfold f_X8_shakesOnce_t_99 at hf
    obtain ⟨ex99, h1, hX99⟩ := obx_some hf
    have LP : ∀ (n : Nat) (tried : Nat → Int32) (x4 : Int32)  {H : Heap} {locs : List Loc} {ls : Array Slot}, va_P Γ.1 vwCl (wd_X8_shakesOnce_t Γ q0 q1 q2 q3 q4 d0 d1 d2 d3 d4 d5 d6 d7 d8 d9 d10 length undoMany zeroKept oneKept seen spot kind begin letters figures value plated driven rows periods leastPeriod sv motion lie tried) H → va_D A (wd_X8_shakesOnce_t Γ q0 q1 q2 q3 q4 d0 d1 d2 d3 d4 d5 d6 d7 d8 d9 d10 length undoMany zeroKept oneKept seen spot kind begin letters figures value plated driven rows periods leastPeriod sv motion lie tried) → va_S A s.heap H locs → lv_has ls 6 [(0, .ref q0), (1, .ref q4), (2, .int x2), (3, .int x3), (4, .int x4)] → vm_it (f_X8_shakesOnce_t_99s sv lie x2 x3) n (tried, x4) = some ex99 → W p l e ({ frames := 3, cells := 0, slots := 0, locals := 75 } : Room) s m ([.ref q0, .ref q4, .int x2] : List Value).toArray below meth c H locs 0 0 QQ (F0 m 99 ls []) := by
      clear hP hD hS hl hf h1
      intro n
      induction n with
      | zero => intro tried x4 H locs ls hP hD hS hl hf; exact (vm_it_0 hf).elim
      | succ n ih =>
        intro tried x4 H locs ls hP hD hS hl hf
        have hf : f_X8_shakesOnce_t_99b sv lie x2 x3 tried x4 (vm_it (f_X8_shakesOnce_t_99s sv lie x2 x3) n) = some ex99 := hf
        unfold f_X8_shakesOnce_t_99b at hf
        refine lv_iload hx hb dX8_shakesOnce_99 (lv_at hl 4 rfl) ?_
        refine lv_aload_n hx hb dX8_shakesOnce_101 rfl (lv_at hl 0 rfl) ?_
        obtain ⟨r_1, hq_2, hf⟩ := ob1_some hf
        refine vm_cVi (isC := [0, 1]) (wc := (wd_X8_cells Γ q0 q1 d0 d1 d2 d3 d4 d5 d6 d7 d8 d9 q2 q3 q4 d10 length undoMany zeroKept oneKept seen spot kind begin letters figures value plated driven rows periods leastPeriod sv)) (w1 := (wd_X8_cells Γ q0 q1 d0 d1 d2 d3 d4 d5 d6 d7 d8 d9 q2 q3 q4 d10 length undoMany zeroKept oneKept seen spot kind begin letters figures value plated driven rows periods leastPeriod sv)) (As := []) (rest := [.int x4]) ⟨hx, hb, hml, hown, hts⟩ hE hP hD hS hA rfl rfl rfl (c_X8_cells l Γ _ q0 q1 d0 d1 d2 d3 d4 d5 d6 d7 d8 d9 q2 q3 q4 d10 length undoMany zeroKept oneKept seen spot kind begin letters figures value plated driven rows periods leastPeriod sv r_1 hq_2) (cwV 0 hts gX8_shakesOnce_X8_cells rfl rfl rfl (by decide +kernel) ⟨Nat.le_of_ble_eq_true rfl, Nat.le_of_ble_eq_true rfl⟩) (va_recv (ci := 8) (q0 := 0) hK hP rfl rfl) rfl hl.1 rfl (Nat.le_of_ble_eq_true rfl) dX8_shakesOnce_102 ⟨Nat.zero_le _, Nat.zero_le _⟩ (fun H locs hP hD hS => ?_)
        have hP : va_P Γ.1 vwCl (wd_X8_shakesOnce_t Γ q0 q1 q2 q3 q4 d0 d1 d2 d3 d4 d5 d6 d7 d8 d9 d10 length undoMany zeroKept oneKept seen spot kind begin letters figures value plated driven rows periods leastPeriod sv motion lie tried) H := hP
        have hD : va_D A (wd_X8_shakesOnce_t Γ q0 q1 q2 q3 q4 d0 d1 d2 d3 d4 d5 d6 d7 d8 d9 d10 length undoMany zeroKept oneKept seen spot kind begin letters figures value plated driven rows periods leastPeriod sv motion lie tried) := hD
        refine lv_icmp_ge (tgt := 127) hx hb dX8_shakesOnce_105 (by decide) (fun hc_3 => ?_) (fun hc_3 => ?_)
        · have hf := vm_pos hc_3 hf
          have hX := hX99
          rw [← Option.some.inj hf] at hX
          exact K_127 lie tried x3 hP hD hS (lv_sub hl [3] rfl) hX
        · have hf := vm_neg hc_3 hf
          refine lv_aload_n hx hb dX8_shakesOnce_108 rfl (lv_at hl 1 rfl) ?_
          refine lv_iload_n hx hb dX8_shakesOnce_109 rfl (lv_at hl 2 rfl) ?_
          refine lv_iload hx hb dX8_shakesOnce_110 (lv_at hl 4 rfl) ?_
          refine lv_iadd hx hb dX8_shakesOnce_112 ?_
          refine lv_aload_n hx hb dX8_shakesOnce_113 rfl (lv_at hl 0 rfl) ?_
          refine va_get (D := Γ.1) (ci := 8) (v := .ref q3) (C := RX8) (T := TX8) (N := 31) hx hb hts hi8 hown hK hP 0 rfl rfl 26 (by decide) (hts (.fieldLink RX8 46 "SandPlatesModel" "lie" "[I") (List.mem_of_getElem? (i := 1) rfl)) (fun _ h9 => h9) rfl dX8_shakesOnce_114 ?_
          refine lv_iload hx hb dX8_shakesOnce_117 (lv_at hl 4 rfl) ?_
          obtain ⟨hc_4, hf⟩ := vm_ck hf
          refine vm_iald hx hb hK hP 3 0 rfl rfl hc_4 (j := x4.toNatClampNeg) rfl dX8_shakesOnce_119 ?_
          obtain ⟨hc_5, hf⟩ := vm_ck hf
          refine vm_iast hx hb hK hP hD hS 4 0 rfl rfl hc_5 (j := ((x2 + x4).toNatClampNeg)) rfl dX8_shakesOnce_120 (fun H locs hP hD hS => ?_)
          have hP : va_P Γ.1 vwCl (wd_X8_shakesOnce_t Γ q0 q1 q2 q3 q4 d0 d1 d2 d3 d4 d5 d6 d7 d8 d9 d10 length undoMany zeroKept oneKept seen spot kind begin letters figures value plated driven rows periods leastPeriod sv motion lie (upd tried ((x2 + x4).toNatClampNeg) (lie (x4.toNatClampNeg)))) H := hP
          have hD : va_D A (wd_X8_shakesOnce_t Γ q0 q1 q2 q3 q4 d0 d1 d2 d3 d4 d5 d6 d7 d8 d9 d10 length undoMany zeroKept oneKept seen spot kind begin letters figures value plated driven rows periods leastPeriod sv motion lie (upd tried ((x2 + x4).toNatClampNeg) (lie (x4.toNatClampNeg)))) := hD
          refine lv_iinc (v := (x4 + 1)) (lv' := [(4, .int (x4 + 1)), (0, .ref q0), (1, .ref q4), (2, .int x2), (3, .int x3)]) hx hb dX8_shakesOnce_121 hl (k := 4) rfl rfl (by decide) rfl (fun ls hl => ?_)
          refine lv_goto (tgt := 99) hx hb dX8_shakesOnce_124 (by decide) ?_
          exact ih (upd tried ((x2 + x4).toNatClampNeg) (lie (x4.toNatClampNeg))) (x4 + 1) hP hD hS (lv_sub hl [1, 2, 3, 4, 0] rfl) hf
    exact LP FU tried x4 hP hD hS hl h1
  have K_96 : ∀ (lie : Nat → Int32) (tried : Nat → Int32) (x3 : Int32) {H : Heap} {locs : List Loc} {ls : Array Slot}, va_P Γ.1 vwCl (wd_X8_shakesOnce_t Γ q0 q1 q2 q3 q4 d0 d1 d2 d3 d4 d5 d6 d7 d8 d9 d10 length undoMany zeroKept oneKept seen spot kind begin letters figures value plated driven rows periods leastPeriod sv motion lie tried) H → va_D A (wd_X8_shakesOnce_t Γ q0 q1 q2 q3 q4 d0 d1 d2 d3 d4 d5 d6 d7 d8 d9 d10 length undoMany zeroKept oneKept seen spot kind begin letters figures value plated driven rows periods leastPeriod sv motion lie tried) → va_S A s.heap H locs → lv_has ls 6 [(0, .ref q0), (1, .ref q4), (2, .int x2), (3, .int x3)] → f_X8_shakesOnce_t_96 sv lie tried x2 x3 = some out → W p l e ({ frames := 3, cells := 0, slots := 0, locals := 75 } : Room) s m ([.ref q0, .ref q4, .int x2] : List Value).toArray below meth c H locs 0 0 QQ (F0 m 96 ls []) := by
    intro lie tried x3 H locs ls hP hD hS hl hf
    unfold f_X8_shakesOnce_t_96 at hf
    refine lv_iconst (v := 0) hx hb dX8_shakesOnce_96 (by decide) ?_
    refine lv_istore (lv' := [(4, .int 0), (0, .ref q0), (1, .ref q4), (2, .int x2), (3, .int x3)]) hx hb dX8_shakesOnce_97 hl (by decide) rfl (fun ls hl => ?_)
    exact K_99 lie tried x3 0 hP hD hS (lv_sub hl [1, 2, 3, 4, 0] rfl) hf
  have K_29 : ∀ (lie : Nat → Int32) (tried : Nat → Int32) (x3 : Int32) (x4 : Int32) {H : Heap} {locs : List Loc} {ls : Array Slot}, va_P Γ.1 vwCl (wd_X8_shakesOnce_t Γ q0 q1 q2 q3 q4 d0 d1 d2 d3 d4 d5 d6 d7 d8 d9 d10 length undoMany zeroKept oneKept seen spot kind begin letters figures value plated driven rows periods leastPeriod sv motion lie tried) H → va_D A (wd_X8_shakesOnce_t Γ q0 q1 q2 q3 q4 d0 d1 d2 d3 d4 d5 d6 d7 d8 d9 d10 length undoMany zeroKept oneKept seen spot kind begin letters figures value plated driven rows periods leastPeriod sv motion lie tried) → va_S A s.heap H locs → lv_has ls 6 [(0, .ref q0), (1, .ref q4), (2, .int x2), (3, .int x3), (4, .int x4)] → f_X8_shakesOnce_t_29 sv motion lie tried x2 x3 x4 = some out → W p l e ({ frames := 3, cells := 0, slots := 0, locals := 75 } : Room) s m ([.ref q0, .ref q4, .int x2] : List Value).toArray below meth c H locs 0 0 QQ (F0 m 29 ls []) := by
    intro lie tried x3 x4 H locs ls hP hD hS hl hf
    unfold f_X8_shakesOnce_t_29 at hf
    obtain ⟨ex29, h1, hX29⟩ := obx_some hf
    have LP : ∀ (n : Nat) (lie : Nat → Int32) (x3 : Int32) (x4 : Int32)  {H : Heap} {locs : List Loc} {ls : Array Slot}, va_P Γ.1 vwCl (wd_X8_shakesOnce_t Γ q0 q1 q2 q3 q4 d0 d1 d2 d3 d4 d5 d6 d7 d8 d9 d10 length undoMany zeroKept oneKept seen spot kind begin letters figures value plated driven rows periods leastPeriod sv motion lie tried) H → va_D A (wd_X8_shakesOnce_t Γ q0 q1 q2 q3 q4 d0 d1 d2 d3 d4 d5 d6 d7 d8 d9 d10 length undoMany zeroKept oneKept seen spot kind begin letters figures value plated driven rows periods leastPeriod sv motion lie tried) → va_S A s.heap H locs → lv_has ls 6 [(0, .ref q0), (1, .ref q4), (2, .int x2), (3, .int x3), (4, .int x4)] → vm_it (f_X8_shakesOnce_t_29s sv motion tried x2) n (lie, x3, x4) = some ex29 → W p l e ({ frames := 3, cells := 0, slots := 0, locals := 75 } : Room) s m ([.ref q0, .ref q4, .int x2] : List Value).toArray below meth c H locs 0 0 QQ (F0 m 29 ls []) := by
      clear hP hD hS hl hf h1
      intro n
      induction n with
      | zero => intro lie x3 x4 H locs ls hP hD hS hl hf; exact (vm_it_0 hf).elim
      | succ n ih =>
        intro lie x3 x4 H locs ls hP hD hS hl hf
        have hf : f_X8_shakesOnce_t_29b sv motion tried x2 lie x3 x4 (vm_it (f_X8_shakesOnce_t_29s sv motion tried x2) n) = some ex29 := hf
        have K_88 : ∀ (lie : Nat → Int32) (x4 : Int32) (s0 : Int32) (s1 : Int32) {H : Heap} {locs : List Loc} {ls : Array Slot}, va_P Γ.1 vwCl (wd_X8_shakesOnce_t Γ q0 q1 q2 q3 q4 d0 d1 d2 d3 d4 d5 d6 d7 d8 d9 d10 length undoMany zeroKept oneKept seen spot kind begin letters figures value plated driven rows periods leastPeriod sv motion lie tried) H → va_D A (wd_X8_shakesOnce_t Γ q0 q1 q2 q3 q4 d0 d1 d2 d3 d4 d5 d6 d7 d8 d9 d10 length undoMany zeroKept oneKept seen spot kind begin letters figures value plated driven rows periods leastPeriod sv motion lie tried) → va_S A s.heap H locs → lv_has ls 6 [(0, .ref q0), (1, .ref q4), (2, .int x2), (4, .int x4)] → f_X8_shakesOnce_t_88 sv motion lie tried x2 x4 s0 s1 (vm_it (f_X8_shakesOnce_t_29s sv motion tried x2) n) = some ex29 → W p l e ({ frames := 3, cells := 0, slots := 0, locals := 75 } : Room) s m ([.ref q0, .ref q4, .int x2] : List Value).toArray below meth c H locs 0 0 QQ (F0 m 88 ls [.int s1, .int s0]) := by
          intro lie x4 s0 s1 H locs ls hP hD hS hl hf
          unfold f_X8_shakesOnce_t_88 at hf
          refine lv_iadd hx hb dX8_shakesOnce_88 ?_
          refine lv_istore_n (lv' := [(3, .int (s0 + s1)), (0, .ref q0), (1, .ref q4), (2, .int x2), (4, .int x4)]) hx hb dX8_shakesOnce_89 rfl hl (by decide) rfl (fun ls hl => ?_)
          refine lv_iinc (v := (x4 + 1)) (lv' := [(4, .int (x4 + 1)), (3, .int (s0 + s1)), (0, .ref q0), (1, .ref q4), (2, .int x2)]) hx hb dX8_shakesOnce_90 hl (k := 4) rfl rfl (by decide) rfl (fun ls hl => ?_)
          refine lv_goto (tgt := 29) hx hb dX8_shakesOnce_93 (by decide) ?_
          exact ih lie (s0 + s1) (x4 + 1) hP hD hS (lv_sub hl [2, 3, 4, 1, 0] rfl) hf
        have K_62 : ∀ (lie : Nat → Int32) (x3 : Int32) (x4 : Int32) (x5 : Int32) (s1 : Int32) {H : Heap} {locs : List Loc} {ls : Array Slot}, va_P Γ.1 vwCl (wd_X8_shakesOnce_t Γ q0 q1 q2 q3 q4 d0 d1 d2 d3 d4 d5 d6 d7 d8 d9 d10 length undoMany zeroKept oneKept seen spot kind begin letters figures value plated driven rows periods leastPeriod sv motion lie tried) H → va_D A (wd_X8_shakesOnce_t Γ q0 q1 q2 q3 q4 d0 d1 d2 d3 d4 d5 d6 d7 d8 d9 d10 length undoMany zeroKept oneKept seen spot kind begin letters figures value plated driven rows periods leastPeriod sv motion lie tried) → va_S A s.heap H locs → lv_has ls 6 [(0, .ref q0), (1, .ref q4), (2, .int x2), (3, .int x3), (4, .int x4), (5, .int x5)] → f_X8_shakesOnce_t_62 sv motion lie tried x2 x3 x4 x5 s1 (vm_it (f_X8_shakesOnce_t_29s sv motion tried x2) n) = some ex29 → W p l e ({ frames := 3, cells := 0, slots := 0, locals := 75 } : Room) s m ([.ref q0, .ref q4, .int x2] : List Value).toArray below meth c H locs 0 0 QQ (F0 m 62 ls [.int s1, .ref q3]) := by
          intro lie x3 x4 x5 s1 H locs ls hP hD hS hl hf
          unfold f_X8_shakesOnce_t_62 at hf
          refine lv_dup2_11 hx hb dX8_shakesOnce_62 rfl rfl ?_
          obtain ⟨hc_6, hf⟩ := vm_ck hf
          refine vm_iald hx hb hK hP 3 0 rfl rfl hc_6 (j := s1.toNatClampNeg) rfl dX8_shakesOnce_63 ?_
          refine lv_aload_n hx hb dX8_shakesOnce_64 rfl (lv_at hl 1 rfl) ?_
          refine lv_iload_n hx hb dX8_shakesOnce_65 rfl (lv_at hl 2 rfl) ?_
          refine lv_iload hx hb dX8_shakesOnce_66 (lv_at hl 4 rfl) ?_
          refine lv_iadd hx hb dX8_shakesOnce_68 ?_
          obtain ⟨hc_7, hf⟩ := vm_ck hf
          refine vm_iald hx hb hK hP 4 0 rfl rfl hc_7 (j := (x2 + x4).toNatClampNeg) rfl dX8_shakesOnce_69 ?_
          refine lv_iadd hx hb dX8_shakesOnce_70 ?_
          obtain ⟨hc_8, hf⟩ := vm_ck hf
          refine vm_iast hx hb hK hP hD hS 3 0 rfl rfl hc_8 (j := (s1.toNatClampNeg)) rfl dX8_shakesOnce_71 (fun H locs hP hD hS => ?_)
          have hP : va_P Γ.1 vwCl (wd_X8_shakesOnce_t Γ q0 q1 q2 q3 q4 d0 d1 d2 d3 d4 d5 d6 d7 d8 d9 d10 length undoMany zeroKept oneKept seen spot kind begin letters figures value plated driven rows periods leastPeriod sv motion (upd lie (s1.toNatClampNeg) ((lie (s1.toNatClampNeg)) + (tried ((x2 + x4).toNatClampNeg)))) tried) H := hP
          have hD : va_D A (wd_X8_shakesOnce_t Γ q0 q1 q2 q3 q4 d0 d1 d2 d3 d4 d5 d6 d7 d8 d9 d10 length undoMany zeroKept oneKept seen spot kind begin letters figures value plated driven rows periods leastPeriod sv motion (upd lie (s1.toNatClampNeg) ((lie (s1.toNatClampNeg)) + (tried ((x2 + x4).toNatClampNeg)))) tried) := hD
          refine lv_iload_n hx hb dX8_shakesOnce_72 rfl (lv_at hl 3 rfl) ?_
          refine lv_iload hx hb dX8_shakesOnce_73 (lv_at hl 5 rfl) ?_
          refine lv_if_ge (tgt := 82) hx hb dX8_shakesOnce_75 (by decide) (fun hc_9 => ?_) (fun hc_9 => ?_)
          · have hf := vm_pos hc_9 hf
            refine lv_aload_n hx hb dX8_shakesOnce_82 rfl (lv_at hl 1 rfl) ?_
            refine lv_iload_n hx hb dX8_shakesOnce_83 rfl (lv_at hl 2 rfl) ?_
            refine lv_iload hx hb dX8_shakesOnce_84 (lv_at hl 4 rfl) ?_
            refine lv_iadd hx hb dX8_shakesOnce_86 ?_
            obtain ⟨hc_10, hf⟩ := vm_ck hf
            refine vm_iald hx hb hK hP 4 0 rfl rfl hc_10 (j := (x2 + x4).toNatClampNeg) rfl dX8_shakesOnce_87 ?_
            exact K_88 (upd lie (s1.toNatClampNeg) ((lie (s1.toNatClampNeg)) + (tried ((x2 + x4).toNatClampNeg)))) x4 x3 (tried ((x2 + x4).toNatClampNeg)) hP hD hS (lv_sub hl [0, 1, 2, 4] rfl) hf
          · have hf := vm_neg hc_9 hf
            refine lv_iconst (v := 0) hx hb dX8_shakesOnce_78 (by decide) ?_
            refine lv_goto (tgt := 88) hx hb dX8_shakesOnce_79 (by decide) ?_
            exact K_88 (upd lie (s1.toNatClampNeg) ((lie (s1.toNatClampNeg)) + (tried ((x2 + x4).toNatClampNeg)))) x4 x3 0 hP hD hS (lv_sub hl [0, 1, 2, 4] rfl) hf
        unfold f_X8_shakesOnce_t_29b at hf
        refine lv_iload hx hb dX8_shakesOnce_29 (lv_at hl 4 rfl) ?_
        refine lv_aload_n hx hb dX8_shakesOnce_31 rfl (lv_at hl 0 rfl) ?_
        obtain ⟨r_11, hq_12, hf⟩ := ob1_some hf
        refine vm_cVi (isC := [0, 1]) (wc := (wd_X8_cells Γ q0 q1 d0 d1 d2 d3 d4 d5 d6 d7 d8 d9 q2 q3 q4 d10 length undoMany zeroKept oneKept seen spot kind begin letters figures value plated driven rows periods leastPeriod sv)) (w1 := (wd_X8_cells Γ q0 q1 d0 d1 d2 d3 d4 d5 d6 d7 d8 d9 q2 q3 q4 d10 length undoMany zeroKept oneKept seen spot kind begin letters figures value plated driven rows periods leastPeriod sv)) (As := []) (rest := [.int x4]) ⟨hx, hb, hml, hown, hts⟩ hE hP hD hS hA rfl rfl rfl (c_X8_cells l Γ _ q0 q1 d0 d1 d2 d3 d4 d5 d6 d7 d8 d9 q2 q3 q4 d10 length undoMany zeroKept oneKept seen spot kind begin letters figures value plated driven rows periods leastPeriod sv r_11 hq_12) (cwV 0 hts gX8_shakesOnce_X8_cells rfl rfl rfl (by decide +kernel) ⟨Nat.le_of_ble_eq_true rfl, Nat.le_of_ble_eq_true rfl⟩) (va_recv (ci := 8) (q0 := 0) hK hP rfl rfl) rfl hl.1 rfl (Nat.le_of_ble_eq_true rfl) dX8_shakesOnce_32 ⟨Nat.zero_le _, Nat.zero_le _⟩ (fun H locs hP hD hS => ?_)
        have hP : va_P Γ.1 vwCl (wd_X8_shakesOnce_t Γ q0 q1 q2 q3 q4 d0 d1 d2 d3 d4 d5 d6 d7 d8 d9 d10 length undoMany zeroKept oneKept seen spot kind begin letters figures value plated driven rows periods leastPeriod sv motion lie tried) H := hP
        have hD : va_D A (wd_X8_shakesOnce_t Γ q0 q1 q2 q3 q4 d0 d1 d2 d3 d4 d5 d6 d7 d8 d9 d10 length undoMany zeroKept oneKept seen spot kind begin letters figures value plated driven rows periods leastPeriod sv motion lie tried) := hD
        refine lv_icmp_ge (tgt := 96) hx hb dX8_shakesOnce_35 (by decide) (fun hc_13 => ?_) (fun hc_13 => ?_)
        · have hf := vm_pos hc_13 hf
          have hX := hX29
          rw [← Option.some.inj hf] at hX
          exact K_96 lie tried x3 hP hD hS (lv_sub hl [0, 1, 2, 3] rfl) hX
        · have hf := vm_neg hc_13 hf
          refine lv_aload_n hx hb dX8_shakesOnce_38 rfl (lv_at hl 0 rfl) ?_
          refine lv_iload hx hb dX8_shakesOnce_39 (lv_at hl 4 rfl) ?_
          obtain ⟨r_14, hq_15, hf⟩ := ob1_some hf
          refine vm_cVi (isC := [0, 1, 2]) (wc := (wd_X8_goesTo Γ q0 q1 q2 d0 d1 d2 d3 d4 d5 d6 d7 d8 d9 q3 q4 d10 length undoMany zeroKept oneKept seen spot kind begin letters figures value plated driven rows periods leastPeriod sv motion)) (w1 := (wd_X8_goesTo Γ q0 q1 q2 d0 d1 d2 d3 d4 d5 d6 d7 d8 d9 q3 q4 d10 length undoMany zeroKept oneKept seen spot kind begin letters figures value plated driven rows periods leastPeriod sv motion)) (As := [.int x4]) (rest := []) ⟨hx, hb, hml, hown, hts⟩ hE hP hD hS hA rfl rfl rfl (c_X8_goesTo l Γ _ q0 q1 q2 d0 d1 d2 d3 d4 d5 d6 d7 d8 d9 q3 q4 d10 length undoMany zeroKept oneKept seen spot kind begin letters figures value plated driven rows periods leastPeriod sv motion x4 r_14 hq_15) (cwV 1 hts gX8_shakesOnce_X8_goesTo rfl rfl rfl (by decide +kernel) ⟨Nat.le_of_ble_eq_true rfl, Nat.le_of_ble_eq_true rfl⟩) (va_recv (ci := 8) (q0 := 0) hK hP rfl rfl) rfl hl.1 rfl (Nat.le_of_ble_eq_true rfl) dX8_shakesOnce_41 ⟨Nat.zero_le _, Nat.zero_le _⟩ (fun H locs hP hD hS => ?_)
          have hP : va_P Γ.1 vwCl (wd_X8_shakesOnce_t Γ q0 q1 q2 q3 q4 d0 d1 d2 d3 d4 d5 d6 d7 d8 d9 d10 length undoMany zeroKept oneKept seen spot kind begin letters figures value plated driven rows periods leastPeriod sv motion lie tried) H := hP
          have hD : va_D A (wd_X8_shakesOnce_t Γ q0 q1 q2 q3 q4 d0 d1 d2 d3 d4 d5 d6 d7 d8 d9 d10 length undoMany zeroKept oneKept seen spot kind begin letters figures value plated driven rows periods leastPeriod sv motion lie tried) := hD
          refine lv_istore (lv' := [(5, .int r_14), (0, .ref q0), (1, .ref q4), (2, .int x2), (3, .int x3), (4, .int x4)]) hx hb dX8_shakesOnce_44 hl (by decide) rfl (fun ls hl => ?_)
          refine lv_aload_n hx hb dX8_shakesOnce_46 rfl (lv_at hl 1 rfl) ?_
          refine va_get (D := Γ.1) (ci := 8) (v := .ref q3) (C := RX8) (T := TX8) (N := 31) hx hb hts hi8 hown hK hP 0 rfl rfl 26 (by decide) (hts (.fieldLink RX8 46 "SandPlatesModel" "lie" "[I") (List.mem_of_getElem? (i := 1) rfl)) (fun _ h9 => h9) rfl dX8_shakesOnce_47 ?_
          refine lv_iload hx hb dX8_shakesOnce_50 (lv_at hl 0 rfl) ?_
          refine lv_if_ge (tgt := 60) hx hb dX8_shakesOnce_52 (by decide) (fun hc_16 => ?_) (fun hc_16 => ?_)
          · have hf := vm_pos hc_16 hf
            refine lv_iload hx hb dX8_shakesOnce_60 (lv_at hl 0 rfl) ?_
            exact K_62 lie x3 x4 r_14 r_14 hP hD hS (lv_sub hl [1, 2, 3, 4, 5, 0] rfl) hf
          · have hf := vm_neg hc_16 hf
            refine lv_iload hx hb dX8_shakesOnce_55 (lv_at hl 5 rfl) ?_
            refine lv_goto (tgt := 62) hx hb dX8_shakesOnce_57 (by decide) ?_
            exact K_62 lie x3 x4 r_14 x4 hP hD hS (lv_sub hl [1, 2, 3, 4, 5, 0] rfl) hf
    exact LP FU lie x3 x4 hP hD hS hl h1
  have K_26 : ∀ (lie : Nat → Int32) (tried : Nat → Int32) (x3 : Int32) {H : Heap} {locs : List Loc} {ls : Array Slot}, va_P Γ.1 vwCl (wd_X8_shakesOnce_t Γ q0 q1 q2 q3 q4 d0 d1 d2 d3 d4 d5 d6 d7 d8 d9 d10 length undoMany zeroKept oneKept seen spot kind begin letters figures value plated driven rows periods leastPeriod sv motion lie tried) H → va_D A (wd_X8_shakesOnce_t Γ q0 q1 q2 q3 q4 d0 d1 d2 d3 d4 d5 d6 d7 d8 d9 d10 length undoMany zeroKept oneKept seen spot kind begin letters figures value plated driven rows periods leastPeriod sv motion lie tried) → va_S A s.heap H locs → lv_has ls 6 [(0, .ref q0), (1, .ref q4), (2, .int x2), (3, .int x3)] → f_X8_shakesOnce_t_26 sv motion lie tried x2 x3 = some out → W p l e ({ frames := 3, cells := 0, slots := 0, locals := 75 } : Room) s m ([.ref q0, .ref q4, .int x2] : List Value).toArray below meth c H locs 0 0 QQ (F0 m 26 ls []) := by
    intro lie tried x3 H locs ls hP hD hS hl hf
    unfold f_X8_shakesOnce_t_26 at hf
    refine lv_iconst (v := 0) hx hb dX8_shakesOnce_26 (by decide) ?_
    refine lv_istore (lv' := [(4, .int 0), (0, .ref q0), (1, .ref q4), (2, .int x2), (3, .int x3)]) hx hb dX8_shakesOnce_27 hl (by decide) rfl (fun ls hl => ?_)
    exact K_29 lie tried x3 0 hP hD hS (lv_sub hl [1, 2, 3, 4, 0] rfl) hf
  have K_5 : ∀ (lie : Nat → Int32) (tried : Nat → Int32) (x3 : Int32) (x4 : Int32) {H : Heap} {locs : List Loc} {ls : Array Slot}, va_P Γ.1 vwCl (wd_X8_shakesOnce_t Γ q0 q1 q2 q3 q4 d0 d1 d2 d3 d4 d5 d6 d7 d8 d9 d10 length undoMany zeroKept oneKept seen spot kind begin letters figures value plated driven rows periods leastPeriod sv motion lie tried) H → va_D A (wd_X8_shakesOnce_t Γ q0 q1 q2 q3 q4 d0 d1 d2 d3 d4 d5 d6 d7 d8 d9 d10 length undoMany zeroKept oneKept seen spot kind begin letters figures value plated driven rows periods leastPeriod sv motion lie tried) → va_S A s.heap H locs → lv_has ls 6 [(0, .ref q0), (1, .ref q4), (2, .int x2), (3, .int x3), (4, .int x4)] → f_X8_shakesOnce_t_5 sv motion lie tried x2 x3 x4 = some out → W p l e ({ frames := 3, cells := 0, slots := 0, locals := 75 } : Room) s m ([.ref q0, .ref q4, .int x2] : List Value).toArray below meth c H locs 0 0 QQ (F0 m 5 ls []) := by
    intro lie tried x3 x4 H locs ls hP hD hS hl hf
    unfold f_X8_shakesOnce_t_5 at hf
    obtain ⟨ex5, h1, hX5⟩ := obx_some hf
    have LP : ∀ (n : Nat) (lie : Nat → Int32) (x4 : Int32)  {H : Heap} {locs : List Loc} {ls : Array Slot}, va_P Γ.1 vwCl (wd_X8_shakesOnce_t Γ q0 q1 q2 q3 q4 d0 d1 d2 d3 d4 d5 d6 d7 d8 d9 d10 length undoMany zeroKept oneKept seen spot kind begin letters figures value plated driven rows periods leastPeriod sv motion lie tried) H → va_D A (wd_X8_shakesOnce_t Γ q0 q1 q2 q3 q4 d0 d1 d2 d3 d4 d5 d6 d7 d8 d9 d10 length undoMany zeroKept oneKept seen spot kind begin letters figures value plated driven rows periods leastPeriod sv motion lie tried) → va_S A s.heap H locs → lv_has ls 6 [(0, .ref q0), (1, .ref q4), (2, .int x2), (3, .int x3), (4, .int x4)] → vm_it (f_X8_shakesOnce_t_5s sv motion tried x2 x3) n (lie, x4) = some ex5 → W p l e ({ frames := 3, cells := 0, slots := 0, locals := 75 } : Room) s m ([.ref q0, .ref q4, .int x2] : List Value).toArray below meth c H locs 0 0 QQ (F0 m 5 ls []) := by
      clear hP hD hS hl hf h1
      intro n
      induction n with
      | zero => intro lie x4 H locs ls hP hD hS hl hf; exact (vm_it_0 hf).elim
      | succ n ih =>
        intro lie x4 H locs ls hP hD hS hl hf
        have hf : f_X8_shakesOnce_t_5b sv motion tried x2 x3 lie x4 (vm_it (f_X8_shakesOnce_t_5s sv motion tried x2 x3) n) = some ex5 := hf
        unfold f_X8_shakesOnce_t_5b at hf
        refine lv_iload hx hb dX8_shakesOnce_5 (lv_at hl 4 rfl) ?_
        refine lv_bipush (v := 36) hx hb dX8_shakesOnce_7 (by decide) ?_
        refine lv_icmp_ge (tgt := 26) hx hb dX8_shakesOnce_9 (by decide) (fun hc_17 => ?_) (fun hc_17 => ?_)
        · have hf := vm_pos hc_17 hf
          have hX := hX5
          rw [← Option.some.inj hf] at hX
          exact K_26 lie tried x3 hP hD hS (lv_sub hl [0, 1, 2, 3] rfl) hX
        · have hf := vm_neg hc_17 hf
          refine lv_aload_n hx hb dX8_shakesOnce_12 rfl (lv_at hl 0 rfl) ?_
          refine va_get (D := Γ.1) (ci := 8) (v := .ref q3) (C := RX8) (T := TX8) (N := 31) hx hb hts hi8 hown hK hP 0 rfl rfl 26 (by decide) (hts (.fieldLink RX8 46 "SandPlatesModel" "lie" "[I") (List.mem_of_getElem? (i := 1) rfl)) (fun _ h9 => h9) rfl dX8_shakesOnce_13 ?_
          refine lv_iload hx hb dX8_shakesOnce_16 (lv_at hl 4 rfl) ?_
          refine lv_iconst (v := 0) hx hb dX8_shakesOnce_18 (by decide) ?_
          obtain ⟨hc_18, hf⟩ := vm_ck hf
          refine vm_iast hx hb hK hP hD hS 3 0 rfl rfl hc_18 (j := (x4.toNatClampNeg)) rfl dX8_shakesOnce_19 (fun H locs hP hD hS => ?_)
          have hP : va_P Γ.1 vwCl (wd_X8_shakesOnce_t Γ q0 q1 q2 q3 q4 d0 d1 d2 d3 d4 d5 d6 d7 d8 d9 d10 length undoMany zeroKept oneKept seen spot kind begin letters figures value plated driven rows periods leastPeriod sv motion (upd lie (x4.toNatClampNeg) 0) tried) H := hP
          have hD : va_D A (wd_X8_shakesOnce_t Γ q0 q1 q2 q3 q4 d0 d1 d2 d3 d4 d5 d6 d7 d8 d9 d10 length undoMany zeroKept oneKept seen spot kind begin letters figures value plated driven rows periods leastPeriod sv motion (upd lie (x4.toNatClampNeg) 0) tried) := hD
          refine lv_iinc (v := (x4 + 1)) (lv' := [(4, .int (x4 + 1)), (0, .ref q0), (1, .ref q4), (2, .int x2), (3, .int x3)]) hx hb dX8_shakesOnce_20 hl (k := 4) rfl rfl (by decide) rfl (fun ls hl => ?_)
          refine lv_goto (tgt := 5) hx hb dX8_shakesOnce_23 (by decide) ?_
          exact ih (upd lie (x4.toNatClampNeg) 0) (x4 + 1) hP hD hS (lv_sub hl [1, 2, 3, 4, 0] rfl) hf
    exact LP FU lie x4 hP hD hS hl h1
  unfold f_X8_shakesOnce_t at hf
  refine lv_iconst (v := 0) hx hb dX8_shakesOnce_0 (by decide) ?_
  refine lv_istore_n (lv' := [(3, .int 0), (0, .ref q0), (1, .ref q4), (2, .int x2)]) hx hb dX8_shakesOnce_1 rfl hl (by decide) rfl (fun ls hl => ?_)
  refine lv_iconst (v := 0) hx hb dX8_shakesOnce_2 (by decide) ?_
  refine lv_istore (lv' := [(4, .int 0), (3, .int 0), (0, .ref q0), (1, .ref q4), (2, .int x2)]) hx hb dX8_shakesOnce_3 hl (by decide) rfl (fun ls hl => ?_)
  exact K_5 lie tried 0 0 hP hD hS (lv_sub hl [2, 3, 4, 1, 0] rfl) hf
def wd_X8_shakesOnce_s (Γ : GE) (q0 q1 q2 q3 d0 d1 d2 d3 d4 d5 d6 d7 d8 d9 d10 d11 : Nat) (length : Int32) (undoMany : Int32) (zeroKept : Int32) (oneKept : Int32) (seen : Int32) (spot : Int32) (kind : Int32) (begin : Int32) (letters : Int64) (figures : Int32) (value : Int32) (plated : Int32) (driven : Int32) (rows : Int32) (periods : Int32) (leastPeriod : Int32) (sv : Nat → Int32) (motion : Nat → Int32) (lie : Nat → Int32) : va_W := [(q0, .inr (8, [.int length, .ref d0, .ref q1, .ref d1, .ref d2, .int undoMany, .ref d3, .int zeroKept, .int oneKept, .ref d4, .ref d5, .int seen, .int spot, .int kind, .int begin, .long letters, .int figures, .int value, .int plated, .int driven, .int rows, .ref d6, .ref d7, .ref d8, .ref d9, .ref q2, .ref q3, .ref d10, .ref d11, .int periods, .int leastPeriod])), (q1, .inl (Γ.2.1 0, 81, .inl sv)), (q2, .inl (Γ.2.1 0, 36, .inl motion)), (q3, .inl (Γ.2.1 0, 36, .inl lie))]
def f_X8_shakesOnce_s_127 (sv : Nat → Int32) (lie : Nat → Int32) (x3 : Int32) : Option (Int32 × (Nat → Int32) × (Nat → Int32)) := some (x3, sv, lie)
def f_X8_shakesOnce_s_99b (lie : Nat → Int32) (x2 : Int32) (x3 : Int32) (sv : Nat → Int32) (x4 : Int32) (k : (((Nat → Int32) × Int32) → Option (Nat → Int32))) : Option (Nat → Int32) := ob1 (f_X8_cells sv) (fun r_1 => if r_1 ≤ x4 then (some sv) else (if inb x4 36 = true then if inb (x2 + x4) 81 = true then k ((upd sv ((x2 + x4).toNatClampNeg) (lie (x4.toNatClampNeg))), (x4 + 1)) else none else none))
def f_X8_shakesOnce_s_99s (lie : Nat → Int32) (x2 : Int32) (x3 : Int32) : ((Nat → Int32) × Int32) → (((Nat → Int32) × Int32) → Option (Nat → Int32)) → Option (Nat → Int32) := fun t k => f_X8_shakesOnce_s_99b lie x2 x3 t.1 t.2 k
def f_X8_shakesOnce_s_99 (sv : Nat → Int32) (lie : Nat → Int32) (x2 : Int32) (x3 : Int32) (x4 : Int32) : Option (Int32 × (Nat → Int32) × (Nat → Int32)) := obx (vm_it (f_X8_shakesOnce_s_99s lie x2 x3) FU (sv, x4)) (fun sv => f_X8_shakesOnce_s_127 sv lie x3)
def f_X8_shakesOnce_s_96 (sv : Nat → Int32) (lie : Nat → Int32) (x2 : Int32) (x3 : Int32) : Option (Int32 × (Nat → Int32) × (Nat → Int32)) := f_X8_shakesOnce_s_99 sv lie x2 x3 0
def f_X8_shakesOnce_s_88 (sv : Nat → Int32) (motion : Nat → Int32) (lie : Nat → Int32) (x2 : Int32) (x4 : Int32) (s0 : Int32) (s1 : Int32) (k : (((Nat → Int32) × Int32 × Int32) → Option ((Nat → Int32) × Int32))) : Option ((Nat → Int32) × Int32) := k (lie, (s0 + s1), (x4 + 1))
def f_X8_shakesOnce_s_62 (sv : Nat → Int32) (motion : Nat → Int32) (lie : Nat → Int32) (x2 : Int32) (x3 : Int32) (x4 : Int32) (x5 : Int32) (s1 : Int32) (k : (((Nat → Int32) × Int32 × Int32) → Option ((Nat → Int32) × Int32))) : Option ((Nat → Int32) × Int32) := if inb s1 36 = true then if inb (x2 + x4) 81 = true then if inb s1 36 = true then if 0 ≤ x5 then (if inb (x2 + x4) 81 = true then f_X8_shakesOnce_s_88 sv motion (upd lie (s1.toNatClampNeg) ((lie (s1.toNatClampNeg)) + (sv ((x2 + x4).toNatClampNeg)))) x2 x4 x3 (sv ((x2 + x4).toNatClampNeg)) k else none) else (f_X8_shakesOnce_s_88 sv motion (upd lie (s1.toNatClampNeg) ((lie (s1.toNatClampNeg)) + (sv ((x2 + x4).toNatClampNeg)))) x2 x4 x3 0 k) else none else none else none
def f_X8_shakesOnce_s_29b (sv : Nat → Int32) (motion : Nat → Int32) (x2 : Int32) (lie : Nat → Int32) (x3 : Int32) (x4 : Int32) (k : (((Nat → Int32) × Int32 × Int32) → Option ((Nat → Int32) × Int32))) : Option ((Nat → Int32) × Int32) := ob1 (f_X8_cells sv) (fun r_11 => if r_11 ≤ x4 then (some (lie, x3)) else (ob1 (f_X8_goesTo sv motion x4) (fun r_14 => if 0 ≤ r_14 then (f_X8_shakesOnce_s_62 sv motion lie x2 x3 x4 r_14 r_14 k) else (f_X8_shakesOnce_s_62 sv motion lie x2 x3 x4 r_14 x4 k))))
def f_X8_shakesOnce_s_29s (sv : Nat → Int32) (motion : Nat → Int32) (x2 : Int32) : ((Nat → Int32) × Int32 × Int32) → (((Nat → Int32) × Int32 × Int32) → Option ((Nat → Int32) × Int32)) → Option ((Nat → Int32) × Int32) := fun t k => f_X8_shakesOnce_s_29b sv motion x2 t.1 t.2.1 t.2.2 k
def f_X8_shakesOnce_s_29 (sv : Nat → Int32) (motion : Nat → Int32) (lie : Nat → Int32) (x2 : Int32) (x3 : Int32) (x4 : Int32) : Option (Int32 × (Nat → Int32) × (Nat → Int32)) := obx (vm_it (f_X8_shakesOnce_s_29s sv motion x2) FU (lie, x3, x4)) (un2 (fun lie x3 => f_X8_shakesOnce_s_96 sv lie x2 x3))
def f_X8_shakesOnce_s_26 (sv : Nat → Int32) (motion : Nat → Int32) (lie : Nat → Int32) (x2 : Int32) (x3 : Int32) : Option (Int32 × (Nat → Int32) × (Nat → Int32)) := f_X8_shakesOnce_s_29 sv motion lie x2 x3 0
def f_X8_shakesOnce_s_5b (sv : Nat → Int32) (motion : Nat → Int32) (x2 : Int32) (x3 : Int32) (lie : Nat → Int32) (x4 : Int32) (k : (((Nat → Int32) × Int32) → Option (Nat → Int32))) : Option (Nat → Int32) := if 36 ≤ x4 then (some lie) else (if inb x4 36 = true then k ((upd lie (x4.toNatClampNeg) 0), (x4 + 1)) else none)
def f_X8_shakesOnce_s_5s (sv : Nat → Int32) (motion : Nat → Int32) (x2 : Int32) (x3 : Int32) : ((Nat → Int32) × Int32) → (((Nat → Int32) × Int32) → Option (Nat → Int32)) → Option (Nat → Int32) := fun t k => f_X8_shakesOnce_s_5b sv motion x2 x3 t.1 t.2 k
def f_X8_shakesOnce_s_5 (sv : Nat → Int32) (motion : Nat → Int32) (lie : Nat → Int32) (x2 : Int32) (x3 : Int32) (x4 : Int32) : Option (Int32 × (Nat → Int32) × (Nat → Int32)) := obx (vm_it (f_X8_shakesOnce_s_5s sv motion x2 x3) FU (lie, x4)) (fun lie => f_X8_shakesOnce_s_26 sv motion lie x2 x3)
def f_X8_shakesOnce_s (sv : Nat → Int32) (motion : Nat → Int32) (lie : Nat → Int32) (x2 : Int32) : Option (Int32 × (Nat → Int32) × (Nat → Int32)) := f_X8_shakesOnce_s_5 sv motion lie x2 0 0
set_option maxHeartbeats 4000000 in
set_option maxRecDepth 100000 in
theorem c_X8_shakesOnce_s (l : Launch) (Γ : GE) (sz : Nat) (q0 q1 q2 q3 d0 d1 d2 d3 d4 d5 d6 d7 d8 d9 d10 d11 : Nat) (length : Int32) (undoMany : Int32) (zeroKept : Int32) (oneKept : Int32) (seen : Int32) (spot : Int32) (kind : Int32) (begin : Int32) (letters : Int64) (figures : Int32) (value : Int32) (plated : Int32) (driven : Int32) (rows : Int32) (periods : Int32) (leastPeriod : Int32) (sv : Nat → Int32) (motion : Nat → Int32) (lie : Nat → Int32) (x2 : Int32) (ro : Int32) (o_sv : Nat → Int32) (o_lie : Nat → Int32) (hf : f_X8_shakesOnce_s sv motion lie x2 = some (ro, o_sv, o_lie)) : MetI l yX8_shakesOnce wsX8_shakesOnce ({ frames := 3, cells := 0, slots := 0, locals := 75 } : Room) Γ [.ref q0, .ref q1, .int x2] (wd_X8_shakesOnce_s Γ q0 q1 q2 q3 d0 d1 d2 d3 d4 d5 d6 d7 d8 d9 d10 d11 length undoMany zeroKept oneKept seen spot kind begin letters figures value plated driven rows periods leastPeriod sv motion lie) (wd_X8_shakesOnce_s Γ q0 q1 q2 q3 d0 d1 d2 d3 d4 d5 d6 d7 d8 d9 d10 d11 length undoMany zeroKept oneKept seen spot kind begin letters figures value plated driven rows periods leastPeriod o_sv motion o_lie) sz ro := by
  refine Met.ofW (cc := cX8_shakesOnce) (maxL := 6) (ret := (some .int)) (by decide) rfl ?_
  intro p e s m args below meth c s₁ B hml hv
  obtain ⟨rfl, hsz, hE, hP, hD⟩ := hv
  have hx := B.exec
  have hb := B.bytes
  have hr := B.returns
  have hts := atoms_spec (ws := wsX8_shakesOnce) B.pre
  have hown : s.vm.findClass RX8 = some m.cls := findClass_of_methodNamed B.named
  have hlocks := B.notSynchronized
  subst hsz
  generalize hAe : va_A (wd_X8_shakesOnce_s Γ q0 q1 q2 q3 d0 d1 d2 d3 d4 d5 d6 d7 d8 d9 d10 d11 length undoMany zeroKept oneKept seen spot kind begin letters figures value plated driven rows periods leastPeriod sv motion lie) s.heap.size = A at hE hD ⊢
  have hA : ∀ q : Nat, s.heap.size ≤ q → A q := fun q h => by rw [← hAe]; exact Or.inr h
  clear hAe
  have hS : va_S A s.heap s.heap [] := va_S.rf
  have hK := hE.1
  have hl := lv_entry ([.ref q0, .ref q1, .int x2]) (n := 6) (Nat.le_of_ble_eq_true rfl)
  rw [lg_entry_eq]
  generalize (lg_sl ([.ref q0, .ref q1, .int x2]) ++ List.replicate (6 - (lg_sl ([.ref q0, .ref q1, .int x2])).length) Slot.unset).toArray = ls at hl ⊢
  have hl : lv_has ls 6 [(0, .ref q0), (1, .ref q1), (2, .int x2)] := hl
  have hi8 : ∀ w ∈ u_ws RX8 TX8 31, w ∈ wsX8_shakesOnce := fun w h => (List.mem_cons_of_mem _ (List.mem_append_right _ h))
  obtain ⟨out, hout⟩ : ∃ o, o = (ro, o_sv, o_lie) := ⟨_, rfl⟩
  rw [← hout] at hf
  obtain ⟨QQ, hQQ⟩ : ∃ Q, Q = MQ below (va_Qi (fun (r' : Int32) (_ : Unit) => r' = ro) (CQ Γ (wd_X8_shakesOnce_s Γ q0 q1 q2 q3 d0 d1 d2 d3 d4 d5 d6 d7 d8 d9 d10 d11 length undoMany zeroKept oneKept seen spot kind begin letters figures value plated driven rows periods leastPeriod o_sv motion o_lie) A) A) (([.ref q0, .ref q1, .int x2] : List Value).toArray) s 0 0 A := ⟨_, rfl⟩
  show W p l e ({ frames := 3, cells := 0, slots := 0, locals := 75 } : Room) s m (([.ref q0, .ref q1, .int x2] : List Value).toArray) below meth c s.heap [] 0 0 (MQ below _ (([.ref q0, .ref q1, .int x2] : List Value).toArray) s 0 0 A) (F0 m 0 ls [])
  rw [← hQQ]
  have K_127 : ∀ (sv : Nat → Int32) (lie : Nat → Int32) (x3 : Int32) {H : Heap} {locs : List Loc} {ls : Array Slot}, va_P Γ.1 vwCl (wd_X8_shakesOnce_s Γ q0 q1 q2 q3 d0 d1 d2 d3 d4 d5 d6 d7 d8 d9 d10 d11 length undoMany zeroKept oneKept seen spot kind begin letters figures value plated driven rows periods leastPeriod sv motion lie) H → va_D A (wd_X8_shakesOnce_s Γ q0 q1 q2 q3 d0 d1 d2 d3 d4 d5 d6 d7 d8 d9 d10 d11 length undoMany zeroKept oneKept seen spot kind begin letters figures value plated driven rows periods leastPeriod sv motion lie) → va_S A s.heap H locs → lv_has ls 6 [(3, .int x3)] → f_X8_shakesOnce_s_127 sv lie x3 = some out → W p l e ({ frames := 3, cells := 0, slots := 0, locals := 75 } : Room) s m ([.ref q0, .ref q1, .int x2] : List Value).toArray below meth c H locs 0 0 QQ (F0 m 127 ls []) := by
    intro sv lie x3 H locs ls hP hD hS hl hf
    unfold f_X8_shakesOnce_s_127 at hf
    refine lv_iload_n hx hb dX8_shakesOnce_127 rfl (lv_at hl 0 rfl) ?_
    subst hout; obtain ⟨rfl, rfl, rfl⟩ := rt3 hf
    subst hQQ
    exact W.iret hx hb hr (fun t ht hW => ⟨⟨_, (), rfl, rfl, by rw [ht]; exact hP, hD⟩, hS.F ht⟩) hS.2.2 dX8_shakesOnce_128
  have K_99 : ∀ (sv : Nat → Int32) (lie : Nat → Int32) (x3 : Int32) (x4 : Int32) {H : Heap} {locs : List Loc} {ls : Array Slot}, va_P Γ.1 vwCl (wd_X8_shakesOnce_s Γ q0 q1 q2 q3 d0 d1 d2 d3 d4 d5 d6 d7 d8 d9 d10 d11 length undoMany zeroKept oneKept seen spot kind begin letters figures value plated driven rows periods leastPeriod sv motion lie) H → va_D A (wd_X8_shakesOnce_s Γ q0 q1 q2 q3 d0 d1 d2 d3 d4 d5 d6 d7 d8 d9 d10 d11 length undoMany zeroKept oneKept seen spot kind begin letters figures value plated driven rows periods leastPeriod sv motion lie) → va_S A s.heap H locs → lv_has ls 6 [(0, .ref q0), (1, .ref q1), (2, .int x2), (3, .int x3), (4, .int x4)] → f_X8_shakesOnce_s_99 sv lie x2 x3 x4 = some out → W p l e ({ frames := 3, cells := 0, slots := 0, locals := 75 } : Room) s m ([.ref q0, .ref q1, .int x2] : List Value).toArray below meth c H locs 0 0 QQ (F0 m 99 ls []) := by
    intro sv lie x3 x4 H locs ls hP hD hS hl hf
    unfold f_X8_shakesOnce_s_99 at hf
    obtain ⟨ex99, h1, hX99⟩ := obx_some hf
    have LP : ∀ (n : Nat) (sv : Nat → Int32) (x4 : Int32)  {H : Heap} {locs : List Loc} {ls : Array Slot}, va_P Γ.1 vwCl (wd_X8_shakesOnce_s Γ q0 q1 q2 q3 d0 d1 d2 d3 d4 d5 d6 d7 d8 d9 d10 d11 length undoMany zeroKept oneKept seen spot kind begin letters figures value plated driven rows periods leastPeriod sv motion lie) H → va_D A (wd_X8_shakesOnce_s Γ q0 q1 q2 q3 d0 d1 d2 d3 d4 d5 d6 d7 d8 d9 d10 d11 length undoMany zeroKept oneKept seen spot kind begin letters figures value plated driven rows periods leastPeriod sv motion lie) → va_S A s.heap H locs → lv_has ls 6 [(0, .ref q0), (1, .ref q1), (2, .int x2), (3, .int x3), (4, .int x4)] → vm_it (f_X8_shakesOnce_s_99s lie x2 x3) n (sv, x4) = some ex99 → W p l e ({ frames := 3, cells := 0, slots := 0, locals := 75 } : Room) s m ([.ref q0, .ref q1, .int x2] : List Value).toArray below meth c H locs 0 0 QQ (F0 m 99 ls []) := by
      clear hP hD hS hl hf h1
      intro n
      induction n with
      | zero => intro sv x4 H locs ls hP hD hS hl hf; exact (vm_it_0 hf).elim
      | succ n ih =>
        intro sv x4 H locs ls hP hD hS hl hf
        have hf : f_X8_shakesOnce_s_99b lie x2 x3 sv x4 (vm_it (f_X8_shakesOnce_s_99s lie x2 x3) n) = some ex99 := hf
        unfold f_X8_shakesOnce_s_99b at hf
        refine lv_iload hx hb dX8_shakesOnce_99 (lv_at hl 4 rfl) ?_
        refine lv_aload_n hx hb dX8_shakesOnce_101 rfl (lv_at hl 0 rfl) ?_
        obtain ⟨r_1, hq_2, hf⟩ := ob1_some hf
        refine vm_cVi (isC := [0, 1]) (wc := (wd_X8_cells Γ q0 q1 d0 d1 d2 d3 d4 d5 d6 d7 d8 d9 q2 q3 d10 d11 length undoMany zeroKept oneKept seen spot kind begin letters figures value plated driven rows periods leastPeriod sv)) (w1 := (wd_X8_cells Γ q0 q1 d0 d1 d2 d3 d4 d5 d6 d7 d8 d9 q2 q3 d10 d11 length undoMany zeroKept oneKept seen spot kind begin letters figures value plated driven rows periods leastPeriod sv)) (As := []) (rest := [.int x4]) ⟨hx, hb, hml, hown, hts⟩ hE hP hD hS hA rfl rfl rfl (c_X8_cells l Γ _ q0 q1 d0 d1 d2 d3 d4 d5 d6 d7 d8 d9 q2 q3 d10 d11 length undoMany zeroKept oneKept seen spot kind begin letters figures value plated driven rows periods leastPeriod sv r_1 hq_2) (cwV 0 hts gX8_shakesOnce_X8_cells rfl rfl rfl (by decide +kernel) ⟨Nat.le_of_ble_eq_true rfl, Nat.le_of_ble_eq_true rfl⟩) (va_recv (ci := 8) (q0 := 0) hK hP rfl rfl) rfl hl.1 rfl (Nat.le_of_ble_eq_true rfl) dX8_shakesOnce_102 ⟨Nat.zero_le _, Nat.zero_le _⟩ (fun H locs hP hD hS => ?_)
        have hP : va_P Γ.1 vwCl (wd_X8_shakesOnce_s Γ q0 q1 q2 q3 d0 d1 d2 d3 d4 d5 d6 d7 d8 d9 d10 d11 length undoMany zeroKept oneKept seen spot kind begin letters figures value plated driven rows periods leastPeriod sv motion lie) H := hP
        have hD : va_D A (wd_X8_shakesOnce_s Γ q0 q1 q2 q3 d0 d1 d2 d3 d4 d5 d6 d7 d8 d9 d10 d11 length undoMany zeroKept oneKept seen spot kind begin letters figures value plated driven rows periods leastPeriod sv motion lie) := hD
        refine lv_icmp_ge (tgt := 127) hx hb dX8_shakesOnce_105 (by decide) (fun hc_3 => ?_) (fun hc_3 => ?_)
        · have hf := vm_pos hc_3 hf
          have hX := hX99
          rw [← Option.some.inj hf] at hX
          exact K_127 sv lie x3 hP hD hS (lv_sub hl [3] rfl) hX
        · have hf := vm_neg hc_3 hf
          refine lv_aload_n hx hb dX8_shakesOnce_108 rfl (lv_at hl 1 rfl) ?_
          refine lv_iload_n hx hb dX8_shakesOnce_109 rfl (lv_at hl 2 rfl) ?_
          refine lv_iload hx hb dX8_shakesOnce_110 (lv_at hl 4 rfl) ?_
          refine lv_iadd hx hb dX8_shakesOnce_112 ?_
          refine lv_aload_n hx hb dX8_shakesOnce_113 rfl (lv_at hl 0 rfl) ?_
          refine va_get (D := Γ.1) (ci := 8) (v := .ref q3) (C := RX8) (T := TX8) (N := 31) hx hb hts hi8 hown hK hP 0 rfl rfl 26 (by decide) (hts (.fieldLink RX8 46 "SandPlatesModel" "lie" "[I") (List.mem_of_getElem? (i := 1) rfl)) (fun _ h9 => h9) rfl dX8_shakesOnce_114 ?_
          refine lv_iload hx hb dX8_shakesOnce_117 (lv_at hl 4 rfl) ?_
          obtain ⟨hc_4, hf⟩ := vm_ck hf
          refine vm_iald hx hb hK hP 3 0 rfl rfl hc_4 (j := x4.toNatClampNeg) rfl dX8_shakesOnce_119 ?_
          obtain ⟨hc_5, hf⟩ := vm_ck hf
          refine vm_iast hx hb hK hP hD hS 1 0 rfl rfl hc_5 (j := ((x2 + x4).toNatClampNeg)) rfl dX8_shakesOnce_120 (fun H locs hP hD hS => ?_)
          have hP : va_P Γ.1 vwCl (wd_X8_shakesOnce_s Γ q0 q1 q2 q3 d0 d1 d2 d3 d4 d5 d6 d7 d8 d9 d10 d11 length undoMany zeroKept oneKept seen spot kind begin letters figures value plated driven rows periods leastPeriod (upd sv ((x2 + x4).toNatClampNeg) (lie (x4.toNatClampNeg))) motion lie) H := hP
          have hD : va_D A (wd_X8_shakesOnce_s Γ q0 q1 q2 q3 d0 d1 d2 d3 d4 d5 d6 d7 d8 d9 d10 d11 length undoMany zeroKept oneKept seen spot kind begin letters figures value plated driven rows periods leastPeriod (upd sv ((x2 + x4).toNatClampNeg) (lie (x4.toNatClampNeg))) motion lie) := hD
          refine lv_iinc (v := (x4 + 1)) (lv' := [(4, .int (x4 + 1)), (0, .ref q0), (1, .ref q1), (2, .int x2), (3, .int x3)]) hx hb dX8_shakesOnce_121 hl (k := 4) rfl rfl (by decide) rfl (fun ls hl => ?_)
          refine lv_goto (tgt := 99) hx hb dX8_shakesOnce_124 (by decide) ?_
          exact ih (upd sv ((x2 + x4).toNatClampNeg) (lie (x4.toNatClampNeg))) (x4 + 1) hP hD hS (lv_sub hl [1, 2, 3, 4, 0] rfl) hf
    exact LP FU sv x4 hP hD hS hl h1
  have K_96 : ∀ (sv : Nat → Int32) (lie : Nat → Int32) (x3 : Int32) {H : Heap} {locs : List Loc} {ls : Array Slot}, va_P Γ.1 vwCl (wd_X8_shakesOnce_s Γ q0 q1 q2 q3 d0 d1 d2 d3 d4 d5 d6 d7 d8 d9 d10 d11 length undoMany zeroKept oneKept seen spot kind begin letters figures value plated driven rows periods leastPeriod sv motion lie) H → va_D A (wd_X8_shakesOnce_s Γ q0 q1 q2 q3 d0 d1 d2 d3 d4 d5 d6 d7 d8 d9 d10 d11 length undoMany zeroKept oneKept seen spot kind begin letters figures value plated driven rows periods leastPeriod sv motion lie) → va_S A s.heap H locs → lv_has ls 6 [(0, .ref q0), (1, .ref q1), (2, .int x2), (3, .int x3)] → f_X8_shakesOnce_s_96 sv lie x2 x3 = some out → W p l e ({ frames := 3, cells := 0, slots := 0, locals := 75 } : Room) s m ([.ref q0, .ref q1, .int x2] : List Value).toArray below meth c H locs 0 0 QQ (F0 m 96 ls []) := by
    intro sv lie x3 H locs ls hP hD hS hl hf
    unfold f_X8_shakesOnce_s_96 at hf
    refine lv_iconst (v := 0) hx hb dX8_shakesOnce_96 (by decide) ?_
    refine lv_istore (lv' := [(4, .int 0), (0, .ref q0), (1, .ref q1), (2, .int x2), (3, .int x3)]) hx hb dX8_shakesOnce_97 hl (by decide) rfl (fun ls hl => ?_)
    exact K_99 sv lie x3 0 hP hD hS (lv_sub hl [1, 2, 3, 4, 0] rfl) hf
  have K_29 : ∀ (sv : Nat → Int32) (lie : Nat → Int32) (x3 : Int32) (x4 : Int32) {H : Heap} {locs : List Loc} {ls : Array Slot}, va_P Γ.1 vwCl (wd_X8_shakesOnce_s Γ q0 q1 q2 q3 d0 d1 d2 d3 d4 d5 d6 d7 d8 d9 d10 d11 length undoMany zeroKept oneKept seen spot kind begin letters figures value plated driven rows periods leastPeriod sv motion lie) H → va_D A (wd_X8_shakesOnce_s Γ q0 q1 q2 q3 d0 d1 d2 d3 d4 d5 d6 d7 d8 d9 d10 d11 length undoMany zeroKept oneKept seen spot kind begin letters figures value plated driven rows periods leastPeriod sv motion lie) → va_S A s.heap H locs → lv_has ls 6 [(0, .ref q0), (1, .ref q1), (2, .int x2), (3, .int x3), (4, .int x4)] → f_X8_shakesOnce_s_29 sv motion lie x2 x3 x4 = some out → W p l e ({ frames := 3, cells := 0, slots := 0, locals := 75 } : Room) s m ([.ref q0, .ref q1, .int x2] : List Value).toArray below meth c H locs 0 0 QQ (F0 m 29 ls []) := by
    intro sv lie x3 x4 H locs ls hP hD hS hl hf
    unfold f_X8_shakesOnce_s_29 at hf
    obtain ⟨ex29, h1, hX29⟩ := obx_some hf
    have LP : ∀ (n : Nat) (lie : Nat → Int32) (x3 : Int32) (x4 : Int32)  {H : Heap} {locs : List Loc} {ls : Array Slot}, va_P Γ.1 vwCl (wd_X8_shakesOnce_s Γ q0 q1 q2 q3 d0 d1 d2 d3 d4 d5 d6 d7 d8 d9 d10 d11 length undoMany zeroKept oneKept seen spot kind begin letters figures value plated driven rows periods leastPeriod sv motion lie) H → va_D A (wd_X8_shakesOnce_s Γ q0 q1 q2 q3 d0 d1 d2 d3 d4 d5 d6 d7 d8 d9 d10 d11 length undoMany zeroKept oneKept seen spot kind begin letters figures value plated driven rows periods leastPeriod sv motion lie) → va_S A s.heap H locs → lv_has ls 6 [(0, .ref q0), (1, .ref q1), (2, .int x2), (3, .int x3), (4, .int x4)] → vm_it (f_X8_shakesOnce_s_29s sv motion x2) n (lie, x3, x4) = some ex29 → W p l e ({ frames := 3, cells := 0, slots := 0, locals := 75 } : Room) s m ([.ref q0, .ref q1, .int x2] : List Value).toArray below meth c H locs 0 0 QQ (F0 m 29 ls []) := by
      clear hP hD hS hl hf h1
      intro n
      induction n with
      | zero => intro lie x3 x4 H locs ls hP hD hS hl hf; exact (vm_it_0 hf).elim
      | succ n ih =>
        intro lie x3 x4 H locs ls hP hD hS hl hf
        have hf : f_X8_shakesOnce_s_29b sv motion x2 lie x3 x4 (vm_it (f_X8_shakesOnce_s_29s sv motion x2) n) = some ex29 := hf
        have K_88 : ∀ (lie : Nat → Int32) (x4 : Int32) (s0 : Int32) (s1 : Int32) {H : Heap} {locs : List Loc} {ls : Array Slot}, va_P Γ.1 vwCl (wd_X8_shakesOnce_s Γ q0 q1 q2 q3 d0 d1 d2 d3 d4 d5 d6 d7 d8 d9 d10 d11 length undoMany zeroKept oneKept seen spot kind begin letters figures value plated driven rows periods leastPeriod sv motion lie) H → va_D A (wd_X8_shakesOnce_s Γ q0 q1 q2 q3 d0 d1 d2 d3 d4 d5 d6 d7 d8 d9 d10 d11 length undoMany zeroKept oneKept seen spot kind begin letters figures value plated driven rows periods leastPeriod sv motion lie) → va_S A s.heap H locs → lv_has ls 6 [(0, .ref q0), (1, .ref q1), (2, .int x2), (4, .int x4)] → f_X8_shakesOnce_s_88 sv motion lie x2 x4 s0 s1 (vm_it (f_X8_shakesOnce_s_29s sv motion x2) n) = some ex29 → W p l e ({ frames := 3, cells := 0, slots := 0, locals := 75 } : Room) s m ([.ref q0, .ref q1, .int x2] : List Value).toArray below meth c H locs 0 0 QQ (F0 m 88 ls [.int s1, .int s0]) := by
          intro lie x4 s0 s1 H locs ls hP hD hS hl hf
          unfold f_X8_shakesOnce_s_88 at hf
          refine lv_iadd hx hb dX8_shakesOnce_88 ?_
          refine lv_istore_n (lv' := [(3, .int (s0 + s1)), (0, .ref q0), (1, .ref q1), (2, .int x2), (4, .int x4)]) hx hb dX8_shakesOnce_89 rfl hl (by decide) rfl (fun ls hl => ?_)
          refine lv_iinc (v := (x4 + 1)) (lv' := [(4, .int (x4 + 1)), (3, .int (s0 + s1)), (0, .ref q0), (1, .ref q1), (2, .int x2)]) hx hb dX8_shakesOnce_90 hl (k := 4) rfl rfl (by decide) rfl (fun ls hl => ?_)
          refine lv_goto (tgt := 29) hx hb dX8_shakesOnce_93 (by decide) ?_
          exact ih lie (s0 + s1) (x4 + 1) hP hD hS (lv_sub hl [2, 3, 4, 1, 0] rfl) hf
        have K_62 : ∀ (lie : Nat → Int32) (x3 : Int32) (x4 : Int32) (x5 : Int32) (s1 : Int32) {H : Heap} {locs : List Loc} {ls : Array Slot}, va_P Γ.1 vwCl (wd_X8_shakesOnce_s Γ q0 q1 q2 q3 d0 d1 d2 d3 d4 d5 d6 d7 d8 d9 d10 d11 length undoMany zeroKept oneKept seen spot kind begin letters figures value plated driven rows periods leastPeriod sv motion lie) H → va_D A (wd_X8_shakesOnce_s Γ q0 q1 q2 q3 d0 d1 d2 d3 d4 d5 d6 d7 d8 d9 d10 d11 length undoMany zeroKept oneKept seen spot kind begin letters figures value plated driven rows periods leastPeriod sv motion lie) → va_S A s.heap H locs → lv_has ls 6 [(0, .ref q0), (1, .ref q1), (2, .int x2), (3, .int x3), (4, .int x4), (5, .int x5)] → f_X8_shakesOnce_s_62 sv motion lie x2 x3 x4 x5 s1 (vm_it (f_X8_shakesOnce_s_29s sv motion x2) n) = some ex29 → W p l e ({ frames := 3, cells := 0, slots := 0, locals := 75 } : Room) s m ([.ref q0, .ref q1, .int x2] : List Value).toArray below meth c H locs 0 0 QQ (F0 m 62 ls [.int s1, .ref q3]) := by
          intro lie x3 x4 x5 s1 H locs ls hP hD hS hl hf
          unfold f_X8_shakesOnce_s_62 at hf
          refine lv_dup2_11 hx hb dX8_shakesOnce_62 rfl rfl ?_
          obtain ⟨hc_6, hf⟩ := vm_ck hf
          refine vm_iald hx hb hK hP 3 0 rfl rfl hc_6 (j := s1.toNatClampNeg) rfl dX8_shakesOnce_63 ?_
          refine lv_aload_n hx hb dX8_shakesOnce_64 rfl (lv_at hl 1 rfl) ?_
          refine lv_iload_n hx hb dX8_shakesOnce_65 rfl (lv_at hl 2 rfl) ?_
          refine lv_iload hx hb dX8_shakesOnce_66 (lv_at hl 4 rfl) ?_
          refine lv_iadd hx hb dX8_shakesOnce_68 ?_
          obtain ⟨hc_7, hf⟩ := vm_ck hf
          refine vm_iald hx hb hK hP 1 0 rfl rfl hc_7 (j := (x2 + x4).toNatClampNeg) rfl dX8_shakesOnce_69 ?_
          refine lv_iadd hx hb dX8_shakesOnce_70 ?_
          obtain ⟨hc_8, hf⟩ := vm_ck hf
          refine vm_iast hx hb hK hP hD hS 3 0 rfl rfl hc_8 (j := (s1.toNatClampNeg)) rfl dX8_shakesOnce_71 (fun H locs hP hD hS => ?_)
          have hP : va_P Γ.1 vwCl (wd_X8_shakesOnce_s Γ q0 q1 q2 q3 d0 d1 d2 d3 d4 d5 d6 d7 d8 d9 d10 d11 length undoMany zeroKept oneKept seen spot kind begin letters figures value plated driven rows periods leastPeriod sv motion (upd lie (s1.toNatClampNeg) ((lie (s1.toNatClampNeg)) + (sv ((x2 + x4).toNatClampNeg))))) H := hP
          have hD : va_D A (wd_X8_shakesOnce_s Γ q0 q1 q2 q3 d0 d1 d2 d3 d4 d5 d6 d7 d8 d9 d10 d11 length undoMany zeroKept oneKept seen spot kind begin letters figures value plated driven rows periods leastPeriod sv motion (upd lie (s1.toNatClampNeg) ((lie (s1.toNatClampNeg)) + (sv ((x2 + x4).toNatClampNeg))))) := hD
          refine lv_iload_n hx hb dX8_shakesOnce_72 rfl (lv_at hl 3 rfl) ?_
          refine lv_iload hx hb dX8_shakesOnce_73 (lv_at hl 5 rfl) ?_
          refine lv_if_ge (tgt := 82) hx hb dX8_shakesOnce_75 (by decide) (fun hc_9 => ?_) (fun hc_9 => ?_)
          · have hf := vm_pos hc_9 hf
            refine lv_aload_n hx hb dX8_shakesOnce_82 rfl (lv_at hl 1 rfl) ?_
            refine lv_iload_n hx hb dX8_shakesOnce_83 rfl (lv_at hl 2 rfl) ?_
            refine lv_iload hx hb dX8_shakesOnce_84 (lv_at hl 4 rfl) ?_
            refine lv_iadd hx hb dX8_shakesOnce_86 ?_
            obtain ⟨hc_10, hf⟩ := vm_ck hf
            refine vm_iald hx hb hK hP 1 0 rfl rfl hc_10 (j := (x2 + x4).toNatClampNeg) rfl dX8_shakesOnce_87 ?_
            exact K_88 (upd lie (s1.toNatClampNeg) ((lie (s1.toNatClampNeg)) + (sv ((x2 + x4).toNatClampNeg)))) x4 x3 (sv ((x2 + x4).toNatClampNeg)) hP hD hS (lv_sub hl [0, 1, 2, 4] rfl) hf
          · have hf := vm_neg hc_9 hf
            refine lv_iconst (v := 0) hx hb dX8_shakesOnce_78 (by decide) ?_
            refine lv_goto (tgt := 88) hx hb dX8_shakesOnce_79 (by decide) ?_
            exact K_88 (upd lie (s1.toNatClampNeg) ((lie (s1.toNatClampNeg)) + (sv ((x2 + x4).toNatClampNeg)))) x4 x3 0 hP hD hS (lv_sub hl [0, 1, 2, 4] rfl) hf
        unfold f_X8_shakesOnce_s_29b at hf
        refine lv_iload hx hb dX8_shakesOnce_29 (lv_at hl 4 rfl) ?_
        refine lv_aload_n hx hb dX8_shakesOnce_31 rfl (lv_at hl 0 rfl) ?_
        obtain ⟨r_11, hq_12, hf⟩ := ob1_some hf
        refine vm_cVi (isC := [0, 1]) (wc := (wd_X8_cells Γ q0 q1 d0 d1 d2 d3 d4 d5 d6 d7 d8 d9 q2 q3 d10 d11 length undoMany zeroKept oneKept seen spot kind begin letters figures value plated driven rows periods leastPeriod sv)) (w1 := (wd_X8_cells Γ q0 q1 d0 d1 d2 d3 d4 d5 d6 d7 d8 d9 q2 q3 d10 d11 length undoMany zeroKept oneKept seen spot kind begin letters figures value plated driven rows periods leastPeriod sv)) (As := []) (rest := [.int x4]) ⟨hx, hb, hml, hown, hts⟩ hE hP hD hS hA rfl rfl rfl (c_X8_cells l Γ _ q0 q1 d0 d1 d2 d3 d4 d5 d6 d7 d8 d9 q2 q3 d10 d11 length undoMany zeroKept oneKept seen spot kind begin letters figures value plated driven rows periods leastPeriod sv r_11 hq_12) (cwV 0 hts gX8_shakesOnce_X8_cells rfl rfl rfl (by decide +kernel) ⟨Nat.le_of_ble_eq_true rfl, Nat.le_of_ble_eq_true rfl⟩) (va_recv (ci := 8) (q0 := 0) hK hP rfl rfl) rfl hl.1 rfl (Nat.le_of_ble_eq_true rfl) dX8_shakesOnce_32 ⟨Nat.zero_le _, Nat.zero_le _⟩ (fun H locs hP hD hS => ?_)
        have hP : va_P Γ.1 vwCl (wd_X8_shakesOnce_s Γ q0 q1 q2 q3 d0 d1 d2 d3 d4 d5 d6 d7 d8 d9 d10 d11 length undoMany zeroKept oneKept seen spot kind begin letters figures value plated driven rows periods leastPeriod sv motion lie) H := hP
        have hD : va_D A (wd_X8_shakesOnce_s Γ q0 q1 q2 q3 d0 d1 d2 d3 d4 d5 d6 d7 d8 d9 d10 d11 length undoMany zeroKept oneKept seen spot kind begin letters figures value plated driven rows periods leastPeriod sv motion lie) := hD
        refine lv_icmp_ge (tgt := 96) hx hb dX8_shakesOnce_35 (by decide) (fun hc_13 => ?_) (fun hc_13 => ?_)
        · have hf := vm_pos hc_13 hf
          have hX := hX29
          rw [← Option.some.inj hf] at hX
          exact K_96 sv lie x3 hP hD hS (lv_sub hl [0, 1, 2, 3] rfl) hX
        · have hf := vm_neg hc_13 hf
          refine lv_aload_n hx hb dX8_shakesOnce_38 rfl (lv_at hl 0 rfl) ?_
          refine lv_iload hx hb dX8_shakesOnce_39 (lv_at hl 4 rfl) ?_
          obtain ⟨r_14, hq_15, hf⟩ := ob1_some hf
          refine vm_cVi (isC := [0, 1, 2]) (wc := (wd_X8_goesTo Γ q0 q1 q2 d0 d1 d2 d3 d4 d5 d6 d7 d8 d9 q3 d10 d11 length undoMany zeroKept oneKept seen spot kind begin letters figures value plated driven rows periods leastPeriod sv motion)) (w1 := (wd_X8_goesTo Γ q0 q1 q2 d0 d1 d2 d3 d4 d5 d6 d7 d8 d9 q3 d10 d11 length undoMany zeroKept oneKept seen spot kind begin letters figures value plated driven rows periods leastPeriod sv motion)) (As := [.int x4]) (rest := []) ⟨hx, hb, hml, hown, hts⟩ hE hP hD hS hA rfl rfl rfl (c_X8_goesTo l Γ _ q0 q1 q2 d0 d1 d2 d3 d4 d5 d6 d7 d8 d9 q3 d10 d11 length undoMany zeroKept oneKept seen spot kind begin letters figures value plated driven rows periods leastPeriod sv motion x4 r_14 hq_15) (cwV 1 hts gX8_shakesOnce_X8_goesTo rfl rfl rfl (by decide +kernel) ⟨Nat.le_of_ble_eq_true rfl, Nat.le_of_ble_eq_true rfl⟩) (va_recv (ci := 8) (q0 := 0) hK hP rfl rfl) rfl hl.1 rfl (Nat.le_of_ble_eq_true rfl) dX8_shakesOnce_41 ⟨Nat.zero_le _, Nat.zero_le _⟩ (fun H locs hP hD hS => ?_)
          have hP : va_P Γ.1 vwCl (wd_X8_shakesOnce_s Γ q0 q1 q2 q3 d0 d1 d2 d3 d4 d5 d6 d7 d8 d9 d10 d11 length undoMany zeroKept oneKept seen spot kind begin letters figures value plated driven rows periods leastPeriod sv motion lie) H := hP
          have hD : va_D A (wd_X8_shakesOnce_s Γ q0 q1 q2 q3 d0 d1 d2 d3 d4 d5 d6 d7 d8 d9 d10 d11 length undoMany zeroKept oneKept seen spot kind begin letters figures value plated driven rows periods leastPeriod sv motion lie) := hD
          refine lv_istore (lv' := [(5, .int r_14), (0, .ref q0), (1, .ref q1), (2, .int x2), (3, .int x3), (4, .int x4)]) hx hb dX8_shakesOnce_44 hl (by decide) rfl (fun ls hl => ?_)
          refine lv_aload_n hx hb dX8_shakesOnce_46 rfl (lv_at hl 1 rfl) ?_
          refine va_get (D := Γ.1) (ci := 8) (v := .ref q3) (C := RX8) (T := TX8) (N := 31) hx hb hts hi8 hown hK hP 0 rfl rfl 26 (by decide) (hts (.fieldLink RX8 46 "SandPlatesModel" "lie" "[I") (List.mem_of_getElem? (i := 1) rfl)) (fun _ h9 => h9) rfl dX8_shakesOnce_47 ?_
          refine lv_iload hx hb dX8_shakesOnce_50 (lv_at hl 0 rfl) ?_
          refine lv_if_ge (tgt := 60) hx hb dX8_shakesOnce_52 (by decide) (fun hc_16 => ?_) (fun hc_16 => ?_)
          · have hf := vm_pos hc_16 hf
            refine lv_iload hx hb dX8_shakesOnce_60 (lv_at hl 0 rfl) ?_
            exact K_62 lie x3 x4 r_14 r_14 hP hD hS (lv_sub hl [1, 2, 3, 4, 5, 0] rfl) hf
          · have hf := vm_neg hc_16 hf
            refine lv_iload hx hb dX8_shakesOnce_55 (lv_at hl 5 rfl) ?_
            refine lv_goto (tgt := 62) hx hb dX8_shakesOnce_57 (by decide) ?_
            exact K_62 lie x3 x4 r_14 x4 hP hD hS (lv_sub hl [1, 2, 3, 4, 5, 0] rfl) hf
    exact LP FU lie x3 x4 hP hD hS hl h1
  have K_26 : ∀ (sv : Nat → Int32) (lie : Nat → Int32) (x3 : Int32) {H : Heap} {locs : List Loc} {ls : Array Slot}, va_P Γ.1 vwCl (wd_X8_shakesOnce_s Γ q0 q1 q2 q3 d0 d1 d2 d3 d4 d5 d6 d7 d8 d9 d10 d11 length undoMany zeroKept oneKept seen spot kind begin letters figures value plated driven rows periods leastPeriod sv motion lie) H → va_D A (wd_X8_shakesOnce_s Γ q0 q1 q2 q3 d0 d1 d2 d3 d4 d5 d6 d7 d8 d9 d10 d11 length undoMany zeroKept oneKept seen spot kind begin letters figures value plated driven rows periods leastPeriod sv motion lie) → va_S A s.heap H locs → lv_has ls 6 [(0, .ref q0), (1, .ref q1), (2, .int x2), (3, .int x3)] → f_X8_shakesOnce_s_26 sv motion lie x2 x3 = some out → W p l e ({ frames := 3, cells := 0, slots := 0, locals := 75 } : Room) s m ([.ref q0, .ref q1, .int x2] : List Value).toArray below meth c H locs 0 0 QQ (F0 m 26 ls []) := by
    intro sv lie x3 H locs ls hP hD hS hl hf
    unfold f_X8_shakesOnce_s_26 at hf
    refine lv_iconst (v := 0) hx hb dX8_shakesOnce_26 (by decide) ?_
    refine lv_istore (lv' := [(4, .int 0), (0, .ref q0), (1, .ref q1), (2, .int x2), (3, .int x3)]) hx hb dX8_shakesOnce_27 hl (by decide) rfl (fun ls hl => ?_)
    exact K_29 sv lie x3 0 hP hD hS (lv_sub hl [1, 2, 3, 4, 0] rfl) hf
  have K_5 : ∀ (sv : Nat → Int32) (lie : Nat → Int32) (x3 : Int32) (x4 : Int32) {H : Heap} {locs : List Loc} {ls : Array Slot}, va_P Γ.1 vwCl (wd_X8_shakesOnce_s Γ q0 q1 q2 q3 d0 d1 d2 d3 d4 d5 d6 d7 d8 d9 d10 d11 length undoMany zeroKept oneKept seen spot kind begin letters figures value plated driven rows periods leastPeriod sv motion lie) H → va_D A (wd_X8_shakesOnce_s Γ q0 q1 q2 q3 d0 d1 d2 d3 d4 d5 d6 d7 d8 d9 d10 d11 length undoMany zeroKept oneKept seen spot kind begin letters figures value plated driven rows periods leastPeriod sv motion lie) → va_S A s.heap H locs → lv_has ls 6 [(0, .ref q0), (1, .ref q1), (2, .int x2), (3, .int x3), (4, .int x4)] → f_X8_shakesOnce_s_5 sv motion lie x2 x3 x4 = some out → W p l e ({ frames := 3, cells := 0, slots := 0, locals := 75 } : Room) s m ([.ref q0, .ref q1, .int x2] : List Value).toArray below meth c H locs 0 0 QQ (F0 m 5 ls []) := by
    intro sv lie x3 x4 H locs ls hP hD hS hl hf
    unfold f_X8_shakesOnce_s_5 at hf
    obtain ⟨ex5, h1, hX5⟩ := obx_some hf
    have LP : ∀ (n : Nat) (lie : Nat → Int32) (x4 : Int32)  {H : Heap} {locs : List Loc} {ls : Array Slot}, va_P Γ.1 vwCl (wd_X8_shakesOnce_s Γ q0 q1 q2 q3 d0 d1 d2 d3 d4 d5 d6 d7 d8 d9 d10 d11 length undoMany zeroKept oneKept seen spot kind begin letters figures value plated driven rows periods leastPeriod sv motion lie) H → va_D A (wd_X8_shakesOnce_s Γ q0 q1 q2 q3 d0 d1 d2 d3 d4 d5 d6 d7 d8 d9 d10 d11 length undoMany zeroKept oneKept seen spot kind begin letters figures value plated driven rows periods leastPeriod sv motion lie) → va_S A s.heap H locs → lv_has ls 6 [(0, .ref q0), (1, .ref q1), (2, .int x2), (3, .int x3), (4, .int x4)] → vm_it (f_X8_shakesOnce_s_5s sv motion x2 x3) n (lie, x4) = some ex5 → W p l e ({ frames := 3, cells := 0, slots := 0, locals := 75 } : Room) s m ([.ref q0, .ref q1, .int x2] : List Value).toArray below meth c H locs 0 0 QQ (F0 m 5 ls []) := by
      clear hP hD hS hl hf h1
      intro n
      induction n with
      | zero => intro lie x4 H locs ls hP hD hS hl hf; exact (vm_it_0 hf).elim
      | succ n ih =>
        intro lie x4 H locs ls hP hD hS hl hf
        have hf : f_X8_shakesOnce_s_5b sv motion x2 x3 lie x4 (vm_it (f_X8_shakesOnce_s_5s sv motion x2 x3) n) = some ex5 := hf
        unfold f_X8_shakesOnce_s_5b at hf
        refine lv_iload hx hb dX8_shakesOnce_5 (lv_at hl 4 rfl) ?_
        refine lv_bipush (v := 36) hx hb dX8_shakesOnce_7 (by decide) ?_
        refine lv_icmp_ge (tgt := 26) hx hb dX8_shakesOnce_9 (by decide) (fun hc_17 => ?_) (fun hc_17 => ?_)
        · have hf := vm_pos hc_17 hf
          have hX := hX5
          rw [← Option.some.inj hf] at hX
          exact K_26 sv lie x3 hP hD hS (lv_sub hl [0, 1, 2, 3] rfl) hX
        · have hf := vm_neg hc_17 hf
          refine lv_aload_n hx hb dX8_shakesOnce_12 rfl (lv_at hl 0 rfl) ?_
          refine va_get (D := Γ.1) (ci := 8) (v := .ref q3) (C := RX8) (T := TX8) (N := 31) hx hb hts hi8 hown hK hP 0 rfl rfl 26 (by decide) (hts (.fieldLink RX8 46 "SandPlatesModel" "lie" "[I") (List.mem_of_getElem? (i := 1) rfl)) (fun _ h9 => h9) rfl dX8_shakesOnce_13 ?_
          refine lv_iload hx hb dX8_shakesOnce_16 (lv_at hl 4 rfl) ?_
          refine lv_iconst (v := 0) hx hb dX8_shakesOnce_18 (by decide) ?_
          obtain ⟨hc_18, hf⟩ := vm_ck hf
          refine vm_iast hx hb hK hP hD hS 3 0 rfl rfl hc_18 (j := (x4.toNatClampNeg)) rfl dX8_shakesOnce_19 (fun H locs hP hD hS => ?_)
          have hP : va_P Γ.1 vwCl (wd_X8_shakesOnce_s Γ q0 q1 q2 q3 d0 d1 d2 d3 d4 d5 d6 d7 d8 d9 d10 d11 length undoMany zeroKept oneKept seen spot kind begin letters figures value plated driven rows periods leastPeriod sv motion (upd lie (x4.toNatClampNeg) 0)) H := hP
          have hD : va_D A (wd_X8_shakesOnce_s Γ q0 q1 q2 q3 d0 d1 d2 d3 d4 d5 d6 d7 d8 d9 d10 d11 length undoMany zeroKept oneKept seen spot kind begin letters figures value plated driven rows periods leastPeriod sv motion (upd lie (x4.toNatClampNeg) 0)) := hD
          refine lv_iinc (v := (x4 + 1)) (lv' := [(4, .int (x4 + 1)), (0, .ref q0), (1, .ref q1), (2, .int x2), (3, .int x3)]) hx hb dX8_shakesOnce_20 hl (k := 4) rfl rfl (by decide) rfl (fun ls hl => ?_)
          refine lv_goto (tgt := 5) hx hb dX8_shakesOnce_23 (by decide) ?_
          exact ih (upd lie (x4.toNatClampNeg) 0) (x4 + 1) hP hD hS (lv_sub hl [1, 2, 3, 4, 0] rfl) hf
    exact LP FU lie x4 hP hD hS hl h1
  unfold f_X8_shakesOnce_s at hf
  refine lv_iconst (v := 0) hx hb dX8_shakesOnce_0 (by decide) ?_
  refine lv_istore_n (lv' := [(3, .int 0), (0, .ref q0), (1, .ref q1), (2, .int x2)]) hx hb dX8_shakesOnce_1 rfl hl (by decide) rfl (fun ls hl => ?_)
  refine lv_iconst (v := 0) hx hb dX8_shakesOnce_2 (by decide) ?_
  refine lv_istore (lv' := [(4, .int 0), (3, .int 0), (0, .ref q0), (1, .ref q1), (2, .int x2)]) hx hb dX8_shakesOnce_3 hl (by decide) rfl (fun ls hl => ?_)
  exact K_5 sv lie 0 0 hP hD hS (lv_sub hl [2, 3, 4, 1, 0] rfl) hf
def wd_X8_tries (Γ : GE) (q0 q1 q2 q3 q4 q5 q6 q7 d0 d1 d2 d3 d4 d5 d6 d7 : Nat) (length : Int32) (undoMany : Int32) (zeroKept : Int32) (oneKept : Int32) (seen : Int32) (spot : Int32) (kind : Int32) (begin : Int32) (letters : Int64) (figures : Int32) (value : Int32) (plated : Int32) (driven : Int32) (rows : Int32) (periods : Int32) (leastPeriod : Int32) (sv : Nat → Int32) (height : Nat → Int32) (speed : Nat → Int32) (top : Nat → Int32) (low : Nat → Int32) (motion : Nat → Int32) (tried : Nat → Int32) : va_W := [(q0, .inr (8, [.int length, .ref d0, .ref q1, .ref d1, .ref d2, .int undoMany, .ref d3, .int zeroKept, .int oneKept, .ref d4, .ref d5, .int seen, .int spot, .int kind, .int begin, .long letters, .int figures, .int value, .int plated, .int driven, .int rows, .ref q2, .ref q3, .ref q4, .ref q5, .ref q6, .ref d6, .ref q7, .ref d7, .int periods, .int leastPeriod])), (q1, .inl (Γ.2.1 0, 81, .inl sv)), (q2, .inl (Γ.2.1 0, 36, .inl height)), (q3, .inl (Γ.2.1 0, 36, .inl speed)), (q4, .inl (Γ.2.1 0, 36, .inl top)), (q5, .inl (Γ.2.1 0, 36, .inl low)), (q6, .inl (Γ.2.1 0, 36, .inl motion)), (q7, .inl (Γ.2.1 0, 36, .inl tried))]
def f_X8_tries_40 (height : Nat → Int32) (speed : Nat → Int32) (top : Nat → Int32) (low : Nat → Int32) (motion : Nat → Int32) (tried : Nat → Int32) : Option ((Nat → Int32) × (Nat → Int32) × (Nat → Int32) × (Nat → Int32) × (Nat → Int32) × (Nat → Int32)) := some (height, speed, top, low, motion, tried)
def f_X8_tries_13b (sv : Nat → Int32) (height : Nat → Int32) (speed : Nat → Int32) (top : Nat → Int32) (low : Nat → Int32) (motion : Nat → Int32) (tried : Nat → Int32) (x1 : Int32) (k : (((Nat → Int32) × Int32) → Option (Nat → Int32))) : Option (Nat → Int32) := if 36 ≤ x1 then (some tried) else (if inb (45 + x1) 81 = true then if inb x1 36 = true then k ((upd tried (x1.toNatClampNeg) (sv ((45 + x1).toNatClampNeg))), (x1 + 1)) else none else none)
def f_X8_tries_13s (sv : Nat → Int32) (height : Nat → Int32) (speed : Nat → Int32) (top : Nat → Int32) (low : Nat → Int32) (motion : Nat → Int32) : ((Nat → Int32) × Int32) → (((Nat → Int32) × Int32) → Option (Nat → Int32)) → Option (Nat → Int32) := fun t k => f_X8_tries_13b sv height speed top low motion t.1 t.2 k
def f_X8_tries_13 (sv : Nat → Int32) (height : Nat → Int32) (speed : Nat → Int32) (top : Nat → Int32) (low : Nat → Int32) (motion : Nat → Int32) (tried : Nat → Int32) (x1 : Int32) : Option ((Nat → Int32) × (Nat → Int32) × (Nat → Int32) × (Nat → Int32) × (Nat → Int32) × (Nat → Int32)) := obx (vm_it (f_X8_tries_13s sv height speed top low motion) FU (tried, x1)) (fun tried => f_X8_tries_40 height speed top low motion tried)
def f_X8_tries (sv : Nat → Int32) (height : Nat → Int32) (speed : Nat → Int32) (top : Nat → Int32) (low : Nat → Int32) (motion : Nat → Int32) (tried : Nat → Int32) : Option ((Nat → Int32) × (Nat → Int32) × (Nat → Int32) × (Nat → Int32) × (Nat → Int32) × (Nat → Int32)) := ob5 (f_X8_runs sv height speed top low motion (sv 6)) (fun height_4 speed_5 top_6 low_7 motion_8 => f_X8_tries_13 sv height_4 speed_5 top_6 low_7 motion_8 tried 0)
set_option maxHeartbeats 4000000 in
set_option maxRecDepth 100000 in
theorem c_X8_tries (l : Launch) (Γ : GE) (sz : Nat) (q0 q1 q2 q3 q4 q5 q6 q7 d0 d1 d2 d3 d4 d5 d6 d7 : Nat) (length : Int32) (undoMany : Int32) (zeroKept : Int32) (oneKept : Int32) (seen : Int32) (spot : Int32) (kind : Int32) (begin : Int32) (letters : Int64) (figures : Int32) (value : Int32) (plated : Int32) (driven : Int32) (rows : Int32) (periods : Int32) (leastPeriod : Int32) (sv : Nat → Int32) (height : Nat → Int32) (speed : Nat → Int32) (top : Nat → Int32) (low : Nat → Int32) (motion : Nat → Int32) (tried : Nat → Int32) (o_height : Nat → Int32) (o_speed : Nat → Int32) (o_top : Nat → Int32) (o_low : Nat → Int32) (o_motion : Nat → Int32) (o_tried : Nat → Int32) (hf : f_X8_tries sv height speed top low motion tried = some (o_height, o_speed, o_top, o_low, o_motion, o_tried)) : MetV l yX8_tries wsX8_tries ({ frames := 5, cells := 0, slots := 0, locals := 123 } : Room) Γ [.ref q0] (wd_X8_tries Γ q0 q1 q2 q3 q4 q5 q6 q7 d0 d1 d2 d3 d4 d5 d6 d7 length undoMany zeroKept oneKept seen spot kind begin letters figures value plated driven rows periods leastPeriod sv height speed top low motion tried) (wd_X8_tries Γ q0 q1 q2 q3 q4 q5 q6 q7 d0 d1 d2 d3 d4 d5 d6 d7 length undoMany zeroKept oneKept seen spot kind begin letters figures value plated driven rows periods leastPeriod sv o_height o_speed o_top o_low o_motion o_tried) sz := by
  refine Met.ofW (cc := cX8_tries) (maxL := 2) (ret := none) (by decide) rfl ?_
  intro p e s m args below meth c s₁ B hml hv
  obtain ⟨rfl, hsz, hE, hP, hD⟩ := hv
  have hx := B.exec
  have hb := B.bytes
  have hr := B.returns
  have hts := atoms_spec (ws := wsX8_tries) B.pre
  have hown : s.vm.findClass RX8 = some m.cls := findClass_of_methodNamed B.named
  have hlocks := B.notSynchronized
  subst hsz
  generalize hAe : va_A (wd_X8_tries Γ q0 q1 q2 q3 q4 q5 q6 q7 d0 d1 d2 d3 d4 d5 d6 d7 length undoMany zeroKept oneKept seen spot kind begin letters figures value plated driven rows periods leastPeriod sv height speed top low motion tried) s.heap.size = A at hE hD ⊢
  have hA : ∀ q : Nat, s.heap.size ≤ q → A q := fun q h => by rw [← hAe]; exact Or.inr h
  clear hAe
  have hS : va_S A s.heap s.heap [] := va_S.rf
  have hK := hE.1
  have hl := lv_entry ([.ref q0]) (n := 2) (Nat.le_of_ble_eq_true rfl)
  rw [lg_entry_eq]
  generalize (lg_sl ([.ref q0]) ++ List.replicate (2 - (lg_sl ([.ref q0])).length) Slot.unset).toArray = ls at hl ⊢
  have hl : lv_has ls 2 [(0, .ref q0)] := hl
  have hi8 : ∀ w ∈ u_ws RX8 TX8 31, w ∈ wsX8_tries := fun w h => (List.mem_cons_of_mem _ (List.mem_append_right _ h))
  obtain ⟨out, hout⟩ : ∃ o, o = (o_height, o_speed, o_top, o_low, o_motion, o_tried) := ⟨_, rfl⟩
  rw [← hout] at hf
  obtain ⟨QQ, hQQ⟩ : ∃ Q, Q = MQ below (va_Qv (fun _ : Unit => True) (CQ Γ (wd_X8_tries Γ q0 q1 q2 q3 q4 q5 q6 q7 d0 d1 d2 d3 d4 d5 d6 d7 length undoMany zeroKept oneKept seen spot kind begin letters figures value plated driven rows periods leastPeriod sv o_height o_speed o_top o_low o_motion o_tried) A) A) (([.ref q0] : List Value).toArray) s 0 0 A := ⟨_, rfl⟩
  show W p l e ({ frames := 5, cells := 0, slots := 0, locals := 123 } : Room) s m (([.ref q0] : List Value).toArray) below meth c s.heap [] 0 0 (MQ below _ (([.ref q0] : List Value).toArray) s 0 0 A) (F0 m 0 ls [])
  rw [← hQQ]
  have K_40 : ∀ (height : Nat → Int32) (speed : Nat → Int32) (top : Nat → Int32) (low : Nat → Int32) (motion : Nat → Int32) (tried : Nat → Int32) {H : Heap} {locs : List Loc} {ls : Array Slot}, va_P Γ.1 vwCl (wd_X8_tries Γ q0 q1 q2 q3 q4 q5 q6 q7 d0 d1 d2 d3 d4 d5 d6 d7 length undoMany zeroKept oneKept seen spot kind begin letters figures value plated driven rows periods leastPeriod sv height speed top low motion tried) H → va_D A (wd_X8_tries Γ q0 q1 q2 q3 q4 q5 q6 q7 d0 d1 d2 d3 d4 d5 d6 d7 length undoMany zeroKept oneKept seen spot kind begin letters figures value plated driven rows periods leastPeriod sv height speed top low motion tried) → va_S A s.heap H locs → lv_has ls 2 [] → f_X8_tries_40 height speed top low motion tried = some out → W p l e ({ frames := 5, cells := 0, slots := 0, locals := 123 } : Room) s m ([.ref q0] : List Value).toArray below meth c H locs 0 0 QQ (F0 m 40 ls []) := by
    intro height speed top low motion tried H locs ls hP hD hS hl hf
    unfold f_X8_tries_40 at hf
    subst hout; obtain ⟨rfl, rfl, rfl, rfl, rfl, rfl⟩ := rt6 hf
    subst hQQ
    exact W.vret hx hb hr (fun t ht hW => ⟨⟨(), rfl, trivial, by rw [ht]; exact hP, hD⟩, hS.F ht⟩) hS.2.2 dX8_tries_40
  have K_13 : ∀ (height : Nat → Int32) (speed : Nat → Int32) (top : Nat → Int32) (low : Nat → Int32) (motion : Nat → Int32) (tried : Nat → Int32) (x1 : Int32) {H : Heap} {locs : List Loc} {ls : Array Slot}, va_P Γ.1 vwCl (wd_X8_tries Γ q0 q1 q2 q3 q4 q5 q6 q7 d0 d1 d2 d3 d4 d5 d6 d7 length undoMany zeroKept oneKept seen spot kind begin letters figures value plated driven rows periods leastPeriod sv height speed top low motion tried) H → va_D A (wd_X8_tries Γ q0 q1 q2 q3 q4 q5 q6 q7 d0 d1 d2 d3 d4 d5 d6 d7 length undoMany zeroKept oneKept seen spot kind begin letters figures value plated driven rows periods leastPeriod sv height speed top low motion tried) → va_S A s.heap H locs → lv_has ls 2 [(0, .ref q0), (1, .int x1)] → f_X8_tries_13 sv height speed top low motion tried x1 = some out → W p l e ({ frames := 5, cells := 0, slots := 0, locals := 123 } : Room) s m ([.ref q0] : List Value).toArray below meth c H locs 0 0 QQ (F0 m 13 ls []) := by
    intro height speed top low motion tried x1 H locs ls hP hD hS hl hf
    unfold f_X8_tries_13 at hf
    obtain ⟨ex13, h1, hX13⟩ := obx_some hf
    have LP : ∀ (n : Nat) (tried : Nat → Int32) (x1 : Int32)  {H : Heap} {locs : List Loc} {ls : Array Slot}, va_P Γ.1 vwCl (wd_X8_tries Γ q0 q1 q2 q3 q4 q5 q6 q7 d0 d1 d2 d3 d4 d5 d6 d7 length undoMany zeroKept oneKept seen spot kind begin letters figures value plated driven rows periods leastPeriod sv height speed top low motion tried) H → va_D A (wd_X8_tries Γ q0 q1 q2 q3 q4 q5 q6 q7 d0 d1 d2 d3 d4 d5 d6 d7 length undoMany zeroKept oneKept seen spot kind begin letters figures value plated driven rows periods leastPeriod sv height speed top low motion tried) → va_S A s.heap H locs → lv_has ls 2 [(0, .ref q0), (1, .int x1)] → vm_it (f_X8_tries_13s sv height speed top low motion) n (tried, x1) = some ex13 → W p l e ({ frames := 5, cells := 0, slots := 0, locals := 123 } : Room) s m ([.ref q0] : List Value).toArray below meth c H locs 0 0 QQ (F0 m 13 ls []) := by
      clear hP hD hS hl hf h1
      intro n
      induction n with
      | zero => intro tried x1 H locs ls hP hD hS hl hf; exact (vm_it_0 hf).elim
      | succ n ih =>
        intro tried x1 H locs ls hP hD hS hl hf
        have hf : f_X8_tries_13b sv height speed top low motion tried x1 (vm_it (f_X8_tries_13s sv height speed top low motion) n) = some ex13 := hf
        unfold f_X8_tries_13b at hf
        refine lv_iload_n hx hb dX8_tries_13 rfl (lv_at hl 1 rfl) ?_
        refine lv_bipush (v := 36) hx hb dX8_tries_14 (by decide) ?_
        refine lv_icmp_ge (tgt := 40) hx hb dX8_tries_16 (by decide) (fun hc_1 => ?_) (fun hc_1 => ?_)
        · have hf := vm_pos hc_1 hf
          have hX := hX13
          rw [← Option.some.inj hf] at hX
          exact K_40 height speed top low motion tried hP hD hS (lv_sub hl [] rfl) hX
        · have hf := vm_neg hc_1 hf
          refine lv_aload_n hx hb dX8_tries_19 rfl (lv_at hl 0 rfl) ?_
          refine va_get (D := Γ.1) (ci := 8) (v := .ref q7) (C := RX8) (T := TX8) (N := 31) hx hb hts hi8 hown hK hP 0 rfl rfl 27 (by decide) (hts (.fieldLink RX8 49 "SandPlatesModel" "tried" "[I") (List.mem_of_getElem? (i := 2) rfl)) (fun _ h9 => h9) rfl dX8_tries_20 ?_
          refine lv_iload_n hx hb dX8_tries_23 rfl (lv_at hl 1 rfl) ?_
          refine lv_aload_n hx hb dX8_tries_24 rfl (lv_at hl 0 rfl) ?_
          refine va_get (D := Γ.1) (ci := 8) (v := .ref q1) (C := RX8) (T := TX8) (N := 31) hx hb hts hi8 hown hK hP 0 rfl rfl 2 (by decide) (hts (.fieldLink RX8 13 "SandPlatesModel" "s" "[I") (List.mem_of_getElem? (i := 1) rfl)) (fun _ h9 => h9) rfl dX8_tries_25 ?_
          refine lv_bipush (v := 45) hx hb dX8_tries_28 (by decide) ?_
          refine lv_iload_n hx hb dX8_tries_30 rfl (lv_at hl 1 rfl) ?_
          refine lv_iadd hx hb dX8_tries_31 ?_
          obtain ⟨hc_2, hf⟩ := vm_ck hf
          refine vm_iald hx hb hK hP 1 0 rfl rfl hc_2 (j := (45 + x1).toNatClampNeg) rfl dX8_tries_32 ?_
          obtain ⟨hc_3, hf⟩ := vm_ck hf
          refine vm_iast hx hb hK hP hD hS 7 0 rfl rfl hc_3 (j := (x1.toNatClampNeg)) rfl dX8_tries_33 (fun H locs hP hD hS => ?_)
          have hP : va_P Γ.1 vwCl (wd_X8_tries Γ q0 q1 q2 q3 q4 q5 q6 q7 d0 d1 d2 d3 d4 d5 d6 d7 length undoMany zeroKept oneKept seen spot kind begin letters figures value plated driven rows periods leastPeriod sv height speed top low motion (upd tried (x1.toNatClampNeg) (sv ((45 + x1).toNatClampNeg)))) H := hP
          have hD : va_D A (wd_X8_tries Γ q0 q1 q2 q3 q4 q5 q6 q7 d0 d1 d2 d3 d4 d5 d6 d7 length undoMany zeroKept oneKept seen spot kind begin letters figures value plated driven rows periods leastPeriod sv height speed top low motion (upd tried (x1.toNatClampNeg) (sv ((45 + x1).toNatClampNeg)))) := hD
          refine lv_iinc (v := (x1 + 1)) (lv' := [(1, .int (x1 + 1)), (0, .ref q0)]) hx hb dX8_tries_34 hl (k := 1) rfl rfl (by decide) rfl (fun ls hl => ?_)
          refine lv_goto (tgt := 13) hx hb dX8_tries_37 (by decide) ?_
          exact ih (upd tried (x1.toNatClampNeg) (sv ((45 + x1).toNatClampNeg))) (x1 + 1) hP hD hS (lv_sub hl [1, 0] rfl) hf
    exact LP FU tried x1 hP hD hS hl h1
  unfold f_X8_tries at hf
  refine lv_aload_n hx hb dX8_tries_0 rfl (lv_at hl 0 rfl) ?_
  refine lv_aload_n hx hb dX8_tries_1 rfl (lv_at hl 0 rfl) ?_
  refine va_get (D := Γ.1) (ci := 8) (v := .ref q1) (C := RX8) (T := TX8) (N := 31) hx hb hts hi8 hown hK hP 0 rfl rfl 2 (by decide) (hts (.fieldLink RX8 13 "SandPlatesModel" "s" "[I") (List.mem_of_getElem? (i := 1) rfl)) (fun _ h9 => h9) rfl dX8_tries_2 ?_
  refine lv_bipush (v := 6) hx hb dX8_tries_5 (by decide) ?_
  refine vm_iald hx hb hK hP 1 0 rfl rfl (by decide +kernel) (j := 6) rfl dX8_tries_7 ?_
  obtain ⟨height_4, speed_5, top_6, low_7, motion_8, hq_9, hf⟩ := ob5_some hf
  refine vm_cVv (isC := [0, 1, 2, 3, 4, 5, 6]) (wc := (wd_X8_runs Γ q0 q1 q2 q3 q4 q5 q6 d0 d1 d2 d3 d4 d5 d6 q7 d7 length undoMany zeroKept oneKept seen spot kind begin letters figures value plated driven rows periods leastPeriod sv height speed top low motion)) (w1 := (wd_X8_runs Γ q0 q1 q2 q3 q4 q5 q6 d0 d1 d2 d3 d4 d5 d6 q7 d7 length undoMany zeroKept oneKept seen spot kind begin letters figures value plated driven rows periods leastPeriod sv height_4 speed_5 top_6 low_7 motion_8)) (As := [.int (sv 6)]) (rest := []) ⟨hx, hb, hml, hown, hts⟩ hE hP hD hS hA rfl rfl rfl (c_X8_runs l Γ _ q0 q1 q2 q3 q4 q5 q6 d0 d1 d2 d3 d4 d5 d6 q7 d7 length undoMany zeroKept oneKept seen spot kind begin letters figures value plated driven rows periods leastPeriod sv height speed top low motion (sv 6) height_4 speed_5 top_6 low_7 motion_8 hq_9) (cwV 1 hts gX8_tries_X8_runs rfl rfl rfl (by decide +kernel) ⟨Nat.le_of_ble_eq_true rfl, Nat.le_of_ble_eq_true rfl⟩) (va_recv (ci := 8) (q0 := 0) hK hP rfl rfl) rfl hl.1 rfl (Nat.le_of_ble_eq_true rfl) dX8_tries_8 ⟨Nat.zero_le _, Nat.zero_le _⟩ (fun H locs hP hD hS => ?_)
  have hP : va_P Γ.1 vwCl (wd_X8_tries Γ q0 q1 q2 q3 q4 q5 q6 q7 d0 d1 d2 d3 d4 d5 d6 d7 length undoMany zeroKept oneKept seen spot kind begin letters figures value plated driven rows periods leastPeriod sv height_4 speed_5 top_6 low_7 motion_8 tried) H := hP
  have hD : va_D A (wd_X8_tries Γ q0 q1 q2 q3 q4 q5 q6 q7 d0 d1 d2 d3 d4 d5 d6 d7 length undoMany zeroKept oneKept seen spot kind begin letters figures value plated driven rows periods leastPeriod sv height_4 speed_5 top_6 low_7 motion_8 tried) := hD
  refine lv_iconst (v := 0) hx hb dX8_tries_11 (by decide) ?_
  refine lv_istore_n (lv' := [(1, .int 0), (0, .ref q0)]) hx hb dX8_tries_12 rfl hl (by decide) rfl (fun ls hl => ?_)
  exact K_13 height_4 speed_5 top_6 low_7 motion_8 tried 0 hP hD hS (lv_sub hl [1, 0] rfl) hf
def wd_X8_shakes (Γ : GE) (q0 q1 q2 q3 q4 q5 q6 q7 q8 q9 d0 d1 d2 d3 d4 d5 : Nat) (length : Int32) (undoMany : Int32) (zeroKept : Int32) (oneKept : Int32) (seen : Int32) (spot : Int32) (kind : Int32) (begin : Int32) (letters : Int64) (figures : Int32) (value : Int32) (plated : Int32) (driven : Int32) (rows : Int32) (periods : Int32) (leastPeriod : Int32) (sv : Nat → Int32) (before : Nat → Int32) (height : Nat → Int32) (speed : Nat → Int32) (top : Nat → Int32) (low : Nat → Int32) (motion : Nat → Int32) (lie : Nat → Int32) (tried : Nat → Int32) : va_W := [(q0, .inr (8, [.int length, .ref d0, .ref q1, .ref d1, .ref q2, .int undoMany, .ref d2, .int zeroKept, .int oneKept, .ref d3, .ref d4, .int seen, .int spot, .int kind, .int begin, .long letters, .int figures, .int value, .int plated, .int driven, .int rows, .ref q3, .ref q4, .ref q5, .ref q6, .ref q7, .ref q8, .ref q9, .ref d5, .int periods, .int leastPeriod])), (q1, .inl (Γ.2.1 0, 81, .inl sv)), (q2, .inl (Γ.2.1 0, 486, .inl before)), (q3, .inl (Γ.2.1 0, 36, .inl height)), (q4, .inl (Γ.2.1 0, 36, .inl speed)), (q5, .inl (Γ.2.1 0, 36, .inl top)), (q6, .inl (Γ.2.1 0, 36, .inl low)), (q7, .inl (Γ.2.1 0, 36, .inl motion)), (q8, .inl (Γ.2.1 0, 36, .inl lie)), (q9, .inl (Γ.2.1 0, 36, .inl tried))]
def f_X8_shakes_69 (undoMany : Int32) (sv : Nat → Int32) (before : Nat → Int32) (height : Nat → Int32) (speed : Nat → Int32) (top : Nat → Int32) (low : Nat → Int32) (motion : Nat → Int32) (lie : Nat → Int32) (tried : Nat → Int32) (x2 : Int32) : Option (Int32 × Int32 × (Nat → Int32) × (Nat → Int32) × (Nat → Int32) × (Nat → Int32) × (Nat → Int32) × (Nat → Int32) × (Nat → Int32) × (Nat → Int32) × (Nat → Int32)) := some (x2, undoMany, sv, before, height, speed, top, low, motion, lie, tried)
def f_X8_shakes_41b (undoMany : Int32) (before : Nat → Int32) (height : Nat → Int32) (speed : Nat → Int32) (top : Nat → Int32) (low : Nat → Int32) (motion : Nat → Int32) (tried : Nat → Int32) (x1 : Int32) (sv : Nat → Int32) (lie : Nat → Int32) (x2 : Int32) (x3 : Int32) (k : (((Nat → Int32) × (Nat → Int32) × Int32 × Int32) → Option ((Nat → Int32) × (Nat → Int32) × Int32))) : Option ((Nat → Int32) × (Nat → Int32) × Int32) := if x1 ≤ x3 then (some (sv, lie, x2)) else (ob3 (f_X8_shakesOnce_s sv motion lie 45) (fun r_2 sv_3 lie_4 => k (sv_3, lie_4, (x2 + r_2), (x3 + 1))))
def f_X8_shakes_41s (undoMany : Int32) (before : Nat → Int32) (height : Nat → Int32) (speed : Nat → Int32) (top : Nat → Int32) (low : Nat → Int32) (motion : Nat → Int32) (tried : Nat → Int32) (x1 : Int32) : ((Nat → Int32) × (Nat → Int32) × Int32 × Int32) → (((Nat → Int32) × (Nat → Int32) × Int32 × Int32) → Option ((Nat → Int32) × (Nat → Int32) × Int32)) → Option ((Nat → Int32) × (Nat → Int32) × Int32) := fun t k => f_X8_shakes_41b undoMany before height speed top low motion tried x1 t.1 t.2.1 t.2.2.1 t.2.2.2 k
def f_X8_shakes_41 (undoMany : Int32) (sv : Nat → Int32) (before : Nat → Int32) (height : Nat → Int32) (speed : Nat → Int32) (top : Nat → Int32) (low : Nat → Int32) (motion : Nat → Int32) (lie : Nat → Int32) (tried : Nat → Int32) (x1 : Int32) (x2 : Int32) (x3 : Int32) : Option (Int32 × Int32 × (Nat → Int32) × (Nat → Int32) × (Nat → Int32) × (Nat → Int32) × (Nat → Int32) × (Nat → Int32) × (Nat → Int32) × (Nat → Int32) × (Nat → Int32)) := obx (vm_it (f_X8_shakes_41s undoMany before height speed top low motion tried x1) FU (sv, lie, x2, x3)) (un3 (fun sv lie x2 => f_X8_shakes_69 undoMany sv before height speed top low motion lie tried x2))
def f_X8_shakes (undoMany : Int32) (sv : Nat → Int32) (before : Nat → Int32) (height : Nat → Int32) (speed : Nat → Int32) (top : Nat → Int32) (low : Nat → Int32) (motion : Nat → Int32) (lie : Nat → Int32) (tried : Nat → Int32) (x1 : Int32) : Option (Int32 × Int32 × (Nat → Int32) × (Nat → Int32) × (Nat → Int32) × (Nat → Int32) × (Nat → Int32) × (Nat → Int32) × (Nat → Int32) × (Nat → Int32) × (Nat → Int32)) := ob1 (f_X8_in ((x1).toInt64) 1 20) (fun r_6 => if r_6 = 0 then (some ((-1), undoMany, sv, before, height, speed, top, low, motion, lie, tried)) else (ob6 (f_X8_tries sv height speed top low motion tried) (fun height_9 speed_10 top_11 low_12 motion_13 tried_14 => ob3 (f_X8_shakesOnce_t sv motion_13 lie tried_14 0) (fun r_16 lie_17 tried_18 => if r_16 = 0 then (some ((-2), undoMany, sv, before, height_9, speed_10, top_11, low_12, motion_13, lie_17, tried_18)) else (ob2 (f_X8_note undoMany sv before) (fun undoMany_21 before_22 => f_X8_shakes_41 undoMany_21 sv before_22 height_9 speed_10 top_11 low_12 motion_13 lie_17 tried_18 x1 0 0))))))
set_option maxHeartbeats 4000000 in
set_option maxRecDepth 100000 in
theorem c_X8_shakes (l : Launch) (Γ : GE) (sz : Nat) (q0 q1 q2 q3 q4 q5 q6 q7 q8 q9 d0 d1 d2 d3 d4 d5 : Nat) (length : Int32) (undoMany : Int32) (zeroKept : Int32) (oneKept : Int32) (seen : Int32) (spot : Int32) (kind : Int32) (begin : Int32) (letters : Int64) (figures : Int32) (value : Int32) (plated : Int32) (driven : Int32) (rows : Int32) (periods : Int32) (leastPeriod : Int32) (sv : Nat → Int32) (before : Nat → Int32) (height : Nat → Int32) (speed : Nat → Int32) (top : Nat → Int32) (low : Nat → Int32) (motion : Nat → Int32) (lie : Nat → Int32) (tried : Nat → Int32) (x1 : Int32) (ro : Int32) (o_undoMany : Int32) (o_sv : Nat → Int32) (o_before : Nat → Int32) (o_height : Nat → Int32) (o_speed : Nat → Int32) (o_top : Nat → Int32) (o_low : Nat → Int32) (o_motion : Nat → Int32) (o_lie : Nat → Int32) (o_tried : Nat → Int32) (hf : f_X8_shakes undoMany sv before height speed top low motion lie tried x1 = some (ro, o_undoMany, o_sv, o_before, o_height, o_speed, o_top, o_low, o_motion, o_lie, o_tried)) : MetI l yX8_shakes wsX8_shakes ({ frames := 6, cells := 0, slots := 0, locals := 144 } : Room) Γ [.ref q0, .int x1] (wd_X8_shakes Γ q0 q1 q2 q3 q4 q5 q6 q7 q8 q9 d0 d1 d2 d3 d4 d5 length undoMany zeroKept oneKept seen spot kind begin letters figures value plated driven rows periods leastPeriod sv before height speed top low motion lie tried) (wd_X8_shakes Γ q0 q1 q2 q3 q4 q5 q6 q7 q8 q9 d0 d1 d2 d3 d4 d5 length o_undoMany zeroKept oneKept seen spot kind begin letters figures value plated driven rows periods leastPeriod o_sv o_before o_height o_speed o_top o_low o_motion o_lie o_tried) sz ro := by
  refine Met.ofW (cc := cX8_shakes) (maxL := 5) (ret := (some .int)) (by decide) rfl ?_
  intro p e s m args below meth c s₁ B hml hv
  obtain ⟨rfl, hsz, hE, hP, hD⟩ := hv
  have hx := B.exec
  have hb := B.bytes
  have hr := B.returns
  have hts := atoms_spec (ws := wsX8_shakes) B.pre
  have hown : s.vm.findClass RX8 = some m.cls := findClass_of_methodNamed B.named
  have hlocks := B.notSynchronized
  subst hsz
  generalize hAe : va_A (wd_X8_shakes Γ q0 q1 q2 q3 q4 q5 q6 q7 q8 q9 d0 d1 d2 d3 d4 d5 length undoMany zeroKept oneKept seen spot kind begin letters figures value plated driven rows periods leastPeriod sv before height speed top low motion lie tried) s.heap.size = A at hE hD ⊢
  have hA : ∀ q : Nat, s.heap.size ≤ q → A q := fun q h => by rw [← hAe]; exact Or.inr h
  clear hAe
  have hS : va_S A s.heap s.heap [] := va_S.rf
  have hK := hE.1
  have hl := lv_entry ([.ref q0, .int x1]) (n := 5) (Nat.le_of_ble_eq_true rfl)
  rw [lg_entry_eq]
  generalize (lg_sl ([.ref q0, .int x1]) ++ List.replicate (5 - (lg_sl ([.ref q0, .int x1])).length) Slot.unset).toArray = ls at hl ⊢
  have hl : lv_has ls 5 [(0, .ref q0), (1, .int x1)] := hl
  have hi8 : ∀ w ∈ u_ws RX8 TX8 31, w ∈ wsX8_shakes := fun w h => (List.mem_cons_of_mem _ (List.mem_append_right _ h))
  obtain ⟨out, hout⟩ : ∃ o, o = (ro, o_undoMany, o_sv, o_before, o_height, o_speed, o_top, o_low, o_motion, o_lie, o_tried) := ⟨_, rfl⟩
  rw [← hout] at hf
  obtain ⟨QQ, hQQ⟩ : ∃ Q, Q = MQ below (va_Qi (fun (r' : Int32) (_ : Unit) => r' = ro) (CQ Γ (wd_X8_shakes Γ q0 q1 q2 q3 q4 q5 q6 q7 q8 q9 d0 d1 d2 d3 d4 d5 length o_undoMany zeroKept oneKept seen spot kind begin letters figures value plated driven rows periods leastPeriod o_sv o_before o_height o_speed o_top o_low o_motion o_lie o_tried) A) A) (([.ref q0, .int x1] : List Value).toArray) s 0 0 A := ⟨_, rfl⟩
  show W p l e ({ frames := 6, cells := 0, slots := 0, locals := 144 } : Room) s m (([.ref q0, .int x1] : List Value).toArray) below meth c s.heap [] 0 0 (MQ below _ (([.ref q0, .int x1] : List Value).toArray) s 0 0 A) (F0 m 0 ls [])
  rw [← hQQ]
  have K_69 : ∀ (undoMany : Int32) (sv : Nat → Int32) (before : Nat → Int32) (height : Nat → Int32) (speed : Nat → Int32) (top : Nat → Int32) (low : Nat → Int32) (motion : Nat → Int32) (lie : Nat → Int32) (tried : Nat → Int32) (x2 : Int32) {H : Heap} {locs : List Loc} {ls : Array Slot}, va_P Γ.1 vwCl (wd_X8_shakes Γ q0 q1 q2 q3 q4 q5 q6 q7 q8 q9 d0 d1 d2 d3 d4 d5 length undoMany zeroKept oneKept seen spot kind begin letters figures value plated driven rows periods leastPeriod sv before height speed top low motion lie tried) H → va_D A (wd_X8_shakes Γ q0 q1 q2 q3 q4 q5 q6 q7 q8 q9 d0 d1 d2 d3 d4 d5 length undoMany zeroKept oneKept seen spot kind begin letters figures value plated driven rows periods leastPeriod sv before height speed top low motion lie tried) → va_S A s.heap H locs → lv_has ls 5 [(2, .int x2)] → f_X8_shakes_69 undoMany sv before height speed top low motion lie tried x2 = some out → W p l e ({ frames := 6, cells := 0, slots := 0, locals := 144 } : Room) s m ([.ref q0, .int x1] : List Value).toArray below meth c H locs 0 0 QQ (F0 m 69 ls []) := by
    intro undoMany sv before height speed top low motion lie tried x2 H locs ls hP hD hS hl hf
    unfold f_X8_shakes_69 at hf
    refine lv_iload_n hx hb dX8_shakes_69 rfl (lv_at hl 0 rfl) ?_
    subst hout; obtain ⟨rfl, rfl, rfl, rfl, rfl, rfl, rfl, rfl, rfl, rfl, rfl⟩ := rt11 hf
    subst hQQ
    exact W.iret hx hb hr (fun t ht hW => ⟨⟨_, (), rfl, rfl, by rw [ht]; exact hP, hD⟩, hS.F ht⟩) hS.2.2 dX8_shakes_70
  have K_41 : ∀ (undoMany : Int32) (sv : Nat → Int32) (before : Nat → Int32) (height : Nat → Int32) (speed : Nat → Int32) (top : Nat → Int32) (low : Nat → Int32) (motion : Nat → Int32) (lie : Nat → Int32) (tried : Nat → Int32) (x2 : Int32) (x3 : Int32) {H : Heap} {locs : List Loc} {ls : Array Slot}, va_P Γ.1 vwCl (wd_X8_shakes Γ q0 q1 q2 q3 q4 q5 q6 q7 q8 q9 d0 d1 d2 d3 d4 d5 length undoMany zeroKept oneKept seen spot kind begin letters figures value plated driven rows periods leastPeriod sv before height speed top low motion lie tried) H → va_D A (wd_X8_shakes Γ q0 q1 q2 q3 q4 q5 q6 q7 q8 q9 d0 d1 d2 d3 d4 d5 length undoMany zeroKept oneKept seen spot kind begin letters figures value plated driven rows periods leastPeriod sv before height speed top low motion lie tried) → va_S A s.heap H locs → lv_has ls 5 [(0, .ref q0), (1, .int x1), (2, .int x2), (3, .int x3)] → f_X8_shakes_41 undoMany sv before height speed top low motion lie tried x1 x2 x3 = some out → W p l e ({ frames := 6, cells := 0, slots := 0, locals := 144 } : Room) s m ([.ref q0, .int x1] : List Value).toArray below meth c H locs 0 0 QQ (F0 m 41 ls []) := by
    intro undoMany sv before height speed top low motion lie tried x2 x3 H locs ls hP hD hS hl hf
    unfold f_X8_shakes_41 at hf
    obtain ⟨ex41, h1, hX41⟩ := obx_some hf
    have LP : ∀ (n : Nat) (sv : Nat → Int32) (lie : Nat → Int32) (x2 : Int32) (x3 : Int32)  {H : Heap} {locs : List Loc} {ls : Array Slot}, va_P Γ.1 vwCl (wd_X8_shakes Γ q0 q1 q2 q3 q4 q5 q6 q7 q8 q9 d0 d1 d2 d3 d4 d5 length undoMany zeroKept oneKept seen spot kind begin letters figures value plated driven rows periods leastPeriod sv before height speed top low motion lie tried) H → va_D A (wd_X8_shakes Γ q0 q1 q2 q3 q4 q5 q6 q7 q8 q9 d0 d1 d2 d3 d4 d5 length undoMany zeroKept oneKept seen spot kind begin letters figures value plated driven rows periods leastPeriod sv before height speed top low motion lie tried) → va_S A s.heap H locs → lv_has ls 5 [(0, .ref q0), (1, .int x1), (2, .int x2), (3, .int x3)] → vm_it (f_X8_shakes_41s undoMany before height speed top low motion tried x1) n (sv, lie, x2, x3) = some ex41 → W p l e ({ frames := 6, cells := 0, slots := 0, locals := 144 } : Room) s m ([.ref q0, .int x1] : List Value).toArray below meth c H locs 0 0 QQ (F0 m 41 ls []) := by
      clear hP hD hS hl hf h1
      intro n
      induction n with
      | zero => intro sv lie x2 x3 H locs ls hP hD hS hl hf; exact (vm_it_0 hf).elim
      | succ n ih =>
        intro sv lie x2 x3 H locs ls hP hD hS hl hf
        have hf : f_X8_shakes_41b undoMany before height speed top low motion tried x1 sv lie x2 x3 (vm_it (f_X8_shakes_41s undoMany before height speed top low motion tried x1) n) = some ex41 := hf
        unfold f_X8_shakes_41b at hf
        refine lv_iload_n hx hb dX8_shakes_41 rfl (lv_at hl 3 rfl) ?_
        refine lv_iload_n hx hb dX8_shakes_42 rfl (lv_at hl 1 rfl) ?_
        refine lv_icmp_ge (tgt := 69) hx hb dX8_shakes_43 (by decide) (fun hc_1 => ?_) (fun hc_1 => ?_)
        · have hf := vm_pos hc_1 hf
          have hX := hX41
          rw [← Option.some.inj hf] at hX
          exact K_69 undoMany sv before height speed top low motion lie tried x2 hP hD hS (lv_sub hl [2] rfl) hX
        · have hf := vm_neg hc_1 hf
          refine lv_aload_n hx hb dX8_shakes_46 rfl (lv_at hl 0 rfl) ?_
          refine lv_aload_n hx hb dX8_shakes_47 rfl (lv_at hl 0 rfl) ?_
          refine va_get (D := Γ.1) (ci := 8) (v := .ref q1) (C := RX8) (T := TX8) (N := 31) hx hb hts hi8 hown hK hP 0 rfl rfl 2 (by decide) (hts (.fieldLink RX8 13 "SandPlatesModel" "s" "[I") (List.mem_of_getElem? (i := 3) rfl)) (fun _ h9 => h9) rfl dX8_shakes_48 ?_
          refine lv_bipush (v := 45) hx hb dX8_shakes_51 (by decide) ?_
          obtain ⟨r_2, sv_3, lie_4, hq_5, hf⟩ := ob3_some hf
          refine vm_cVi (isC := [0, 1, 7, 8]) (wc := (wd_X8_shakesOnce_s Γ q0 q1 q7 q8 d0 d1 q2 d2 d3 d4 q3 q4 q5 q6 q9 d5 length undoMany zeroKept oneKept seen spot kind begin letters figures value plated driven rows periods leastPeriod sv motion lie)) (w1 := (wd_X8_shakesOnce_s Γ q0 q1 q7 q8 d0 d1 q2 d2 d3 d4 q3 q4 q5 q6 q9 d5 length undoMany zeroKept oneKept seen spot kind begin letters figures value plated driven rows periods leastPeriod sv_3 motion lie_4)) (As := [.ref q1, .int 45]) (rest := []) ⟨hx, hb, hml, hown, hts⟩ hE hP hD hS hA rfl rfl rfl (c_X8_shakesOnce_s l Γ _ q0 q1 q7 q8 d0 d1 q2 d2 d3 d4 q3 q4 q5 q6 q9 d5 length undoMany zeroKept oneKept seen spot kind begin letters figures value plated driven rows periods leastPeriod sv motion lie 45 r_2 sv_3 lie_4 hq_5) (cwV 2 hts gX8_shakes_X8_shakesOnce rfl rfl rfl (by decide +kernel) ⟨Nat.le_of_ble_eq_true rfl, Nat.le_of_ble_eq_true rfl⟩) (va_recv (ci := 8) (q0 := 0) hK hP rfl rfl) rfl hl.1 rfl (Nat.le_of_ble_eq_true rfl) dX8_shakes_53 ⟨Nat.zero_le _, Nat.zero_le _⟩ (fun H locs hP hD hS => ?_)
          have hP : va_P Γ.1 vwCl (wd_X8_shakes Γ q0 q1 q2 q3 q4 q5 q6 q7 q8 q9 d0 d1 d2 d3 d4 d5 length undoMany zeroKept oneKept seen spot kind begin letters figures value plated driven rows periods leastPeriod sv_3 before height speed top low motion lie_4 tried) H := hP
          have hD : va_D A (wd_X8_shakes Γ q0 q1 q2 q3 q4 q5 q6 q7 q8 q9 d0 d1 d2 d3 d4 d5 length undoMany zeroKept oneKept seen spot kind begin letters figures value plated driven rows periods leastPeriod sv_3 before height speed top low motion lie_4 tried) := hD
          refine lv_istore (lv' := [(4, .int r_2), (0, .ref q0), (1, .int x1), (2, .int x2), (3, .int x3)]) hx hb dX8_shakes_56 hl (by decide) rfl (fun ls hl => ?_)
          refine lv_iload_n hx hb dX8_shakes_58 rfl (lv_at hl 3 rfl) ?_
          refine lv_iload hx hb dX8_shakes_59 (lv_at hl 0 rfl) ?_
          refine lv_iadd hx hb dX8_shakes_61 ?_
          refine lv_istore_n (lv' := [(2, .int (x2 + r_2)), (4, .int r_2), (0, .ref q0), (1, .int x1), (3, .int x3)]) hx hb dX8_shakes_62 rfl hl (by decide) rfl (fun ls hl => ?_)
          refine lv_iinc (v := (x3 + 1)) (lv' := [(3, .int (x3 + 1)), (2, .int (x2 + r_2)), (4, .int r_2), (0, .ref q0), (1, .int x1)]) hx hb dX8_shakes_63 hl (k := 4) rfl rfl (by decide) rfl (fun ls hl => ?_)
          refine lv_goto (tgt := 41) hx hb dX8_shakes_66 (by decide) ?_
          exact ih sv_3 lie_4 (x2 + r_2) (x3 + 1) hP hD hS (lv_sub hl [3, 4, 1, 0] rfl) hf
    exact LP FU sv lie x2 x3 hP hD hS hl h1
  unfold f_X8_shakes at hf
  refine lv_iload_n hx hb dX8_shakes_0 rfl (lv_at hl 1 rfl) ?_
  refine lv_i2l hx hb dX8_shakes_1 rfl ?_
  refine lv_lconst (v := 1) hx hb dX8_shakes_2 (by decide) ?_
  refine lv_ldc2 hx hb hown (hts (.constantLong RX8 179 (20)) (List.mem_of_getElem? (i := 1) rfl)) dX8_shakes_3 ?_
  obtain ⟨r_6, hq_7, hf⟩ := ob1_some hf
  refine vm_cSi (isC := []) (wc := (wd_X8_in Γ)) (w1 := (wd_X8_in Γ)) (As := [.long ((x1).toInt64), .long 1, .long 20]) (rest := []) ⟨hx, hb, hml, hown, hts⟩ hE hP hD hS hA rfl rfl rfl (c_X8_in l Γ _ ((x1).toInt64) 1 20 r_6 hq_7) (va_cwS 3 hts gX8_shakes_X8_in rfl rfl rfl (by decide +kernel) ⟨Nat.le_of_ble_eq_true rfl, Nat.le_of_ble_eq_true rfl⟩) rfl hl.1 rfl (Nat.le_of_ble_eq_true rfl) dX8_shakes_6 ⟨Nat.zero_le _, Nat.zero_le _⟩ (fun H locs hP hD hS => ?_)
  have hP : va_P Γ.1 vwCl (wd_X8_shakes Γ q0 q1 q2 q3 q4 q5 q6 q7 q8 q9 d0 d1 d2 d3 d4 d5 length undoMany zeroKept oneKept seen spot kind begin letters figures value plated driven rows periods leastPeriod sv before height speed top low motion lie tried) H := hP
  have hD : va_D A (wd_X8_shakes Γ q0 q1 q2 q3 q4 q5 q6 q7 q8 q9 d0 d1 d2 d3 d4 d5 length undoMany zeroKept oneKept seen spot kind begin letters figures value plated driven rows periods leastPeriod sv before height speed top low motion lie tried) := hD
  refine lv_if_ne (tgt := 14) hx hb dX8_shakes_9 (by decide) (fun hc_8 => ?_) (fun hc_8 => ?_)
  · have hf := vm_neg hc_8 hf
    refine lv_aload_n hx hb dX8_shakes_14 rfl (lv_at hl 0 rfl) ?_
    obtain ⟨height_9, speed_10, top_11, low_12, motion_13, tried_14, hq_15, hf⟩ := ob6_some hf
    refine vm_cVv (isC := [0, 1, 3, 4, 5, 6, 7, 9]) (wc := (wd_X8_tries Γ q0 q1 q3 q4 q5 q6 q7 q9 d0 d1 q2 d2 d3 d4 q8 d5 length undoMany zeroKept oneKept seen spot kind begin letters figures value plated driven rows periods leastPeriod sv height speed top low motion tried)) (w1 := (wd_X8_tries Γ q0 q1 q3 q4 q5 q6 q7 q9 d0 d1 q2 d2 d3 d4 q8 d5 length undoMany zeroKept oneKept seen spot kind begin letters figures value plated driven rows periods leastPeriod sv height_9 speed_10 top_11 low_12 motion_13 tried_14)) (As := []) (rest := []) ⟨hx, hb, hml, hown, hts⟩ hE hP hD hS hA rfl rfl rfl (c_X8_tries l Γ _ q0 q1 q3 q4 q5 q6 q7 q9 d0 d1 q2 d2 d3 d4 q8 d5 length undoMany zeroKept oneKept seen spot kind begin letters figures value plated driven rows periods leastPeriod sv height speed top low motion tried height_9 speed_10 top_11 low_12 motion_13 tried_14 hq_15) (cwV 0 hts gX8_shakes_X8_tries rfl rfl rfl (by decide +kernel) ⟨Nat.le_of_ble_eq_true rfl, Nat.le_of_ble_eq_true rfl⟩) (va_recv (ci := 8) (q0 := 0) hK hP rfl rfl) rfl hl.1 rfl (Nat.le_of_ble_eq_true rfl) dX8_shakes_15 ⟨Nat.zero_le _, Nat.zero_le _⟩ (fun H locs hP hD hS => ?_)
    have hP : va_P Γ.1 vwCl (wd_X8_shakes Γ q0 q1 q2 q3 q4 q5 q6 q7 q8 q9 d0 d1 d2 d3 d4 d5 length undoMany zeroKept oneKept seen spot kind begin letters figures value plated driven rows periods leastPeriod sv before height_9 speed_10 top_11 low_12 motion_13 lie tried_14) H := hP
    have hD : va_D A (wd_X8_shakes Γ q0 q1 q2 q3 q4 q5 q6 q7 q8 q9 d0 d1 d2 d3 d4 d5 length undoMany zeroKept oneKept seen spot kind begin letters figures value plated driven rows periods leastPeriod sv before height_9 speed_10 top_11 low_12 motion_13 lie tried_14) := hD
    refine lv_aload_n hx hb dX8_shakes_18 rfl (lv_at hl 0 rfl) ?_
    refine lv_aload_n hx hb dX8_shakes_19 rfl (lv_at hl 0 rfl) ?_
    refine va_get (D := Γ.1) (ci := 8) (v := .ref q9) (C := RX8) (T := TX8) (N := 31) hx hb hts hi8 hown hK hP 0 rfl rfl 27 (by decide) (hts (.fieldLink RX8 49 "SandPlatesModel" "tried" "[I") (List.mem_of_getElem? (i := 2) rfl)) (fun _ h9 => h9) rfl dX8_shakes_20 ?_
    refine lv_iconst (v := 0) hx hb dX8_shakes_23 (by decide) ?_
    obtain ⟨r_16, lie_17, tried_18, hq_19, hf⟩ := ob3_some hf
    refine vm_cVi (isC := [0, 1, 7, 8, 9]) (wc := (wd_X8_shakesOnce_t Γ q0 q1 q7 q8 q9 d0 d1 q2 d2 d3 d4 q3 q4 q5 q6 d5 length undoMany zeroKept oneKept seen spot kind begin letters figures value plated driven rows periods leastPeriod sv motion_13 lie tried_14)) (w1 := (wd_X8_shakesOnce_t Γ q0 q1 q7 q8 q9 d0 d1 q2 d2 d3 d4 q3 q4 q5 q6 d5 length undoMany zeroKept oneKept seen spot kind begin letters figures value plated driven rows periods leastPeriod sv motion_13 lie_17 tried_18)) (As := [.ref q9, .int 0]) (rest := []) ⟨hx, hb, hml, hown, hts⟩ hE hP hD hS hA rfl rfl rfl (c_X8_shakesOnce_t l Γ _ q0 q1 q7 q8 q9 d0 d1 q2 d2 d3 d4 q3 q4 q5 q6 d5 length undoMany zeroKept oneKept seen spot kind begin letters figures value plated driven rows periods leastPeriod sv motion_13 lie tried_14 0 r_16 lie_17 tried_18 hq_19) (cwV 2 hts gX8_shakes_X8_shakesOnce rfl rfl rfl (by decide +kernel) ⟨Nat.le_of_ble_eq_true rfl, Nat.le_of_ble_eq_true rfl⟩) (va_recv (ci := 8) (q0 := 0) hK hP rfl rfl) rfl hl.1 rfl (Nat.le_of_ble_eq_true rfl) dX8_shakes_24 ⟨Nat.zero_le _, Nat.zero_le _⟩ (fun H locs hP hD hS => ?_)
    have hP : va_P Γ.1 vwCl (wd_X8_shakes Γ q0 q1 q2 q3 q4 q5 q6 q7 q8 q9 d0 d1 d2 d3 d4 d5 length undoMany zeroKept oneKept seen spot kind begin letters figures value plated driven rows periods leastPeriod sv before height_9 speed_10 top_11 low_12 motion_13 lie_17 tried_18) H := hP
    have hD : va_D A (wd_X8_shakes Γ q0 q1 q2 q3 q4 q5 q6 q7 q8 q9 d0 d1 d2 d3 d4 d5 length undoMany zeroKept oneKept seen spot kind begin letters figures value plated driven rows periods leastPeriod sv before height_9 speed_10 top_11 low_12 motion_13 lie_17 tried_18) := hD
    refine lv_if_ne (tgt := 33) hx hb dX8_shakes_27 (by decide) (fun hc_20 => ?_) (fun hc_20 => ?_)
    · have hf := vm_neg hc_20 hf
      refine lv_aload_n hx hb dX8_shakes_33 rfl (lv_at hl 0 rfl) ?_
      obtain ⟨undoMany_21, before_22, hq_23, hf⟩ := ob2_some hf
      refine vm_cVv (isC := [0, 1, 2]) (wc := (wd_X8_note Γ q0 q1 q2 d0 d1 d2 d3 d4 q3 q4 q5 q6 q7 q8 q9 d5 length undoMany zeroKept oneKept seen spot kind begin letters figures value plated driven rows periods leastPeriod sv before)) (w1 := (wd_X8_note Γ q0 q1 q2 d0 d1 d2 d3 d4 q3 q4 q5 q6 q7 q8 q9 d5 length undoMany_21 zeroKept oneKept seen spot kind begin letters figures value plated driven rows periods leastPeriod sv before_22)) (As := []) (rest := []) ⟨hx, hb, hml, hown, hts⟩ hE hP hD hS hA rfl rfl rfl (c_X8_note l Γ _ q0 q1 q2 d0 d1 d2 d3 d4 q3 q4 q5 q6 q7 q8 q9 d5 length undoMany zeroKept oneKept seen spot kind begin letters figures value plated driven rows periods leastPeriod sv before undoMany_21 before_22 hq_23) (cwV 0 hts gX8_shakes_X8_note rfl rfl rfl (by decide +kernel) ⟨Nat.le_of_ble_eq_true rfl, Nat.le_of_ble_eq_true rfl⟩) (va_recv (ci := 8) (q0 := 0) hK hP rfl rfl) rfl hl.1 rfl (Nat.le_of_ble_eq_true rfl) dX8_shakes_34 ⟨Nat.zero_le _, Nat.zero_le _⟩ (fun H locs hP hD hS => ?_)
      have hP : va_P Γ.1 vwCl (wd_X8_shakes Γ q0 q1 q2 q3 q4 q5 q6 q7 q8 q9 d0 d1 d2 d3 d4 d5 length undoMany_21 zeroKept oneKept seen spot kind begin letters figures value plated driven rows periods leastPeriod sv before_22 height_9 speed_10 top_11 low_12 motion_13 lie_17 tried_18) H := hP
      have hD : va_D A (wd_X8_shakes Γ q0 q1 q2 q3 q4 q5 q6 q7 q8 q9 d0 d1 d2 d3 d4 d5 length undoMany_21 zeroKept oneKept seen spot kind begin letters figures value plated driven rows periods leastPeriod sv before_22 height_9 speed_10 top_11 low_12 motion_13 lie_17 tried_18) := hD
      refine lv_iconst (v := 0) hx hb dX8_shakes_37 (by decide) ?_
      refine lv_istore_n (lv' := [(2, .int 0), (0, .ref q0), (1, .int x1)]) hx hb dX8_shakes_38 rfl hl (by decide) rfl (fun ls hl => ?_)
      refine lv_iconst (v := 0) hx hb dX8_shakes_39 (by decide) ?_
      refine lv_istore_n (lv' := [(3, .int 0), (2, .int 0), (0, .ref q0), (1, .int x1)]) hx hb dX8_shakes_40 rfl hl (by decide) rfl (fun ls hl => ?_)
      exact K_41 undoMany_21 sv before_22 height_9 speed_10 top_11 low_12 motion_13 lie_17 tried_18 0 0 hP hD hS (lv_sub hl [2, 3, 1, 0] rfl) hf
    · have hf := vm_pos hc_20 hf
      refine lv_bipush (v := (-2)) hx hb dX8_shakes_30 (by decide) ?_
      subst hout; obtain ⟨rfl, rfl, rfl, rfl, rfl, rfl, rfl, rfl, rfl, rfl, rfl⟩ := rt11 hf
      subst hQQ
      exact W.iret hx hb hr (fun t ht hW => ⟨⟨_, (), rfl, rfl, by rw [ht]; exact hP, hD⟩, hS.F ht⟩) hS.2.2 dX8_shakes_32
  · have hf := vm_pos hc_8 hf
    refine lv_iconst (v := (-1)) hx hb dX8_shakes_12 (by decide) ?_
    subst hout; obtain ⟨rfl, rfl, rfl, rfl, rfl, rfl, rfl, rfl, rfl, rfl, rfl⟩ := rt11 hf
    subst hQQ
    exact W.iret hx hb hr (fun t ht hW => ⟨⟨_, (), rfl, rfl, by rw [ht]; exact hP, hD⟩, hS.F ht⟩) hS.2.2 dX8_shakes_13
