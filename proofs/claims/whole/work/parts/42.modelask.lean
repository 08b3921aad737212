def wd_X8_may (Γ : GE) : va_W := []
def f_X8_may_94 (s0 : Int32) : Option Int32 := if s0 = 0 ∨ s0 = 1 then some s0 else none
def f_X8_may_93  : Option Int32 := f_X8_may_94 0
def f_X8_may_41 (x1 : Int32) : Option Int32 := ob1 (f_X8_in ((x1).toInt64) 2 20) (fun r_2 => f_X8_may_94 r_2)
def f_X8_may (x0 : Int32) (x1 : Int32) : Option Int32 := if x0 = 0 then (ob1 (f_X8_in ((x1).toInt64) 0 1) (fun r_17 => f_X8_may_94 r_17)) else (if x0 = 1 then (ob1 (f_X8_in ((x1).toInt64) 1 7) (fun r_15 => f_X8_may_94 r_15)) else (if x0 = 2 then (f_X8_may_41 x1) else (if x0 = 4 then (f_X8_may_41 x1) else (if x0 = 3 then (ob1 (f_X8_in ((x1).toInt64) 1 99) (fun r_13 => f_X8_may_94 r_13)) else (if x0 = 5 then (ob1 (f_X8_in ((x1).toInt64) 0 99) (fun r_10 => if r_10 = 0 then f_X8_may_93 else (f_X8_may_94 1))) else f_X8_may_93)))))
set_option maxHeartbeats 4000000 in
set_option maxRecDepth 100000 in
theorem c_X8_may (l : Launch) (Γ : GE) (sz : Nat) (x0 : Int32) (x1 : Int32) (ro : Int32) (hf : f_X8_may x0 x1 = some ro) : MetI l yX8_may wsX8_may ({ frames := 1, cells := 0, slots := 0, locals := 25 } : Room) Γ [.int x0, .int x1] (wd_X8_may Γ) (wd_X8_may Γ) sz ro := by
  refine Met.ofW (cc := cX8_may) (maxL := 2) (ret := (some .boolean)) (by decide) rfl ?_
  intro p e s m args below meth c s₁ B hml hv
  obtain ⟨rfl, hsz, hE, hP, hD⟩ := hv
  have hx := B.exec
  have hb := B.bytes
  have hr := B.returns
  have hts := atoms_spec (ws := wsX8_may) B.pre
  have hown : s.vm.findClass RX8 = some m.cls := findClass_of_methodNamed B.named
  have hlocks := B.notSynchronized
  subst hsz
  generalize hAe : va_A (wd_X8_may Γ) s.heap.size = A at hE hD ⊢
  have hA : ∀ q : Nat, s.heap.size ≤ q → A q := fun q h => by rw [← hAe]; exact Or.inr h
  clear hAe
  have hS : va_S A s.heap s.heap [] := va_S.rf
  have hK := hE.1
  have hl := lv_entry ([.int x0, .int x1]) (n := 2) (Nat.le_of_ble_eq_true rfl)
  rw [lg_entry_eq]
  generalize (lg_sl ([.int x0, .int x1]) ++ List.replicate (2 - (lg_sl ([.int x0, .int x1])).length) Slot.unset).toArray = ls at hl ⊢
  have hl : lv_has ls 2 [(0, .int x0), (1, .int x1)] := hl
  obtain ⟨out, hout⟩ : ∃ o, o = ro := ⟨_, rfl⟩
  rw [← hout] at hf
  obtain ⟨QQ, hQQ⟩ : ∃ Q, Q = MQ below (va_Qi (fun (r' : Int32) (_ : Unit) => r' = ro) (CQ Γ (wd_X8_may Γ) A) A) (([.int x0, .int x1] : List Value).toArray) s 0 0 A := ⟨_, rfl⟩
  show W p l e ({ frames := 1, cells := 0, slots := 0, locals := 25 } : Room) s m (([.int x0, .int x1] : List Value).toArray) below meth c s.heap [] 0 0 (MQ below _ (([.int x0, .int x1] : List Value).toArray) s 0 0 A) (F0 m 0 ls [])
  rw [← hQQ]
  have K_94 : ∀ (s0 : Int32) {H : Heap} {locs : List Loc} {ls : Array Slot}, va_P Γ.1 vwCl (wd_X8_may Γ) H → va_D A (wd_X8_may Γ) → va_S A s.heap H locs → lv_has ls 2 [] → f_X8_may_94 s0 = some out → W p l e ({ frames := 1, cells := 0, slots := 0, locals := 25 } : Room) s m ([.int x0, .int x1] : List Value).toArray below meth c H locs 0 0 QQ (F0 m 94 ls [.int s0]) := by
    intro s0 H locs ls hP hD hS hl hf
    unfold f_X8_may_94 at hf
    obtain ⟨hc_1, hf⟩ := vm_ck hf
    subst hout; obtain rfl := Option.some.inj hf
    subst hQQ
    exact W.zret hx hb hr (vm_nz hc_1) (fun t ht hW => ⟨⟨_, (), rfl, rfl, by rw [ht]; exact hP, hD⟩, hS.F ht⟩) hS.2.2 dX8_may_94
  have K_93 : ∀ {H : Heap} {locs : List Loc} {ls : Array Slot}, va_P Γ.1 vwCl (wd_X8_may Γ) H → va_D A (wd_X8_may Γ) → va_S A s.heap H locs → lv_has ls 2 [] → f_X8_may_93 = some out → W p l e ({ frames := 1, cells := 0, slots := 0, locals := 25 } : Room) s m ([.int x0, .int x1] : List Value).toArray below meth c H locs 0 0 QQ (F0 m 93 ls []) := by
    intro H locs ls hP hD hS hl hf
    unfold f_X8_may_93 at hf
    refine lv_iconst (v := 0) hx hb dX8_may_93 (by decide) ?_
    exact K_94 0 hP hD hS (lv_sub hl [] rfl) hf
  have K_41 : ∀ {H : Heap} {locs : List Loc} {ls : Array Slot}, va_P Γ.1 vwCl (wd_X8_may Γ) H → va_D A (wd_X8_may Γ) → va_S A s.heap H locs → lv_has ls 2 [(1, .int x1)] → f_X8_may_41 x1 = some out → W p l e ({ frames := 1, cells := 0, slots := 0, locals := 25 } : Room) s m ([.int x0, .int x1] : List Value).toArray below meth c H locs 0 0 QQ (F0 m 41 ls []) := by
    intro H locs ls hP hD hS hl hf
    unfold f_X8_may_41 at hf
    refine lv_iload_n hx hb dX8_may_41 rfl (lv_at hl 0 rfl) ?_
    refine lv_i2l hx hb dX8_may_42 rfl ?_
    refine lv_ldc2 hx hb hown (hts (.constantLong RX8 190 (2)) (List.mem_of_getElem? (i := 2) rfl)) dX8_may_43 ?_
    refine lv_ldc2 hx hb hown (hts (.constantLong RX8 179 (20)) (List.mem_of_getElem? (i := 3) rfl)) dX8_may_46 ?_
    obtain ⟨r_2, hq_3, hf⟩ := ob1_some hf
    refine vm_cSi (isC := []) (wc := (wd_X8_in Γ)) (w1 := (wd_X8_in Γ)) (As := [.long ((x1).toInt64), .long 2, .long 20]) (rest := []) ⟨hx, hb, hml, hown, hts⟩ hE hP hD hS hA rfl rfl rfl (c_X8_in l Γ _ ((x1).toInt64) 2 20 r_2 hq_3) (va_cwS 3 hts gX8_may_X8_in rfl rfl rfl (by decide +kernel) ⟨Nat.le_of_ble_eq_true rfl, Nat.le_of_ble_eq_true rfl⟩) rfl hl.1 rfl (Nat.le_of_ble_eq_true rfl) dX8_may_49 ⟨Nat.zero_le _, Nat.zero_le _⟩ (fun H locs hP hD hS => ?_)
    have hP : va_P Γ.1 vwCl (wd_X8_may Γ) H := hP
    have hD : va_D A (wd_X8_may Γ) := hD
    refine lv_goto (tgt := 94) hx hb dX8_may_52 (by decide) ?_
    exact K_94 r_2 hP hD hS (lv_sub hl [] rfl) hf
  unfold f_X8_may at hf
  refine lv_iload_n hx hb dX8_may_0 rfl (lv_at hl 0 rfl) ?_
  refine lv_if_ne (tgt := 14) hx hb dX8_may_1 (by decide) (fun hc_4 => ?_) (fun hc_4 => ?_)
  · have hf := vm_neg hc_4 hf
    refine lv_iload_n hx hb dX8_may_14 rfl (lv_at hl 0 rfl) ?_
    refine lv_iconst (v := 1) hx hb dX8_may_15 (by decide) ?_
    refine lv_icmp_ne (tgt := 31) hx hb dX8_may_16 (by decide) (fun hc_5 => ?_) (fun hc_5 => ?_)
    · have hf := vm_neg hc_5 hf
      refine lv_iload_n hx hb dX8_may_31 rfl (lv_at hl 0 rfl) ?_
      refine lv_iconst (v := 2) hx hb dX8_may_32 (by decide) ?_
      refine lv_icmp_eq (tgt := 41) hx hb dX8_may_33 (by decide) (fun hc_6 => ?_) (fun hc_6 => ?_)
      · have hf := vm_pos hc_6 hf
        exact K_41  hP hD hS (lv_sub hl [1] rfl) hf
      · have hf := vm_neg hc_6 hf
        refine lv_iload_n hx hb dX8_may_36 rfl (lv_at hl 0 rfl) ?_
        refine lv_iconst (v := 4) hx hb dX8_may_37 (by decide) ?_
        refine lv_icmp_ne (tgt := 55) hx hb dX8_may_38 (by decide) (fun hc_7 => ?_) (fun hc_7 => ?_)
        · have hf := vm_neg hc_7 hf
          refine lv_iload_n hx hb dX8_may_55 rfl (lv_at hl 0 rfl) ?_
          refine lv_iconst (v := 3) hx hb dX8_may_56 (by decide) ?_
          refine lv_icmp_ne (tgt := 72) hx hb dX8_may_57 (by decide) (fun hc_8 => ?_) (fun hc_8 => ?_)
          · have hf := vm_neg hc_8 hf
            refine lv_iload_n hx hb dX8_may_72 rfl (lv_at hl 0 rfl) ?_
            refine lv_iconst (v := 5) hx hb dX8_may_73 (by decide) ?_
            refine lv_icmp_ne (tgt := 93) hx hb dX8_may_74 (by decide) (fun hc_9 => ?_) (fun hc_9 => ?_)
            · have hf := vm_neg hc_9 hf
              exact K_93  hP hD hS (lv_sub hl [] rfl) hf
            · have hf := vm_pos hc_9 hf
              refine lv_iload_n hx hb dX8_may_77 rfl (lv_at hl 1 rfl) ?_
              refine lv_i2l hx hb dX8_may_78 rfl ?_
              refine lv_lconst (v := 0) hx hb dX8_may_79 (by decide) ?_
              refine lv_ldc2 hx hb hown (hts (.constantLong RX8 192 (99)) (List.mem_of_getElem? (i := 4) rfl)) dX8_may_80 ?_
              obtain ⟨r_10, hq_11, hf⟩ := ob1_some hf
              refine vm_cSi (isC := []) (wc := (wd_X8_in Γ)) (w1 := (wd_X8_in Γ)) (As := [.long ((x1).toInt64), .long 0, .long 99]) (rest := []) ⟨hx, hb, hml, hown, hts⟩ hE hP hD hS hA rfl rfl rfl (c_X8_in l Γ _ ((x1).toInt64) 0 99 r_10 hq_11) (va_cwS 3 hts gX8_may_X8_in rfl rfl rfl (by decide +kernel) ⟨Nat.le_of_ble_eq_true rfl, Nat.le_of_ble_eq_true rfl⟩) rfl hl.1 rfl (Nat.le_of_ble_eq_true rfl) dX8_may_83 ⟨Nat.zero_le _, Nat.zero_le _⟩ (fun H locs hP hD hS => ?_)
              have hP : va_P Γ.1 vwCl (wd_X8_may Γ) H := hP
              have hD : va_D A (wd_X8_may Γ) := hD
              refine lv_if_eq (tgt := 93) hx hb dX8_may_86 (by decide) (fun hc_12 => ?_) (fun hc_12 => ?_)
              · have hf := vm_pos hc_12 hf
                exact K_93  hP hD hS (lv_sub hl [] rfl) hf
              · have hf := vm_neg hc_12 hf
                refine lv_iconst (v := 1) hx hb dX8_may_89 (by decide) ?_
                refine lv_goto (tgt := 94) hx hb dX8_may_90 (by decide) ?_
                exact K_94 1 hP hD hS (lv_sub hl [] rfl) hf
          · have hf := vm_pos hc_8 hf
            refine lv_iload_n hx hb dX8_may_60 rfl (lv_at hl 1 rfl) ?_
            refine lv_i2l hx hb dX8_may_61 rfl ?_
            refine lv_lconst (v := 1) hx hb dX8_may_62 (by decide) ?_
            refine lv_ldc2 hx hb hown (hts (.constantLong RX8 192 (99)) (List.mem_of_getElem? (i := 4) rfl)) dX8_may_63 ?_
            obtain ⟨r_13, hq_14, hf⟩ := ob1_some hf
            refine vm_cSi (isC := []) (wc := (wd_X8_in Γ)) (w1 := (wd_X8_in Γ)) (As := [.long ((x1).toInt64), .long 1, .long 99]) (rest := []) ⟨hx, hb, hml, hown, hts⟩ hE hP hD hS hA rfl rfl rfl (c_X8_in l Γ _ ((x1).toInt64) 1 99 r_13 hq_14) (va_cwS 3 hts gX8_may_X8_in rfl rfl rfl (by decide +kernel) ⟨Nat.le_of_ble_eq_true rfl, Nat.le_of_ble_eq_true rfl⟩) rfl hl.1 rfl (Nat.le_of_ble_eq_true rfl) dX8_may_66 ⟨Nat.zero_le _, Nat.zero_le _⟩ (fun H locs hP hD hS => ?_)
            have hP : va_P Γ.1 vwCl (wd_X8_may Γ) H := hP
            have hD : va_D A (wd_X8_may Γ) := hD
            refine lv_goto (tgt := 94) hx hb dX8_may_69 (by decide) ?_
            exact K_94 r_13 hP hD hS (lv_sub hl [] rfl) hf
        · have hf := vm_pos hc_7 hf
          exact K_41  hP hD hS (lv_sub hl [1] rfl) hf
    · have hf := vm_pos hc_5 hf
      refine lv_iload_n hx hb dX8_may_19 rfl (lv_at hl 1 rfl) ?_
      refine lv_i2l hx hb dX8_may_20 rfl ?_
      refine lv_lconst (v := 1) hx hb dX8_may_21 (by decide) ?_
      refine lv_ldc2 hx hb hown (hts (.constantLong RX8 188 (7)) (List.mem_of_getElem? (i := 1) rfl)) dX8_may_22 ?_
      obtain ⟨r_15, hq_16, hf⟩ := ob1_some hf
      refine vm_cSi (isC := []) (wc := (wd_X8_in Γ)) (w1 := (wd_X8_in Γ)) (As := [.long ((x1).toInt64), .long 1, .long 7]) (rest := []) ⟨hx, hb, hml, hown, hts⟩ hE hP hD hS hA rfl rfl rfl (c_X8_in l Γ _ ((x1).toInt64) 1 7 r_15 hq_16) (va_cwS 3 hts gX8_may_X8_in rfl rfl rfl (by decide +kernel) ⟨Nat.le_of_ble_eq_true rfl, Nat.le_of_ble_eq_true rfl⟩) rfl hl.1 rfl (Nat.le_of_ble_eq_true rfl) dX8_may_25 ⟨Nat.zero_le _, Nat.zero_le _⟩ (fun H locs hP hD hS => ?_)
      have hP : va_P Γ.1 vwCl (wd_X8_may Γ) H := hP
      have hD : va_D A (wd_X8_may Γ) := hD
      refine lv_goto (tgt := 94) hx hb dX8_may_28 (by decide) ?_
      exact K_94 r_15 hP hD hS (lv_sub hl [] rfl) hf
  · have hf := vm_pos hc_4 hf
    refine lv_iload_n hx hb dX8_may_4 rfl (lv_at hl 1 rfl) ?_
    refine lv_i2l hx hb dX8_may_5 rfl ?_
    refine lv_lconst (v := 0) hx hb dX8_may_6 (by decide) ?_
    refine lv_lconst (v := 1) hx hb dX8_may_7 (by decide) ?_
    obtain ⟨r_17, hq_18, hf⟩ := ob1_some hf
    refine vm_cSi (isC := []) (wc := (wd_X8_in Γ)) (w1 := (wd_X8_in Γ)) (As := [.long ((x1).toInt64), .long 0, .long 1]) (rest := []) ⟨hx, hb, hml, hown, hts⟩ hE hP hD hS hA rfl rfl rfl (c_X8_in l Γ _ ((x1).toInt64) 0 1 r_17 hq_18) (va_cwS 3 hts gX8_may_X8_in rfl rfl rfl (by decide +kernel) ⟨Nat.le_of_ble_eq_true rfl, Nat.le_of_ble_eq_true rfl⟩) rfl hl.1 rfl (Nat.le_of_ble_eq_true rfl) dX8_may_8 ⟨Nat.zero_le _, Nat.zero_le _⟩ (fun H locs hP hD hS => ?_)
    have hP : va_P Γ.1 vwCl (wd_X8_may Γ) H := hP
    have hD : va_D A (wd_X8_may Γ) := hD
    refine lv_goto (tgt := 94) hx hb dX8_may_11 (by decide) ?_
    exact K_94 r_17 hP hD hS (lv_sub hl [] rfl) hf
def wd_X8_becomes (Γ : GE) (q0 q1 q2 d0 d1 d2 d3 d4 d5 d6 d7 d8 d9 d10 d11 d12 : Nat) (length : Int32) (undoMany : Int32) (zeroKept : Int32) (oneKept : Int32) (seen : Int32) (spot : Int32) (kind : Int32) (begin : Int32) (letters : Int64) (figures : Int32) (value : Int32) (plated : Int32) (driven : Int32) (rows : Int32) (periods : Int32) (leastPeriod : Int32) (sv : Nat → Int32) (before : Nat → Int32) : va_W := [(q0, .inr (8, [.int length, .ref d0, .ref q1, .ref d1, .ref q2, .int undoMany, .ref d2, .int zeroKept, .int oneKept, .ref d3, .ref d4, .int seen, .int spot, .int kind, .int begin, .long letters, .int figures, .int value, .int plated, .int driven, .int rows, .ref d5, .ref d6, .ref d7, .ref d8, .ref d9, .ref d10, .ref d11, .ref d12, .int periods, .int leastPeriod])), (q1, .inl (Γ.2.1 0, 81, .inl sv)), (q2, .inl (Γ.2.1 0, 486, .inl before))]
def f_X8_becomes (undoMany : Int32) (sv : Nat → Int32) (before : Nat → Int32) (x1 : Int32) (x2 : Int32) : Option (Int32 × Int32 × (Nat → Int32) × (Nat → Int32)) := if inb x1 81 = true then if (sv (x1.toNatClampNeg)) = x2 then (some ((-2), undoMany, sv, before)) else (ob2 (f_X8_note undoMany sv before) (fun undoMany_3 before_4 => if inb x1 81 = true then some ((sv (x1.toNatClampNeg)), undoMany_3, (upd sv (x1.toNatClampNeg) x2), before_4) else none)) else none
set_option maxHeartbeats 4000000 in
set_option maxRecDepth 100000 in
theorem c_X8_becomes (l : Launch) (Γ : GE) (sz : Nat) (q0 q1 q2 d0 d1 d2 d3 d4 d5 d6 d7 d8 d9 d10 d11 d12 : Nat) (length : Int32) (undoMany : Int32) (zeroKept : Int32) (oneKept : Int32) (seen : Int32) (spot : Int32) (kind : Int32) (begin : Int32) (letters : Int64) (figures : Int32) (value : Int32) (plated : Int32) (driven : Int32) (rows : Int32) (periods : Int32) (leastPeriod : Int32) (sv : Nat → Int32) (before : Nat → Int32) (x1 : Int32) (x2 : Int32) (ro : Int32) (o_undoMany : Int32) (o_sv : Nat → Int32) (o_before : Nat → Int32) (hf : f_X8_becomes undoMany sv before x1 x2 = some (ro, o_undoMany, o_sv, o_before)) : MetI l yX8_becomes wsX8_becomes ({ frames := 1, cells := 0, slots := 0, locals := 21 } : Room) Γ [.ref q0, .int x1, .int x2] (wd_X8_becomes Γ q0 q1 q2 d0 d1 d2 d3 d4 d5 d6 d7 d8 d9 d10 d11 d12 length undoMany zeroKept oneKept seen spot kind begin letters figures value plated driven rows periods leastPeriod sv before) (wd_X8_becomes Γ q0 q1 q2 d0 d1 d2 d3 d4 d5 d6 d7 d8 d9 d10 d11 d12 length o_undoMany zeroKept oneKept seen spot kind begin letters figures value plated driven rows periods leastPeriod o_sv o_before) sz ro := by
  refine Met.ofW (cc := cX8_becomes) (maxL := 4) (ret := (some .int)) (by decide) rfl ?_
  intro p e s m args below meth c s₁ B hml hv
  obtain ⟨rfl, hsz, hE, hP, hD⟩ := hv
  have hx := B.exec
  have hb := B.bytes
  have hr := B.returns
  have hts := atoms_spec (ws := wsX8_becomes) B.pre
  have hown : s.vm.findClass RX8 = some m.cls := findClass_of_methodNamed B.named
  have hlocks := B.notSynchronized
  subst hsz
  generalize hAe : va_A (wd_X8_becomes Γ q0 q1 q2 d0 d1 d2 d3 d4 d5 d6 d7 d8 d9 d10 d11 d12 length undoMany zeroKept oneKept seen spot kind begin letters figures value plated driven rows periods leastPeriod sv before) s.heap.size = A at hE hD ⊢
  have hA : ∀ q : Nat, s.heap.size ≤ q → A q := fun q h => by rw [← hAe]; exact Or.inr h
  clear hAe
  have hS : va_S A s.heap s.heap [] := va_S.rf
  have hK := hE.1
  have hl := lv_entry ([.ref q0, .int x1, .int x2]) (n := 4) (Nat.le_of_ble_eq_true rfl)
  rw [lg_entry_eq]
  generalize (lg_sl ([.ref q0, .int x1, .int x2]) ++ List.replicate (4 - (lg_sl ([.ref q0, .int x1, .int x2])).length) Slot.unset).toArray = ls at hl ⊢
  have hl : lv_has ls 4 [(0, .ref q0), (1, .int x1), (2, .int x2)] := hl
  have hi8 : ∀ w ∈ u_ws RX8 TX8 31, w ∈ wsX8_becomes := fun w h => (List.mem_cons_of_mem _ (List.mem_append_right _ h))
  obtain ⟨out, hout⟩ : ∃ o, o = (ro, o_undoMany, o_sv, o_before) := ⟨_, rfl⟩
  rw [← hout] at hf
  obtain ⟨QQ, hQQ⟩ : ∃ Q, Q = MQ below (va_Qi (fun (r' : Int32) (_ : Unit) => r' = ro) (CQ Γ (wd_X8_becomes Γ q0 q1 q2 d0 d1 d2 d3 d4 d5 d6 d7 d8 d9 d10 d11 d12 length o_undoMany zeroKept oneKept seen spot kind begin letters figures value plated driven rows periods leastPeriod o_sv o_before) A) A) (([.ref q0, .int x1, .int x2] : List Value).toArray) s 0 0 A := ⟨_, rfl⟩
  show W p l e ({ frames := 1, cells := 0, slots := 0, locals := 21 } : Room) s m (([.ref q0, .int x1, .int x2] : List Value).toArray) below meth c s.heap [] 0 0 (MQ below _ (([.ref q0, .int x1, .int x2] : List Value).toArray) s 0 0 A) (F0 m 0 ls [])
  rw [← hQQ]
  unfold f_X8_becomes at hf
  refine lv_aload_n hx hb dX8_becomes_0 rfl (lv_at hl 0 rfl) ?_
  refine va_get (D := Γ.1) (ci := 8) (v := .ref q1) (C := RX8) (T := TX8) (N := 31) hx hb hts hi8 hown hK hP 0 rfl rfl 2 (by decide) (hts (.fieldLink RX8 13 "SandPlatesModel" "s" "[I") (List.mem_of_getElem? (i := 1) rfl)) (fun _ h9 => h9) rfl dX8_becomes_1 ?_
  refine lv_iload_n hx hb dX8_becomes_4 rfl (lv_at hl 1 rfl) ?_
  obtain ⟨hc_1, hf⟩ := vm_ck hf
  refine vm_iald hx hb hK hP 1 0 rfl rfl hc_1 (j := x1.toNatClampNeg) rfl dX8_becomes_5 ?_
  refine lv_istore_n (lv' := [(3, .int (sv (x1.toNatClampNeg))), (0, .ref q0), (1, .int x1), (2, .int x2)]) hx hb dX8_becomes_6 rfl hl (by decide) rfl (fun ls hl => ?_)
  refine lv_iload_n hx hb dX8_becomes_7 rfl (lv_at hl 0 rfl) ?_
  refine lv_iload_n hx hb dX8_becomes_8 rfl (lv_at hl 3 rfl) ?_
  refine lv_icmp_ne (tgt := 15) hx hb dX8_becomes_9 (by decide) (fun hc_2 => ?_) (fun hc_2 => ?_)
  · have hf := vm_neg hc_2 hf
    refine lv_aload_n hx hb dX8_becomes_15 rfl (lv_at hl 1 rfl) ?_
    obtain ⟨undoMany_3, before_4, hq_5, hf⟩ := ob2_some hf
    refine vm_cVv (isC := [0, 1, 2]) (wc := (wd_X8_note Γ q0 q1 q2 d0 d1 d2 d3 d4 d5 d6 d7 d8 d9 d10 d11 d12 length undoMany zeroKept oneKept seen spot kind begin letters figures value plated driven rows periods leastPeriod sv before)) (w1 := (wd_X8_note Γ q0 q1 q2 d0 d1 d2 d3 d4 d5 d6 d7 d8 d9 d10 d11 d12 length undoMany_3 zeroKept oneKept seen spot kind begin letters figures value plated driven rows periods leastPeriod sv before_4)) (As := []) (rest := []) ⟨hx, hb, hml, hown, hts⟩ hE hP hD hS hA rfl rfl rfl (c_X8_note l Γ _ q0 q1 q2 d0 d1 d2 d3 d4 d5 d6 d7 d8 d9 d10 d11 d12 length undoMany zeroKept oneKept seen spot kind begin letters figures value plated driven rows periods leastPeriod sv before undoMany_3 before_4 hq_5) (cwV 0 hts gX8_becomes_X8_note rfl rfl rfl (by decide +kernel) ⟨Nat.le_of_ble_eq_true rfl, Nat.le_of_ble_eq_true rfl⟩) (va_recv (ci := 8) (q0 := 0) hK hP rfl rfl) rfl hl.1 rfl (Nat.le_of_ble_eq_true rfl) dX8_becomes_16 ⟨Nat.zero_le _, Nat.zero_le _⟩ (fun H locs hP hD hS => ?_)
    have hP : va_P Γ.1 vwCl (wd_X8_becomes Γ q0 q1 q2 d0 d1 d2 d3 d4 d5 d6 d7 d8 d9 d10 d11 d12 length undoMany_3 zeroKept oneKept seen spot kind begin letters figures value plated driven rows periods leastPeriod sv before_4) H := hP
    have hD : va_D A (wd_X8_becomes Γ q0 q1 q2 d0 d1 d2 d3 d4 d5 d6 d7 d8 d9 d10 d11 d12 length undoMany_3 zeroKept oneKept seen spot kind begin letters figures value plated driven rows periods leastPeriod sv before_4) := hD
    refine lv_aload_n hx hb dX8_becomes_19 rfl (lv_at hl 1 rfl) ?_
    refine va_get (D := Γ.1) (ci := 8) (v := .ref q1) (C := RX8) (T := TX8) (N := 31) hx hb hts hi8 hown hK hP 0 rfl rfl 2 (by decide) (hts (.fieldLink RX8 13 "SandPlatesModel" "s" "[I") (List.mem_of_getElem? (i := 1) rfl)) (fun _ h9 => h9) rfl dX8_becomes_20 ?_
    refine lv_iload_n hx hb dX8_becomes_23 rfl (lv_at hl 2 rfl) ?_
    refine lv_iload_n hx hb dX8_becomes_24 rfl (lv_at hl 3 rfl) ?_
    obtain ⟨hc_6, hf⟩ := vm_ck hf
    refine vm_iast hx hb hK hP hD hS 1 0 rfl rfl hc_6 (j := (x1.toNatClampNeg)) rfl dX8_becomes_25 (fun H locs hP hD hS => ?_)
    have hP : va_P Γ.1 vwCl (wd_X8_becomes Γ q0 q1 q2 d0 d1 d2 d3 d4 d5 d6 d7 d8 d9 d10 d11 d12 length undoMany_3 zeroKept oneKept seen spot kind begin letters figures value plated driven rows periods leastPeriod (upd sv (x1.toNatClampNeg) x2) before_4) H := hP
    have hD : va_D A (wd_X8_becomes Γ q0 q1 q2 d0 d1 d2 d3 d4 d5 d6 d7 d8 d9 d10 d11 d12 length undoMany_3 zeroKept oneKept seen spot kind begin letters figures value plated driven rows periods leastPeriod (upd sv (x1.toNatClampNeg) x2) before_4) := hD
    refine lv_iload_n hx hb dX8_becomes_26 rfl (lv_at hl 0 rfl) ?_
    subst hout; obtain ⟨rfl, rfl, rfl, rfl⟩ := rt4 hf
    subst hQQ
    exact W.iret hx hb hr (fun t ht hW => ⟨⟨_, (), rfl, rfl, by rw [ht]; exact hP, hD⟩, hS.F ht⟩) hS.2.2 dX8_becomes_27
  · have hf := vm_pos hc_2 hf
    refine lv_bipush (v := (-2)) hx hb dX8_becomes_12 (by decide) ?_
    subst hout; obtain ⟨rfl, rfl, rfl, rfl⟩ := rt4 hf
    subst hQQ
    exact W.iret hx hb hr (fun t ht hW => ⟨⟨_, (), rfl, rfl, by rw [ht]; exact hP, hD⟩, hS.F ht⟩) hS.2.2 dX8_becomes_14
def wd_X8_sets (Γ : GE) (q0 q1 q2 d0 d1 d2 d3 d4 d5 d6 d7 d8 d9 d10 d11 d12 : Nat) (length : Int32) (undoMany : Int32) (zeroKept : Int32) (oneKept : Int32) (seen : Int32) (spot : Int32) (kind : Int32) (begin : Int32) (letters : Int64) (figures : Int32) (value : Int32) (plated : Int32) (driven : Int32) (rows : Int32) (periods : Int32) (leastPeriod : Int32) (sv : Nat → Int32) (before : Nat → Int32) : va_W := [(q0, .inr (8, [.int length, .ref d0, .ref q1, .ref d1, .ref q2, .int undoMany, .ref d2, .int zeroKept, .int oneKept, .ref d3, .ref d4, .int seen, .int spot, .int kind, .int begin, .long letters, .int figures, .int value, .int plated, .int driven, .int rows, .ref d5, .ref d6, .ref d7, .ref d8, .ref d9, .ref d10, .ref d11, .ref d12, .int periods, .int leastPeriod])), (q1, .inl (Γ.2.1 0, 81, .inl sv)), (q2, .inl (Γ.2.1 0, 486, .inl before))]
def f_X8_sets_32 (undoMany : Int32) (sv : Nat → Int32) (before : Nat → Int32) (s0 : Int32) : Option (Int32 × Int32 × (Nat → Int32) × (Nat → Int32)) := some (s0, undoMany, sv, before)
def f_X8_sets_31 (undoMany : Int32) (sv : Nat → Int32) (before : Nat → Int32) : Option (Int32 × Int32 × (Nat → Int32) × (Nat → Int32)) := f_X8_sets_32 undoMany sv before (-1)
def f_X8_sets (undoMany : Int32) (sv : Nat → Int32) (before : Nat → Int32) (x1 : Int32) (x2 : Int32) : Option (Int32 × Int32 × (Nat → Int32) × (Nat → Int32)) := ob1 (f_X8_in ((x1).toInt64) 0 5) (fun r_1 => if r_1 = 0 then (f_X8_sets_31 undoMany sv before) else (ob1 (f_X8_may x1 x2) (fun r_4 => if r_4 = 0 then (f_X8_sets_31 undoMany sv before) else (ob4 (f_X8_becomes undoMany sv before (2 + x1) x2) (fun r_7 undoMany_8 sv_9 before_10 => f_X8_sets_32 undoMany_8 sv_9 before_10 r_7)))))
set_option maxHeartbeats 4000000 in
set_option maxRecDepth 100000 in
theorem c_X8_sets (l : Launch) (Γ : GE) (sz : Nat) (q0 q1 q2 d0 d1 d2 d3 d4 d5 d6 d7 d8 d9 d10 d11 d12 : Nat) (length : Int32) (undoMany : Int32) (zeroKept : Int32) (oneKept : Int32) (seen : Int32) (spot : Int32) (kind : Int32) (begin : Int32) (letters : Int64) (figures : Int32) (value : Int32) (plated : Int32) (driven : Int32) (rows : Int32) (periods : Int32) (leastPeriod : Int32) (sv : Nat → Int32) (before : Nat → Int32) (x1 : Int32) (x2 : Int32) (ro : Int32) (o_undoMany : Int32) (o_sv : Nat → Int32) (o_before : Nat → Int32) (hf : f_X8_sets undoMany sv before x1 x2 = some (ro, o_undoMany, o_sv, o_before)) : MetI l yX8_sets wsX8_sets ({ frames := 2, cells := 0, slots := 0, locals := 46 } : Room) Γ [.ref q0, .int x1, .int x2] (wd_X8_sets Γ q0 q1 q2 d0 d1 d2 d3 d4 d5 d6 d7 d8 d9 d10 d11 d12 length undoMany zeroKept oneKept seen spot kind begin letters figures value plated driven rows periods leastPeriod sv before) (wd_X8_sets Γ q0 q1 q2 d0 d1 d2 d3 d4 d5 d6 d7 d8 d9 d10 d11 d12 length o_undoMany zeroKept oneKept seen spot kind begin letters figures value plated driven rows periods leastPeriod o_sv o_before) sz ro := by
  refine Met.ofW (cc := cX8_sets) (maxL := 3) (ret := (some .int)) (by decide) rfl ?_
  intro p e s m args below meth c s₁ B hml hv
  obtain ⟨rfl, hsz, hE, hP, hD⟩ := hv
  have hx := B.exec
  have hb := B.bytes
  have hr := B.returns
  have hts := atoms_spec (ws := wsX8_sets) B.pre
  have hown : s.vm.findClass RX8 = some m.cls := findClass_of_methodNamed B.named
  have hlocks := B.notSynchronized
  subst hsz
  generalize hAe : va_A (wd_X8_sets Γ q0 q1 q2 d0 d1 d2 d3 d4 d5 d6 d7 d8 d9 d10 d11 d12 length undoMany zeroKept oneKept seen spot kind begin letters figures value plated driven rows periods leastPeriod sv before) s.heap.size = A at hE hD ⊢
  have hA : ∀ q : Nat, s.heap.size ≤ q → A q := fun q h => by rw [← hAe]; exact Or.inr h
  clear hAe
  have hS : va_S A s.heap s.heap [] := va_S.rf
  have hK := hE.1
  have hl := lv_entry ([.ref q0, .int x1, .int x2]) (n := 3) (Nat.le_of_ble_eq_true rfl)
  rw [lg_entry_eq]
  generalize (lg_sl ([.ref q0, .int x1, .int x2]) ++ List.replicate (3 - (lg_sl ([.ref q0, .int x1, .int x2])).length) Slot.unset).toArray = ls at hl ⊢
  have hl : lv_has ls 3 [(0, .ref q0), (1, .int x1), (2, .int x2)] := hl
  have hi8 : ∀ w ∈ u_ws RX8 TX8 31, w ∈ wsX8_sets := fun w h => (List.mem_cons_of_mem _ (List.mem_append_right _ h))
  obtain ⟨out, hout⟩ : ∃ o, o = (ro, o_undoMany, o_sv, o_before) := ⟨_, rfl⟩
  rw [← hout] at hf
  obtain ⟨QQ, hQQ⟩ : ∃ Q, Q = MQ below (va_Qi (fun (r' : Int32) (_ : Unit) => r' = ro) (CQ Γ (wd_X8_sets Γ q0 q1 q2 d0 d1 d2 d3 d4 d5 d6 d7 d8 d9 d10 d11 d12 length o_undoMany zeroKept oneKept seen spot kind begin letters figures value plated driven rows periods leastPeriod o_sv o_before) A) A) (([.ref q0, .int x1, .int x2] : List Value).toArray) s 0 0 A := ⟨_, rfl⟩
  show W p l e ({ frames := 2, cells := 0, slots := 0, locals := 46 } : Room) s m (([.ref q0, .int x1, .int x2] : List Value).toArray) below meth c s.heap [] 0 0 (MQ below _ (([.ref q0, .int x1, .int x2] : List Value).toArray) s 0 0 A) (F0 m 0 ls [])
  rw [← hQQ]
  have K_32 : ∀ (undoMany : Int32) (sv : Nat → Int32) (before : Nat → Int32) (s0 : Int32) {H : Heap} {locs : List Loc} {ls : Array Slot}, va_P Γ.1 vwCl (wd_X8_sets Γ q0 q1 q2 d0 d1 d2 d3 d4 d5 d6 d7 d8 d9 d10 d11 d12 length undoMany zeroKept oneKept seen spot kind begin letters figures value plated driven rows periods leastPeriod sv before) H → va_D A (wd_X8_sets Γ q0 q1 q2 d0 d1 d2 d3 d4 d5 d6 d7 d8 d9 d10 d11 d12 length undoMany zeroKept oneKept seen spot kind begin letters figures value plated driven rows periods leastPeriod sv before) → va_S A s.heap H locs → lv_has ls 3 [] → f_X8_sets_32 undoMany sv before s0 = some out → W p l e ({ frames := 2, cells := 0, slots := 0, locals := 46 } : Room) s m ([.ref q0, .int x1, .int x2] : List Value).toArray below meth c H locs 0 0 QQ (F0 m 32 ls [.int s0]) := by
    intro undoMany sv before s0 H locs ls hP hD hS hl hf
    unfold f_X8_sets_32 at hf
    subst hout; obtain ⟨rfl, rfl, rfl, rfl⟩ := rt4 hf
    subst hQQ
    exact W.iret hx hb hr (fun t ht hW => ⟨⟨_, (), rfl, rfl, by rw [ht]; exact hP, hD⟩, hS.F ht⟩) hS.2.2 dX8_sets_32
  have K_31 : ∀ (undoMany : Int32) (sv : Nat → Int32) (before : Nat → Int32) {H : Heap} {locs : List Loc} {ls : Array Slot}, va_P Γ.1 vwCl (wd_X8_sets Γ q0 q1 q2 d0 d1 d2 d3 d4 d5 d6 d7 d8 d9 d10 d11 d12 length undoMany zeroKept oneKept seen spot kind begin letters figures value plated driven rows periods leastPeriod sv before) H → va_D A (wd_X8_sets Γ q0 q1 q2 d0 d1 d2 d3 d4 d5 d6 d7 d8 d9 d10 d11 d12 length undoMany zeroKept oneKept seen spot kind begin letters figures value plated driven rows periods leastPeriod sv before) → va_S A s.heap H locs → lv_has ls 3 [] → f_X8_sets_31 undoMany sv before = some out → W p l e ({ frames := 2, cells := 0, slots := 0, locals := 46 } : Room) s m ([.ref q0, .int x1, .int x2] : List Value).toArray below meth c H locs 0 0 QQ (F0 m 31 ls []) := by
    intro undoMany sv before H locs ls hP hD hS hl hf
    unfold f_X8_sets_31 at hf
    refine lv_iconst (v := (-1)) hx hb dX8_sets_31 (by decide) ?_
    exact K_32 undoMany sv before (-1) hP hD hS (lv_sub hl [] rfl) hf
  unfold f_X8_sets at hf
  refine lv_iload_n hx hb dX8_sets_0 rfl (lv_at hl 1 rfl) ?_
  refine lv_i2l hx hb dX8_sets_1 rfl ?_
  refine lv_lconst (v := 0) hx hb dX8_sets_2 (by decide) ?_
  refine lv_ldc2 hx hb hown (hts (.constantLong RX8 194 (5)) (List.mem_of_getElem? (i := 1) rfl)) dX8_sets_3 ?_
  obtain ⟨r_1, hq_2, hf⟩ := ob1_some hf
  refine vm_cSi (isC := []) (wc := (wd_X8_in Γ)) (w1 := (wd_X8_in Γ)) (As := [.long ((x1).toInt64), .long 0, .long 5]) (rest := []) ⟨hx, hb, hml, hown, hts⟩ hE hP hD hS hA rfl rfl rfl (c_X8_in l Γ _ ((x1).toInt64) 0 5 r_1 hq_2) (va_cwS 3 hts gX8_sets_X8_in rfl rfl rfl (by decide +kernel) ⟨Nat.le_of_ble_eq_true rfl, Nat.le_of_ble_eq_true rfl⟩) rfl hl.1 rfl (Nat.le_of_ble_eq_true rfl) dX8_sets_6 ⟨Nat.zero_le _, Nat.zero_le _⟩ (fun H locs hP hD hS => ?_)
  have hP : va_P Γ.1 vwCl (wd_X8_sets Γ q0 q1 q2 d0 d1 d2 d3 d4 d5 d6 d7 d8 d9 d10 d11 d12 length undoMany zeroKept oneKept seen spot kind begin letters figures value plated driven rows periods leastPeriod sv before) H := hP
  have hD : va_D A (wd_X8_sets Γ q0 q1 q2 d0 d1 d2 d3 d4 d5 d6 d7 d8 d9 d10 d11 d12 length undoMany zeroKept oneKept seen spot kind begin letters figures value plated driven rows periods leastPeriod sv before) := hD
  refine lv_if_eq (tgt := 31) hx hb dX8_sets_9 (by decide) (fun hc_3 => ?_) (fun hc_3 => ?_)
  · have hf := vm_pos hc_3 hf
    exact K_31 undoMany sv before hP hD hS (lv_sub hl [] rfl) hf
  · have hf := vm_neg hc_3 hf
    refine lv_iload_n hx hb dX8_sets_12 rfl (lv_at hl 1 rfl) ?_
    refine lv_iload_n hx hb dX8_sets_13 rfl (lv_at hl 2 rfl) ?_
    obtain ⟨r_4, hq_5, hf⟩ := ob1_some hf
    refine vm_cSi (isC := []) (wc := (wd_X8_may Γ)) (w1 := (wd_X8_may Γ)) (As := [.int x1, .int x2]) (rest := []) ⟨hx, hb, hml, hown, hts⟩ hE hP hD hS hA rfl rfl rfl (c_X8_may l Γ _ x1 x2 r_4 hq_5) (va_cwS 2 hts gX8_sets_X8_may rfl rfl rfl (by decide +kernel) ⟨Nat.le_of_ble_eq_true rfl, Nat.le_of_ble_eq_true rfl⟩) rfl hl.1 rfl (Nat.le_of_ble_eq_true rfl) dX8_sets_14 ⟨Nat.zero_le _, Nat.zero_le _⟩ (fun H locs hP hD hS => ?_)
    have hP : va_P Γ.1 vwCl (wd_X8_sets Γ q0 q1 q2 d0 d1 d2 d3 d4 d5 d6 d7 d8 d9 d10 d11 d12 length undoMany zeroKept oneKept seen spot kind begin letters figures value plated driven rows periods leastPeriod sv before) H := hP
    have hD : va_D A (wd_X8_sets Γ q0 q1 q2 d0 d1 d2 d3 d4 d5 d6 d7 d8 d9 d10 d11 d12 length undoMany zeroKept oneKept seen spot kind begin letters figures value plated driven rows periods leastPeriod sv before) := hD
    refine lv_if_eq (tgt := 31) hx hb dX8_sets_17 (by decide) (fun hc_6 => ?_) (fun hc_6 => ?_)
    · have hf := vm_pos hc_6 hf
      exact K_31 undoMany sv before hP hD hS (lv_sub hl [] rfl) hf
    · have hf := vm_neg hc_6 hf
      refine lv_aload_n hx hb dX8_sets_20 rfl (lv_at hl 0 rfl) ?_
      refine lv_iconst (v := 2) hx hb dX8_sets_21 (by decide) ?_
      refine lv_iload_n hx hb dX8_sets_22 rfl (lv_at hl 1 rfl) ?_
      refine lv_iadd hx hb dX8_sets_23 ?_
      refine lv_iload_n hx hb dX8_sets_24 rfl (lv_at hl 2 rfl) ?_
      obtain ⟨r_7, undoMany_8, sv_9, before_10, hq_11, hf⟩ := ob4_some hf
      refine vm_cVi (isC := [0, 1, 2]) (wc := (wd_X8_becomes Γ q0 q1 q2 d0 d1 d2 d3 d4 d5 d6 d7 d8 d9 d10 d11 d12 length undoMany zeroKept oneKept seen spot kind begin letters figures value plated driven rows periods leastPeriod sv before)) (w1 := (wd_X8_becomes Γ q0 q1 q2 d0 d1 d2 d3 d4 d5 d6 d7 d8 d9 d10 d11 d12 length undoMany_8 zeroKept oneKept seen spot kind begin letters figures value plated driven rows periods leastPeriod sv_9 before_10)) (As := [.int (2 + x1), .int x2]) (rest := []) ⟨hx, hb, hml, hown, hts⟩ hE hP hD hS hA rfl rfl rfl (c_X8_becomes l Γ _ q0 q1 q2 d0 d1 d2 d3 d4 d5 d6 d7 d8 d9 d10 d11 d12 length undoMany zeroKept oneKept seen spot kind begin letters figures value plated driven rows periods leastPeriod sv before (2 + x1) x2 r_7 undoMany_8 sv_9 before_10 hq_11) (cwV 2 hts gX8_sets_X8_becomes rfl rfl rfl (by decide +kernel) ⟨Nat.le_of_ble_eq_true rfl, Nat.le_of_ble_eq_true rfl⟩) (va_recv (ci := 8) (q0 := 0) hK hP rfl rfl) rfl hl.1 rfl (Nat.le_of_ble_eq_true rfl) dX8_sets_25 ⟨Nat.zero_le _, Nat.zero_le _⟩ (fun H locs hP hD hS => ?_)
      have hP : va_P Γ.1 vwCl (wd_X8_sets Γ q0 q1 q2 d0 d1 d2 d3 d4 d5 d6 d7 d8 d9 d10 d11 d12 length undoMany_8 zeroKept oneKept seen spot kind begin letters figures value plated driven rows periods leastPeriod sv_9 before_10) H := hP
      have hD : va_D A (wd_X8_sets Γ q0 q1 q2 d0 d1 d2 d3 d4 d5 d6 d7 d8 d9 d10 d11 d12 length undoMany_8 zeroKept oneKept seen spot kind begin letters figures value plated driven rows periods leastPeriod sv_9 before_10) := hD
      refine lv_goto (tgt := 32) hx hb dX8_sets_28 (by decide) ?_
      exact K_32 undoMany_8 sv_9 before_10 r_7 hP hD hS (lv_sub hl [] rfl) hf
def wd_X8_isCell (Γ : GE) (q0 q1 d0 d1 d2 d3 d4 d5 d6 d7 d8 d9 d10 d11 d12 d13 : Nat) (length : Int32) (undoMany : Int32) (zeroKept : Int32) (oneKept : Int32) (seen : Int32) (spot : Int32) (kind : Int32) (begin : Int32) (letters : Int64) (figures : Int32) (value : Int32) (plated : Int32) (driven : Int32) (rows : Int32) (periods : Int32) (leastPeriod : Int32) (sv : Nat → Int32) : va_W := [(q0, .inr (8, [.int length, .ref d0, .ref q1, .ref d1, .ref d2, .int undoMany, .ref d3, .int zeroKept, .int oneKept, .ref d4, .ref d5, .int seen, .int spot, .int kind, .int begin, .long letters, .int figures, .int value, .int plated, .int driven, .int rows, .ref d6, .ref d7, .ref d8, .ref d9, .ref d10, .ref d11, .ref d12, .ref d13, .int periods, .int leastPeriod])), (q1, .inl (Γ.2.1 0, 81, .inl sv))]
def f_X8_isCell_41 (s0 : Int32) : Option Int32 := if s0 = 0 ∨ s0 = 1 then some s0 else none
def f_X8_isCell_40  : Option Int32 := f_X8_isCell_41 0
def f_X8_isCell (sv : Nat → Int32) (x1 : Int32) (x2 : Int32) : Option Int32 := ob1 (f_X8_in ((x1).toInt64) 0 (((sv 0) - 1).toInt64)) (fun r_2 => if r_2 = 0 then f_X8_isCell_40 else (ob1 (f_X8_in ((x2).toInt64) 0 (((sv 1) - 1).toInt64)) (fun r_5 => if r_5 = 0 then f_X8_isCell_40 else (f_X8_isCell_41 1))))
set_option maxHeartbeats 4000000 in
set_option maxRecDepth 100000 in
theorem c_X8_isCell (l : Launch) (Γ : GE) (sz : Nat) (q0 q1 d0 d1 d2 d3 d4 d5 d6 d7 d8 d9 d10 d11 d12 d13 : Nat) (length : Int32) (undoMany : Int32) (zeroKept : Int32) (oneKept : Int32) (seen : Int32) (spot : Int32) (kind : Int32) (begin : Int32) (letters : Int64) (figures : Int32) (value : Int32) (plated : Int32) (driven : Int32) (rows : Int32) (periods : Int32) (leastPeriod : Int32) (sv : Nat → Int32) (x1 : Int32) (x2 : Int32) (ro : Int32) (hf : f_X8_isCell sv x1 x2 = some ro) : MetI l yX8_isCell wsX8_isCell ({ frames := 1, cells := 0, slots := 0, locals := 25 } : Room) Γ [.ref q0, .int x1, .int x2] (wd_X8_isCell Γ q0 q1 d0 d1 d2 d3 d4 d5 d6 d7 d8 d9 d10 d11 d12 d13 length undoMany zeroKept oneKept seen spot kind begin letters figures value plated driven rows periods leastPeriod sv) (wd_X8_isCell Γ q0 q1 d0 d1 d2 d3 d4 d5 d6 d7 d8 d9 d10 d11 d12 d13 length undoMany zeroKept oneKept seen spot kind begin letters figures value plated driven rows periods leastPeriod sv) sz ro := by
  refine Met.ofW (cc := cX8_isCell) (maxL := 3) (ret := (some .boolean)) (by decide) rfl ?_
  intro p e s m args below meth c s₁ B hml hv
  obtain ⟨rfl, hsz, hE, hP, hD⟩ := hv
  have hx := B.exec
  have hb := B.bytes
  have hr := B.returns
  have hts := atoms_spec (ws := wsX8_isCell) B.pre
  have hown : s.vm.findClass RX8 = some m.cls := findClass_of_methodNamed B.named
  have hlocks := B.notSynchronized
  subst hsz
  generalize hAe : va_A (wd_X8_isCell Γ q0 q1 d0 d1 d2 d3 d4 d5 d6 d7 d8 d9 d10 d11 d12 d13 length undoMany zeroKept oneKept seen spot kind begin letters figures value plated driven rows periods leastPeriod sv) s.heap.size = A at hE hD ⊢
  have hA : ∀ q : Nat, s.heap.size ≤ q → A q := fun q h => by rw [← hAe]; exact Or.inr h
  clear hAe
  have hS : va_S A s.heap s.heap [] := va_S.rf
  have hK := hE.1
  have hl := lv_entry ([.ref q0, .int x1, .int x2]) (n := 3) (Nat.le_of_ble_eq_true rfl)
  rw [lg_entry_eq]
  generalize (lg_sl ([.ref q0, .int x1, .int x2]) ++ List.replicate (3 - (lg_sl ([.ref q0, .int x1, .int x2])).length) Slot.unset).toArray = ls at hl ⊢
  have hl : lv_has ls 3 [(0, .ref q0), (1, .int x1), (2, .int x2)] := hl
  have hi8 : ∀ w ∈ u_ws RX8 TX8 31, w ∈ wsX8_isCell := fun w h => (List.mem_cons_of_mem _ (List.mem_append_right _ h))
  obtain ⟨out, hout⟩ : ∃ o, o = ro := ⟨_, rfl⟩
  rw [← hout] at hf
  obtain ⟨QQ, hQQ⟩ : ∃ Q, Q = MQ below (va_Qi (fun (r' : Int32) (_ : Unit) => r' = ro) (CQ Γ (wd_X8_isCell Γ q0 q1 d0 d1 d2 d3 d4 d5 d6 d7 d8 d9 d10 d11 d12 d13 length undoMany zeroKept oneKept seen spot kind begin letters figures value plated driven rows periods leastPeriod sv) A) A) (([.ref q0, .int x1, .int x2] : List Value).toArray) s 0 0 A := ⟨_, rfl⟩
  show W p l e ({ frames := 1, cells := 0, slots := 0, locals := 25 } : Room) s m (([.ref q0, .int x1, .int x2] : List Value).toArray) below meth c s.heap [] 0 0 (MQ below _ (([.ref q0, .int x1, .int x2] : List Value).toArray) s 0 0 A) (F0 m 0 ls [])
  rw [← hQQ]
  have K_41 : ∀ (s0 : Int32) {H : Heap} {locs : List Loc} {ls : Array Slot}, va_P Γ.1 vwCl (wd_X8_isCell Γ q0 q1 d0 d1 d2 d3 d4 d5 d6 d7 d8 d9 d10 d11 d12 d13 length undoMany zeroKept oneKept seen spot kind begin letters figures value plated driven rows periods leastPeriod sv) H → va_D A (wd_X8_isCell Γ q0 q1 d0 d1 d2 d3 d4 d5 d6 d7 d8 d9 d10 d11 d12 d13 length undoMany zeroKept oneKept seen spot kind begin letters figures value plated driven rows periods leastPeriod sv) → va_S A s.heap H locs → lv_has ls 3 [] → f_X8_isCell_41 s0 = some out → W p l e ({ frames := 1, cells := 0, slots := 0, locals := 25 } : Room) s m ([.ref q0, .int x1, .int x2] : List Value).toArray below meth c H locs 0 0 QQ (F0 m 41 ls [.int s0]) := by
    intro s0 H locs ls hP hD hS hl hf
    unfold f_X8_isCell_41 at hf
    obtain ⟨hc_1, hf⟩ := vm_ck hf
    subst hout; obtain rfl := Option.some.inj hf
    subst hQQ
    exact W.zret hx hb hr (vm_nz hc_1) (fun t ht hW => ⟨⟨_, (), rfl, rfl, by rw [ht]; exact hP, hD⟩, hS.F ht⟩) hS.2.2 dX8_isCell_41
  have K_40 : ∀ {H : Heap} {locs : List Loc} {ls : Array Slot}, va_P Γ.1 vwCl (wd_X8_isCell Γ q0 q1 d0 d1 d2 d3 d4 d5 d6 d7 d8 d9 d10 d11 d12 d13 length undoMany zeroKept oneKept seen spot kind begin letters figures value plated driven rows periods leastPeriod sv) H → va_D A (wd_X8_isCell Γ q0 q1 d0 d1 d2 d3 d4 d5 d6 d7 d8 d9 d10 d11 d12 d13 length undoMany zeroKept oneKept seen spot kind begin letters figures value plated driven rows periods leastPeriod sv) → va_S A s.heap H locs → lv_has ls 3 [] → f_X8_isCell_40 = some out → W p l e ({ frames := 1, cells := 0, slots := 0, locals := 25 } : Room) s m ([.ref q0, .int x1, .int x2] : List Value).toArray below meth c H locs 0 0 QQ (F0 m 40 ls []) := by
    intro H locs ls hP hD hS hl hf
    unfold f_X8_isCell_40 at hf
    refine lv_iconst (v := 0) hx hb dX8_isCell_40 (by decide) ?_
    exact K_41 0 hP hD hS (lv_sub hl [] rfl) hf
  unfold f_X8_isCell at hf
  refine lv_iload_n hx hb dX8_isCell_0 rfl (lv_at hl 1 rfl) ?_
  refine lv_i2l hx hb dX8_isCell_1 rfl ?_
  refine lv_lconst (v := 0) hx hb dX8_isCell_2 (by decide) ?_
  refine lv_aload_n hx hb dX8_isCell_3 rfl (lv_at hl 0 rfl) ?_
  refine va_get (D := Γ.1) (ci := 8) (v := .ref q1) (C := RX8) (T := TX8) (N := 31) hx hb hts hi8 hown hK hP 0 rfl rfl 2 (by decide) (hts (.fieldLink RX8 13 "SandPlatesModel" "s" "[I") (List.mem_of_getElem? (i := 1) rfl)) (fun _ h9 => h9) rfl dX8_isCell_4 ?_
  refine lv_iconst (v := 0) hx hb dX8_isCell_7 (by decide) ?_
  refine vm_iald hx hb hK hP 1 0 rfl rfl (by decide +kernel) (j := 0) rfl dX8_isCell_8 ?_
  refine lv_iconst (v := 1) hx hb dX8_isCell_9 (by decide) ?_
  refine lv_isub hx hb dX8_isCell_10 ?_
  refine lv_i2l hx hb dX8_isCell_11 rfl ?_
  obtain ⟨r_2, hq_3, hf⟩ := ob1_some hf
  refine vm_cSi (isC := []) (wc := (wd_X8_in Γ)) (w1 := (wd_X8_in Γ)) (As := [.long ((x1).toInt64), .long 0, .long (((sv 0) - 1).toInt64)]) (rest := []) ⟨hx, hb, hml, hown, hts⟩ hE hP hD hS hA rfl rfl rfl (c_X8_in l Γ _ ((x1).toInt64) 0 (((sv 0) - 1).toInt64) r_2 hq_3) (va_cwS 3 hts gX8_isCell_X8_in rfl rfl rfl (by decide +kernel) ⟨Nat.le_of_ble_eq_true rfl, Nat.le_of_ble_eq_true rfl⟩) rfl hl.1 rfl (Nat.le_of_ble_eq_true rfl) dX8_isCell_12 ⟨Nat.zero_le _, Nat.zero_le _⟩ (fun H locs hP hD hS => ?_)
  have hP : va_P Γ.1 vwCl (wd_X8_isCell Γ q0 q1 d0 d1 d2 d3 d4 d5 d6 d7 d8 d9 d10 d11 d12 d13 length undoMany zeroKept oneKept seen spot kind begin letters figures value plated driven rows periods leastPeriod sv) H := hP
  have hD : va_D A (wd_X8_isCell Γ q0 q1 d0 d1 d2 d3 d4 d5 d6 d7 d8 d9 d10 d11 d12 d13 length undoMany zeroKept oneKept seen spot kind begin letters figures value plated driven rows periods leastPeriod sv) := hD
  refine lv_if_eq (tgt := 40) hx hb dX8_isCell_15 (by decide) (fun hc_4 => ?_) (fun hc_4 => ?_)
  · have hf := vm_pos hc_4 hf
    exact K_40  hP hD hS (lv_sub hl [] rfl) hf
  · have hf := vm_neg hc_4 hf
    refine lv_iload_n hx hb dX8_isCell_18 rfl (lv_at hl 2 rfl) ?_
    refine lv_i2l hx hb dX8_isCell_19 rfl ?_
    refine lv_lconst (v := 0) hx hb dX8_isCell_20 (by decide) ?_
    refine lv_aload_n hx hb dX8_isCell_21 rfl (lv_at hl 0 rfl) ?_
    refine va_get (D := Γ.1) (ci := 8) (v := .ref q1) (C := RX8) (T := TX8) (N := 31) hx hb hts hi8 hown hK hP 0 rfl rfl 2 (by decide) (hts (.fieldLink RX8 13 "SandPlatesModel" "s" "[I") (List.mem_of_getElem? (i := 1) rfl)) (fun _ h9 => h9) rfl dX8_isCell_22 ?_
    refine lv_iconst (v := 1) hx hb dX8_isCell_25 (by decide) ?_
    refine vm_iald hx hb hK hP 1 0 rfl rfl (by decide +kernel) (j := 1) rfl dX8_isCell_26 ?_
    refine lv_iconst (v := 1) hx hb dX8_isCell_27 (by decide) ?_
    refine lv_isub hx hb dX8_isCell_28 ?_
    refine lv_i2l hx hb dX8_isCell_29 rfl ?_
    obtain ⟨r_5, hq_6, hf⟩ := ob1_some hf
    refine vm_cSi (isC := []) (wc := (wd_X8_in Γ)) (w1 := (wd_X8_in Γ)) (As := [.long ((x2).toInt64), .long 0, .long (((sv 1) - 1).toInt64)]) (rest := []) ⟨hx, hb, hml, hown, hts⟩ hE hP hD hS hA rfl rfl rfl (c_X8_in l Γ _ ((x2).toInt64) 0 (((sv 1) - 1).toInt64) r_5 hq_6) (va_cwS 3 hts gX8_isCell_X8_in rfl rfl rfl (by decide +kernel) ⟨Nat.le_of_ble_eq_true rfl, Nat.le_of_ble_eq_true rfl⟩) rfl hl.1 rfl (Nat.le_of_ble_eq_true rfl) dX8_isCell_30 ⟨Nat.zero_le _, Nat.zero_le _⟩ (fun H locs hP hD hS => ?_)
    have hP : va_P Γ.1 vwCl (wd_X8_isCell Γ q0 q1 d0 d1 d2 d3 d4 d5 d6 d7 d8 d9 d10 d11 d12 d13 length undoMany zeroKept oneKept seen spot kind begin letters figures value plated driven rows periods leastPeriod sv) H := hP
    have hD : va_D A (wd_X8_isCell Γ q0 q1 d0 d1 d2 d3 d4 d5 d6 d7 d8 d9 d10 d11 d12 d13 length undoMany zeroKept oneKept seen spot kind begin letters figures value plated driven rows periods leastPeriod sv) := hD
    refine lv_if_eq (tgt := 40) hx hb dX8_isCell_33 (by decide) (fun hc_7 => ?_) (fun hc_7 => ?_)
    · have hf := vm_pos hc_7 hf
      exact K_40  hP hD hS (lv_sub hl [] rfl) hf
    · have hf := vm_neg hc_7 hf
      refine lv_iconst (v := 1) hx hb dX8_isCell_36 (by decide) ?_
      refine lv_goto (tgt := 41) hx hb dX8_isCell_37 (by decide) ?_
      exact K_41 1 hP hD hS (lv_sub hl [] rfl) hf
def wd_X8_drives (Γ : GE) (q0 q1 q2 d0 d1 d2 d3 d4 d5 d6 d7 d8 d9 d10 d11 d12 : Nat) (length : Int32) (undoMany : Int32) (zeroKept : Int32) (oneKept : Int32) (seen : Int32) (spot : Int32) (kind : Int32) (begin : Int32) (letters : Int64) (figures : Int32) (value : Int32) (plated : Int32) (driven : Int32) (rows : Int32) (periods : Int32) (leastPeriod : Int32) (sv : Nat → Int32) (before : Nat → Int32) : va_W := [(q0, .inr (8, [.int length, .ref d0, .ref q1, .ref d1, .ref q2, .int undoMany, .ref d2, .int zeroKept, .int oneKept, .ref d3, .ref d4, .int seen, .int spot, .int kind, .int begin, .long letters, .int figures, .int value, .int plated, .int driven, .int rows, .ref d5, .ref d6, .ref d7, .ref d8, .ref d9, .ref d10, .ref d11, .ref d12, .int periods, .int leastPeriod])), (q1, .inl (Γ.2.1 0, 81, .inl sv)), (q2, .inl (Γ.2.1 0, 486, .inl before))]
def f_X8_drives_29 (undoMany : Int32) (sv : Nat → Int32) (before : Nat → Int32) (s0 : Int32) : Option (Int32 × Int32 × (Nat → Int32) × (Nat → Int32)) := some (s0, undoMany, sv, before)
def f_X8_drives (undoMany : Int32) (sv : Nat → Int32) (before : Nat → Int32) (x1 : Int32) (x2 : Int32) : Option (Int32 × Int32 × (Nat → Int32) × (Nat → Int32)) := ob1 (f_X8_isCell sv x1 x2) (fun r_1 => if r_1 = 0 then (f_X8_drives_29 undoMany sv before (-1)) else (ob4 (f_X8_becomes undoMany sv before 8 (((sv 0) * x2) + x1)) (fun r_4 undoMany_5 sv_6 before_7 => f_X8_drives_29 undoMany_5 sv_6 before_7 r_4)))
set_option maxHeartbeats 4000000 in
set_option maxRecDepth 100000 in
theorem c_X8_drives (l : Launch) (Γ : GE) (sz : Nat) (q0 q1 q2 d0 d1 d2 d3 d4 d5 d6 d7 d8 d9 d10 d11 d12 : Nat) (length : Int32) (undoMany : Int32) (zeroKept : Int32) (oneKept : Int32) (seen : Int32) (spot : Int32) (kind : Int32) (begin : Int32) (letters : Int64) (figures : Int32) (value : Int32) (plated : Int32) (driven : Int32) (rows : Int32) (periods : Int32) (leastPeriod : Int32) (sv : Nat → Int32) (before : Nat → Int32) (x1 : Int32) (x2 : Int32) (ro : Int32) (o_undoMany : Int32) (o_sv : Nat → Int32) (o_before : Nat → Int32) (hf : f_X8_drives undoMany sv before x1 x2 = some (ro, o_undoMany, o_sv, o_before)) : MetI l yX8_drives wsX8_drives ({ frames := 2, cells := 0, slots := 0, locals := 47 } : Room) Γ [.ref q0, .int x1, .int x2] (wd_X8_drives Γ q0 q1 q2 d0 d1 d2 d3 d4 d5 d6 d7 d8 d9 d10 d11 d12 length undoMany zeroKept oneKept seen spot kind begin letters figures value plated driven rows periods leastPeriod sv before) (wd_X8_drives Γ q0 q1 q2 d0 d1 d2 d3 d4 d5 d6 d7 d8 d9 d10 d11 d12 length o_undoMany zeroKept oneKept seen spot kind begin letters figures value plated driven rows periods leastPeriod o_sv o_before) sz ro := by
  refine Met.ofW (cc := cX8_drives) (maxL := 3) (ret := (some .int)) (by decide) rfl ?_
  intro p e s m args below meth c s₁ B hml hv
  obtain ⟨rfl, hsz, hE, hP, hD⟩ := hv
  have hx := B.exec
  have hb := B.bytes
  have hr := B.returns
  have hts := atoms_spec (ws := wsX8_drives) B.pre
  have hown : s.vm.findClass RX8 = some m.cls := findClass_of_methodNamed B.named
  have hlocks := B.notSynchronized
  subst hsz
  generalize hAe : va_A (wd_X8_drives Γ q0 q1 q2 d0 d1 d2 d3 d4 d5 d6 d7 d8 d9 d10 d11 d12 length undoMany zeroKept oneKept seen spot kind begin letters figures value plated driven rows periods leastPeriod sv before) s.heap.size = A at hE hD ⊢
  have hA : ∀ q : Nat, s.heap.size ≤ q → A q := fun q h => by rw [← hAe]; exact Or.inr h
  clear hAe
  have hS : va_S A s.heap s.heap [] := va_S.rf
  have hK := hE.1
  have hl := lv_entry ([.ref q0, .int x1, .int x2]) (n := 3) (Nat.le_of_ble_eq_true rfl)
  rw [lg_entry_eq]
  generalize (lg_sl ([.ref q0, .int x1, .int x2]) ++ List.replicate (3 - (lg_sl ([.ref q0, .int x1, .int x2])).length) Slot.unset).toArray = ls at hl ⊢
  have hl : lv_has ls 3 [(0, .ref q0), (1, .int x1), (2, .int x2)] := hl
  have hi8 : ∀ w ∈ u_ws RX8 TX8 31, w ∈ wsX8_drives := fun w h => (List.mem_cons_of_mem _ (List.mem_append_right _ h))
  obtain ⟨out, hout⟩ : ∃ o, o = (ro, o_undoMany, o_sv, o_before) := ⟨_, rfl⟩
  rw [← hout] at hf
  obtain ⟨QQ, hQQ⟩ : ∃ Q, Q = MQ below (va_Qi (fun (r' : Int32) (_ : Unit) => r' = ro) (CQ Γ (wd_X8_drives Γ q0 q1 q2 d0 d1 d2 d3 d4 d5 d6 d7 d8 d9 d10 d11 d12 length o_undoMany zeroKept oneKept seen spot kind begin letters figures value plated driven rows periods leastPeriod o_sv o_before) A) A) (([.ref q0, .int x1, .int x2] : List Value).toArray) s 0 0 A := ⟨_, rfl⟩
  show W p l e ({ frames := 2, cells := 0, slots := 0, locals := 47 } : Room) s m (([.ref q0, .int x1, .int x2] : List Value).toArray) below meth c s.heap [] 0 0 (MQ below _ (([.ref q0, .int x1, .int x2] : List Value).toArray) s 0 0 A) (F0 m 0 ls [])
  rw [← hQQ]
  have K_29 : ∀ (undoMany : Int32) (sv : Nat → Int32) (before : Nat → Int32) (s0 : Int32) {H : Heap} {locs : List Loc} {ls : Array Slot}, va_P Γ.1 vwCl (wd_X8_drives Γ q0 q1 q2 d0 d1 d2 d3 d4 d5 d6 d7 d8 d9 d10 d11 d12 length undoMany zeroKept oneKept seen spot kind begin letters figures value plated driven rows periods leastPeriod sv before) H → va_D A (wd_X8_drives Γ q0 q1 q2 d0 d1 d2 d3 d4 d5 d6 d7 d8 d9 d10 d11 d12 length undoMany zeroKept oneKept seen spot kind begin letters figures value plated driven rows periods leastPeriod sv before) → va_S A s.heap H locs → lv_has ls 3 [] → f_X8_drives_29 undoMany sv before s0 = some out → W p l e ({ frames := 2, cells := 0, slots := 0, locals := 47 } : Room) s m ([.ref q0, .int x1, .int x2] : List Value).toArray below meth c H locs 0 0 QQ (F0 m 29 ls [.int s0]) := by
    intro undoMany sv before s0 H locs ls hP hD hS hl hf
    unfold f_X8_drives_29 at hf
    subst hout; obtain ⟨rfl, rfl, rfl, rfl⟩ := rt4 hf
    subst hQQ
    exact W.iret hx hb hr (fun t ht hW => ⟨⟨_, (), rfl, rfl, by rw [ht]; exact hP, hD⟩, hS.F ht⟩) hS.2.2 dX8_drives_29
  unfold f_X8_drives at hf
  refine lv_aload_n hx hb dX8_drives_0 rfl (lv_at hl 0 rfl) ?_
  refine lv_iload_n hx hb dX8_drives_1 rfl (lv_at hl 1 rfl) ?_
  refine lv_iload_n hx hb dX8_drives_2 rfl (lv_at hl 2 rfl) ?_
  obtain ⟨r_1, hq_2, hf⟩ := ob1_some hf
  refine vm_cVi (isC := [0, 1]) (wc := (wd_X8_isCell Γ q0 q1 d0 d1 q2 d2 d3 d4 d5 d6 d7 d8 d9 d10 d11 d12 length undoMany zeroKept oneKept seen spot kind begin letters figures value plated driven rows periods leastPeriod sv)) (w1 := (wd_X8_isCell Γ q0 q1 d0 d1 q2 d2 d3 d4 d5 d6 d7 d8 d9 d10 d11 d12 length undoMany zeroKept oneKept seen spot kind begin letters figures value plated driven rows periods leastPeriod sv)) (As := [.int x1, .int x2]) (rest := []) ⟨hx, hb, hml, hown, hts⟩ hE hP hD hS hA rfl rfl rfl (c_X8_isCell l Γ _ q0 q1 d0 d1 q2 d2 d3 d4 d5 d6 d7 d8 d9 d10 d11 d12 length undoMany zeroKept oneKept seen spot kind begin letters figures value plated driven rows periods leastPeriod sv x1 x2 r_1 hq_2) (cwV 2 hts gX8_drives_X8_isCell rfl rfl rfl (by decide +kernel) ⟨Nat.le_of_ble_eq_true rfl, Nat.le_of_ble_eq_true rfl⟩) (va_recv (ci := 8) (q0 := 0) hK hP rfl rfl) rfl hl.1 rfl (Nat.le_of_ble_eq_true rfl) dX8_drives_3 ⟨Nat.zero_le _, Nat.zero_le _⟩ (fun H locs hP hD hS => ?_)
  have hP : va_P Γ.1 vwCl (wd_X8_drives Γ q0 q1 q2 d0 d1 d2 d3 d4 d5 d6 d7 d8 d9 d10 d11 d12 length undoMany zeroKept oneKept seen spot kind begin letters figures value plated driven rows periods leastPeriod sv before) H := hP
  have hD : va_D A (wd_X8_drives Γ q0 q1 q2 d0 d1 d2 d3 d4 d5 d6 d7 d8 d9 d10 d11 d12 length undoMany zeroKept oneKept seen spot kind begin letters figures value plated driven rows periods leastPeriod sv before) := hD
  refine lv_if_eq (tgt := 28) hx hb dX8_drives_6 (by decide) (fun hc_3 => ?_) (fun hc_3 => ?_)
  · have hf := vm_pos hc_3 hf
    refine lv_iconst (v := (-1)) hx hb dX8_drives_28 (by decide) ?_
    exact K_29 undoMany sv before (-1) hP hD hS (lv_sub hl [] rfl) hf
  · have hf := vm_neg hc_3 hf
    refine lv_aload_n hx hb dX8_drives_9 rfl (lv_at hl 0 rfl) ?_
    refine lv_bipush (v := 8) hx hb dX8_drives_10 (by decide) ?_
    refine lv_aload_n hx hb dX8_drives_12 rfl (lv_at hl 0 rfl) ?_
    refine va_get (D := Γ.1) (ci := 8) (v := .ref q1) (C := RX8) (T := TX8) (N := 31) hx hb hts hi8 hown hK hP 0 rfl rfl 2 (by decide) (hts (.fieldLink RX8 13 "SandPlatesModel" "s" "[I") (List.mem_of_getElem? (i := 1) rfl)) (fun _ h9 => h9) rfl dX8_drives_13 ?_
    refine lv_iconst (v := 0) hx hb dX8_drives_16 (by decide) ?_
    refine vm_iald hx hb hK hP 1 0 rfl rfl (by decide +kernel) (j := 0) rfl dX8_drives_17 ?_
    refine lv_iload_n hx hb dX8_drives_18 rfl (lv_at hl 2 rfl) ?_
    refine lv_imul hx hb dX8_drives_19 ?_
    refine lv_iload_n hx hb dX8_drives_20 rfl (lv_at hl 1 rfl) ?_
    refine lv_iadd hx hb dX8_drives_21 ?_
    obtain ⟨r_4, undoMany_5, sv_6, before_7, hq_8, hf⟩ := ob4_some hf
    refine vm_cVi (isC := [0, 1, 2]) (wc := (wd_X8_becomes Γ q0 q1 q2 d0 d1 d2 d3 d4 d5 d6 d7 d8 d9 d10 d11 d12 length undoMany zeroKept oneKept seen spot kind begin letters figures value plated driven rows periods leastPeriod sv before)) (w1 := (wd_X8_becomes Γ q0 q1 q2 d0 d1 d2 d3 d4 d5 d6 d7 d8 d9 d10 d11 d12 length undoMany_5 zeroKept oneKept seen spot kind begin letters figures value plated driven rows periods leastPeriod sv_6 before_7)) (As := [.int 8, .int (((sv 0) * x2) + x1)]) (rest := []) ⟨hx, hb, hml, hown, hts⟩ hE hP hD hS hA rfl rfl rfl (c_X8_becomes l Γ _ q0 q1 q2 d0 d1 d2 d3 d4 d5 d6 d7 d8 d9 d10 d11 d12 length undoMany zeroKept oneKept seen spot kind begin letters figures value plated driven rows periods leastPeriod sv before 8 (((sv 0) * x2) + x1) r_4 undoMany_5 sv_6 before_7 hq_8) (cwV 2 hts gX8_drives_X8_becomes rfl rfl rfl (by decide +kernel) ⟨Nat.le_of_ble_eq_true rfl, Nat.le_of_ble_eq_true rfl⟩) (va_recv (ci := 8) (q0 := 0) hK hP rfl rfl) rfl hl.1 rfl (Nat.le_of_ble_eq_true rfl) dX8_drives_22 ⟨Nat.zero_le _, Nat.zero_le _⟩ (fun H locs hP hD hS => ?_)
    have hP : va_P Γ.1 vwCl (wd_X8_drives Γ q0 q1 q2 d0 d1 d2 d3 d4 d5 d6 d7 d8 d9 d10 d11 d12 length undoMany_5 zeroKept oneKept seen spot kind begin letters figures value plated driven rows periods leastPeriod sv_6 before_7) H := hP
    have hD : va_D A (wd_X8_drives Γ q0 q1 q2 d0 d1 d2 d3 d4 d5 d6 d7 d8 d9 d10 d11 d12 length undoMany_5 zeroKept oneKept seen spot kind begin letters figures value plated driven rows periods leastPeriod sv_6 before_7) := hD
    refine lv_goto (tgt := 29) hx hb dX8_drives_25 (by decide) ?_
    exact K_29 undoMany_5 sv_6 before_7 r_4 hP hD hS (lv_sub hl [] rfl) hf
def wd_X8_figure (Γ : GE) (q0 q1 d0 d1 d2 d3 d4 d5 d6 d7 d8 d9 d10 d11 d12 d13 : Nat) (length : Int32) (undoMany : Int32) (zeroKept : Int32) (oneKept : Int32) (seen : Int32) (spot : Int32) (kind : Int32) (begin : Int32) (letters : Int64) (figures : Int32) (value : Int32) (plated : Int32) (driven : Int32) (rows : Int32) (periods : Int32) (leastPeriod : Int32) (sv : Nat → Int32) : va_W := [(q0, .inr (8, [.int length, .ref d0, .ref q1, .ref d1, .ref d2, .int undoMany, .ref d3, .int zeroKept, .int oneKept, .ref d4, .ref d5, .int seen, .int spot, .int kind, .int begin, .long letters, .int figures, .int value, .int plated, .int driven, .int rows, .ref d6, .ref d7, .ref d8, .ref d9, .ref d10, .ref d11, .ref d12, .ref d13, .int periods, .int leastPeriod])), (q1, .inl (Γ.2.1 0, 81, .inl sv))]
def f_X8_figure_30 (x1 : Int32) : Option Int32 := some x1
def f_X8_figure_4b (sv : Nat → Int32) (x1 : Int32) (x2 : Int32) (k : ((Int32 × Int32) → Option Int32)) : Option Int32 := ob1 (f_X8_cells sv) (fun r_1 => if r_1 ≤ x2 then (some x1) else (if inb (9 + x2) 81 = true then k ((x1 + (sv ((9 + x2).toNatClampNeg))), (x2 + 1)) else none))
def f_X8_figure_4s (sv : Nat → Int32) : (Int32 × Int32) → ((Int32 × Int32) → Option Int32) → Option Int32 := fun t k => f_X8_figure_4b sv t.1 t.2 k
def f_X8_figure_4 (sv : Nat → Int32) (x1 : Int32) (x2 : Int32) : Option Int32 := obx (vm_it (f_X8_figure_4s sv) FU (x1, x2)) (fun x1 => f_X8_figure_30 x1)
def f_X8_figure (sv : Nat → Int32) : Option Int32 := f_X8_figure_4 sv 0 0
set_option maxHeartbeats 4000000 in
set_option maxRecDepth 100000 in
theorem c_X8_figure (l : Launch) (Γ : GE) (sz : Nat) (q0 q1 d0 d1 d2 d3 d4 d5 d6 d7 d8 d9 d10 d11 d12 d13 : Nat) (length : Int32) (undoMany : Int32) (zeroKept : Int32) (oneKept : Int32) (seen : Int32) (spot : Int32) (kind : Int32) (begin : Int32) (letters : Int64) (figures : Int32) (value : Int32) (plated : Int32) (driven : Int32) (rows : Int32) (periods : Int32) (leastPeriod : Int32) (sv : Nat → Int32) (ro : Int32) (hf : f_X8_figure sv = some ro) : MetI l yX8_figure wsX8_figure ({ frames := 1, cells := 0, slots := 0, locals := 20 } : Room) Γ [.ref q0] (wd_X8_figure Γ q0 q1 d0 d1 d2 d3 d4 d5 d6 d7 d8 d9 d10 d11 d12 d13 length undoMany zeroKept oneKept seen spot kind begin letters figures value plated driven rows periods leastPeriod sv) (wd_X8_figure Γ q0 q1 d0 d1 d2 d3 d4 d5 d6 d7 d8 d9 d10 d11 d12 d13 length undoMany zeroKept oneKept seen spot kind begin letters figures value plated driven rows periods leastPeriod sv) sz ro := by
  refine Met.ofW (cc := cX8_figure) (maxL := 3) (ret := (some .int)) (by decide) rfl ?_
  intro p e s m args below meth c s₁ B hml hv
  obtain ⟨rfl, hsz, hE, hP, hD⟩ := hv
  have hx := B.exec
  have hb := B.bytes
  have hr := B.returns
  have hts := atoms_spec (ws := wsX8_figure) B.pre
  have hown : s.vm.findClass RX8 = some m.cls := findClass_of_methodNamed B.named
  have hlocks := B.notSynchronized
  subst hsz
  generalize hAe : va_A (wd_X8_figure Γ q0 q1 d0 d1 d2 d3 d4 d5 d6 d7 d8 d9 d10 d11 d12 d13 length undoMany zeroKept oneKept seen spot kind begin letters figures value plated driven rows periods leastPeriod sv) s.heap.size = A at hE hD ⊢
  have hA : ∀ q : Nat, s.heap.size ≤ q → A q := fun q h => by rw [← hAe]; exact Or.inr h
  clear hAe
  have hS : va_S A s.heap s.heap [] := va_S.rf
  have hK := hE.1
  have hl := lv_entry ([.ref q0]) (n := 3) (Nat.le_of_ble_eq_true rfl)
  rw [lg_entry_eq]
  generalize (lg_sl ([.ref q0]) ++ List.replicate (3 - (lg_sl ([.ref q0])).length) Slot.unset).toArray = ls at hl ⊢
  have hl : lv_has ls 3 [(0, .ref q0)] := hl
  have hi8 : ∀ w ∈ u_ws RX8 TX8 31, w ∈ wsX8_figure := fun w h => (List.mem_cons_of_mem _ (List.mem_append_right _ h))
  obtain ⟨out, hout⟩ : ∃ o, o = ro := ⟨_, rfl⟩
  rw [← hout] at hf
  obtain ⟨QQ, hQQ⟩ : ∃ Q, Q = MQ below (va_Qi (fun (r' : Int32) (_ : Unit) => r' = ro) (CQ Γ (wd_X8_figure Γ q0 q1 d0 d1 d2 d3 d4 d5 d6 d7 d8 d9 d10 d11 d12 d13 length undoMany zeroKept oneKept seen spot kind begin letters figures value plated driven rows periods leastPeriod sv) A) A) (([.ref q0] : List Value).toArray) s 0 0 A := ⟨_, rfl⟩
  show W p l e ({ frames := 1, cells := 0, slots := 0, locals := 20 } : Room) s m (([.ref q0] : List Value).toArray) below meth c s.heap [] 0 0 (MQ below _ (([.ref q0] : List Value).toArray) s 0 0 A) (F0 m 0 ls [])
  rw [← hQQ]
  have K_30 : ∀ (x1 : Int32) {H : Heap} {locs : List Loc} {ls : Array Slot}, va_P Γ.1 vwCl (wd_X8_figure Γ q0 q1 d0 d1 d2 d3 d4 d5 d6 d7 d8 d9 d10 d11 d12 d13 length undoMany zeroKept oneKept seen spot kind begin letters figures value plated driven rows periods leastPeriod sv) H → va_D A (wd_X8_figure Γ q0 q1 d0 d1 d2 d3 d4 d5 d6 d7 d8 d9 d10 d11 d12 d13 length undoMany zeroKept oneKept seen spot kind begin letters figures value plated driven rows periods leastPeriod sv) → va_S A s.heap H locs → lv_has ls 3 [(1, .int x1)] → f_X8_figure_30 x1 = some out → W p l e ({ frames := 1, cells := 0, slots := 0, locals := 20 } : Room) s m ([.ref q0] : List Value).toArray below meth c H locs 0 0 QQ (F0 m 30 ls []) := by
    intro x1 H locs ls hP hD hS hl hf
    unfold f_X8_figure_30 at hf
    refine lv_iload_n hx hb dX8_figure_30 rfl (lv_at hl 0 rfl) ?_
    subst hout; obtain rfl := Option.some.inj hf
    subst hQQ
    exact W.iret hx hb hr (fun t ht hW => ⟨⟨_, (), rfl, rfl, by rw [ht]; exact hP, hD⟩, hS.F ht⟩) hS.2.2 dX8_figure_31
  have K_4 : ∀ (x1 : Int32) (x2 : Int32) {H : Heap} {locs : List Loc} {ls : Array Slot}, va_P Γ.1 vwCl (wd_X8_figure Γ q0 q1 d0 d1 d2 d3 d4 d5 d6 d7 d8 d9 d10 d11 d12 d13 length undoMany zeroKept oneKept seen spot kind begin letters figures value plated driven rows periods leastPeriod sv) H → va_D A (wd_X8_figure Γ q0 q1 d0 d1 d2 d3 d4 d5 d6 d7 d8 d9 d10 d11 d12 d13 length undoMany zeroKept oneKept seen spot kind begin letters figures value plated driven rows periods leastPeriod sv) → va_S A s.heap H locs → lv_has ls 3 [(0, .ref q0), (1, .int x1), (2, .int x2)] → f_X8_figure_4 sv x1 x2 = some out → W p l e ({ frames := 1, cells := 0, slots := 0, locals := 20 } : Room) s m ([.ref q0] : List Value).toArray below meth c H locs 0 0 QQ (F0 m 4 ls []) := by
    intro x1 x2 H locs ls hP hD hS hl hf
    unfold f_X8_figure_4 at hf
    obtain ⟨ex4, h1, hX4⟩ := obx_some hf
    have LP : ∀ (n : Nat) (x1 : Int32) (x2 : Int32)  {H : Heap} {locs : List Loc} {ls : Array Slot}, va_P Γ.1 vwCl (wd_X8_figure Γ q0 q1 d0 d1 d2 d3 d4 d5 d6 d7 d8 d9 d10 d11 d12 d13 length undoMany zeroKept oneKept seen spot kind begin letters figures value plated driven rows periods leastPeriod sv) H → va_D A (wd_X8_figure Γ q0 q1 d0 d1 d2 d3 d4 d5 d6 d7 d8 d9 d10 d11 d12 d13 length undoMany zeroKept oneKept seen spot kind begin letters figures value plated driven rows periods leastPeriod sv) → va_S A s.heap H locs → lv_has ls 3 [(0, .ref q0), (1, .int x1), (2, .int x2)] → vm_it (f_X8_figure_4s sv) n (x1, x2) = some ex4 → W p l e ({ frames := 1, cells := 0, slots := 0, locals := 20 } : Room) s m ([.ref q0] : List Value).toArray below meth c H locs 0 0 QQ (F0 m 4 ls []) := by
      clear hP hD hS hl hf h1
      intro n
      induction n with
      | zero => intro x1 x2 H locs ls hP hD hS hl hf; exact (vm_it_0 hf).elim
      | succ n ih =>
        intro x1 x2 H locs ls hP hD hS hl hf
        have hf : f_X8_figure_4b sv x1 x2 (vm_it (f_X8_figure_4s sv) n) = some ex4 := hf
        unfold f_X8_figure_4b at hf
        refine lv_iload_n hx hb dX8_figure_4 rfl (lv_at hl 2 rfl) ?_
        refine lv_aload_n hx hb dX8_figure_5 rfl (lv_at hl 0 rfl) ?_
        obtain ⟨r_1, hq_2, hf⟩ := ob1_some hf
        refine vm_cVi (isC := [0, 1]) (wc := (wd_X8_cells Γ q0 q1 d0 d1 d2 d3 d4 d5 d6 d7 d8 d9 d10 d11 d12 d13 length undoMany zeroKept oneKept seen spot kind begin letters figures value plated driven rows periods leastPeriod sv)) (w1 := (wd_X8_cells Γ q0 q1 d0 d1 d2 d3 d4 d5 d6 d7 d8 d9 d10 d11 d12 d13 length undoMany zeroKept oneKept seen spot kind begin letters figures value plated driven rows periods leastPeriod sv)) (As := []) (rest := [.int x2]) ⟨hx, hb, hml, hown, hts⟩ hE hP hD hS hA rfl rfl rfl (c_X8_cells l Γ _ q0 q1 d0 d1 d2 d3 d4 d5 d6 d7 d8 d9 d10 d11 d12 d13 length undoMany zeroKept oneKept seen spot kind begin letters figures value plated driven rows periods leastPeriod sv r_1 hq_2) (cwV 0 hts gX8_figure_X8_cells rfl rfl rfl (by decide +kernel) ⟨Nat.le_of_ble_eq_true rfl, Nat.le_of_ble_eq_true rfl⟩) (va_recv (ci := 8) (q0 := 0) hK hP rfl rfl) rfl hl.1 rfl (Nat.le_of_ble_eq_true rfl) dX8_figure_6 ⟨Nat.zero_le _, Nat.zero_le _⟩ (fun H locs hP hD hS => ?_)
        have hP : va_P Γ.1 vwCl (wd_X8_figure Γ q0 q1 d0 d1 d2 d3 d4 d5 d6 d7 d8 d9 d10 d11 d12 d13 length undoMany zeroKept oneKept seen spot kind begin letters figures value plated driven rows periods leastPeriod sv) H := hP
        have hD : va_D A (wd_X8_figure Γ q0 q1 d0 d1 d2 d3 d4 d5 d6 d7 d8 d9 d10 d11 d12 d13 length undoMany zeroKept oneKept seen spot kind begin letters figures value plated driven rows periods leastPeriod sv) := hD
        refine lv_icmp_ge (tgt := 30) hx hb dX8_figure_9 (by decide) (fun hc_3 => ?_) (fun hc_3 => ?_)
        · have hf := vm_pos hc_3 hf
          have hX := hX4
          rw [← Option.some.inj hf] at hX
          exact K_30 x1 hP hD hS (lv_sub hl [1] rfl) hX
        · have hf := vm_neg hc_3 hf
          refine lv_iload_n hx hb dX8_figure_12 rfl (lv_at hl 1 rfl) ?_
          refine lv_aload_n hx hb dX8_figure_13 rfl (lv_at hl 0 rfl) ?_
          refine va_get (D := Γ.1) (ci := 8) (v := .ref q1) (C := RX8) (T := TX8) (N := 31) hx hb hts hi8 hown hK hP 0 rfl rfl 2 (by decide) (hts (.fieldLink RX8 13 "SandPlatesModel" "s" "[I") (List.mem_of_getElem? (i := 1) rfl)) (fun _ h9 => h9) rfl dX8_figure_14 ?_
          refine lv_bipush (v := 9) hx hb dX8_figure_17 (by decide) ?_
          refine lv_iload_n hx hb dX8_figure_19 rfl (lv_at hl 2 rfl) ?_
          refine lv_iadd hx hb dX8_figure_20 ?_
          obtain ⟨hc_4, hf⟩ := vm_ck hf
          refine vm_iald hx hb hK hP 1 0 rfl rfl hc_4 (j := (9 + x2).toNatClampNeg) rfl dX8_figure_21 ?_
          refine lv_iadd hx hb dX8_figure_22 ?_
          refine lv_istore_n (lv' := [(1, .int (x1 + (sv ((9 + x2).toNatClampNeg)))), (0, .ref q0), (2, .int x2)]) hx hb dX8_figure_23 rfl hl (by decide) rfl (fun ls hl => ?_)
          refine lv_iinc (v := (x2 + 1)) (lv' := [(2, .int (x2 + 1)), (1, .int (x1 + (sv ((9 + x2).toNatClampNeg)))), (0, .ref q0)]) hx hb dX8_figure_24 hl (k := 2) rfl rfl (by decide) rfl (fun ls hl => ?_)
          refine lv_goto (tgt := 4) hx hb dX8_figure_27 (by decide) ?_
          exact ih (x1 + (sv ((9 + x2).toNatClampNeg))) (x2 + 1) hP hD hS (lv_sub hl [2, 1, 0] rfl) hf
    exact LP FU x1 x2 hP hD hS hl h1
  unfold f_X8_figure at hf
  refine lv_iconst (v := 0) hx hb dX8_figure_0 (by decide) ?_
  refine lv_istore_n (lv' := [(1, .int 0), (0, .ref q0)]) hx hb dX8_figure_1 rfl hl (by decide) rfl (fun ls hl => ?_)
  refine lv_iconst (v := 0) hx hb dX8_figure_2 (by decide) ?_
  refine lv_istore_n (lv' := [(2, .int 0), (1, .int 0), (0, .ref q0)]) hx hb dX8_figure_3 rfl hl (by decide) rfl (fun ls hl => ?_)
  exact K_4 0 0 hP hD hS (lv_sub hl [2, 1, 0] rfl) hf
def wd_X8_draws (Γ : GE) (q0 q1 q2 d0 d1 d2 d3 d4 d5 d6 d7 d8 d9 d10 d11 d12 : Nat) (length : Int32) (undoMany : Int32) (zeroKept : Int32) (oneKept : Int32) (seen : Int32) (spot : Int32) (kind : Int32) (begin : Int32) (letters : Int64) (figures : Int32) (value : Int32) (plated : Int32) (driven : Int32) (rows : Int32) (periods : Int32) (leastPeriod : Int32) (sv : Nat → Int32) (before : Nat → Int32) : va_W := [(q0, .inr (8, [.int length, .ref d0, .ref q1, .ref d1, .ref q2, .int undoMany, .ref d2, .int zeroKept, .int oneKept, .ref d3, .ref d4, .int seen, .int spot, .int kind, .int begin, .long letters, .int figures, .int value, .int plated, .int driven, .int rows, .ref d5, .ref d6, .ref d7, .ref d8, .ref d9, .ref d10, .ref d11, .ref d12, .int periods, .int leastPeriod])), (q1, .inl (Γ.2.1 0, 81, .inl sv)), (q2, .inl (Γ.2.1 0, 486, .inl before))]
def f_X8_draws_53 (undoMany : Int32) (sv : Nat → Int32) (before : Nat → Int32) (s0 : Int32) : Option (Int32 × Int32 × (Nat → Int32) × (Nat → Int32)) := some (s0, undoMany, sv, before)
def f_X8_draws_19 (undoMany : Int32) (sv : Nat → Int32) (before : Nat → Int32) : Option (Int32 × Int32 × (Nat → Int32) × (Nat → Int32)) := some ((-1), undoMany, sv, before)
def f_X8_draws (undoMany : Int32) (sv : Nat → Int32) (before : Nat → Int32) (x1 : Int32) (x2 : Int32) (x3 : Int32) : Option (Int32 × Int32 × (Nat → Int32) × (Nat → Int32)) := ob1 (f_X8_isCell sv x1 x2) (fun r_1 => if r_1 = 0 then (f_X8_draws_19 undoMany sv before) else (ob1 (f_X8_in ((x3).toInt64) 0 1) (fun r_4 => if r_4 = 0 then (f_X8_draws_19 undoMany sv before) else (ob4 (f_X8_becomes undoMany sv before ((9 + ((sv 0) * x2)) + x1) x3) (fun r_7 undoMany_8 sv_9 before_10 => if r_7 = (-2) then (f_X8_draws_53 undoMany_8 sv_9 before_10 (-2)) else (ob1 (f_X8_figure sv_9) (fun r_13 => f_X8_draws_53 undoMany_8 sv_9 before_10 r_13)))))))
set_option maxHeartbeats 4000000 in
set_option maxRecDepth 100000 in
theorem c_X8_draws (l : Launch) (Γ : GE) (sz : Nat) (q0 q1 q2 d0 d1 d2 d3 d4 d5 d6 d7 d8 d9 d10 d11 d12 : Nat) (length : Int32) (undoMany : Int32) (zeroKept : Int32) (oneKept : Int32) (seen : Int32) (spot : Int32) (kind : Int32) (begin : Int32) (letters : Int64) (figures : Int32) (value : Int32) (plated : Int32) (driven : Int32) (rows : Int32) (periods : Int32) (leastPeriod : Int32) (sv : Nat → Int32) (before : Nat → Int32) (x1 : Int32) (x2 : Int32) (x3 : Int32) (ro : Int32) (o_undoMany : Int32) (o_sv : Nat → Int32) (o_before : Nat → Int32) (hf : f_X8_draws undoMany sv before x1 x2 x3 = some (ro, o_undoMany, o_sv, o_before)) : MetI l yX8_draws wsX8_draws ({ frames := 2, cells := 0, slots := 0, locals := 47 } : Room) Γ [.ref q0, .int x1, .int x2, .int x3] (wd_X8_draws Γ q0 q1 q2 d0 d1 d2 d3 d4 d5 d6 d7 d8 d9 d10 d11 d12 length undoMany zeroKept oneKept seen spot kind begin letters figures value plated driven rows periods leastPeriod sv before) (wd_X8_draws Γ q0 q1 q2 d0 d1 d2 d3 d4 d5 d6 d7 d8 d9 d10 d11 d12 length o_undoMany zeroKept oneKept seen spot kind begin letters figures value plated driven rows periods leastPeriod o_sv o_before) sz ro := by
  refine Met.ofW (cc := cX8_draws) (maxL := 4) (ret := (some .int)) (by decide) rfl ?_
  intro p e s m args below meth c s₁ B hml hv
  obtain ⟨rfl, hsz, hE, hP, hD⟩ := hv
  have hx := B.exec
  have hb := B.bytes
  have hr := B.returns
  have hts := atoms_spec (ws := wsX8_draws) B.pre
  have hown : s.vm.findClass RX8 = some m.cls := findClass_of_methodNamed B.named
  have hlocks := B.notSynchronized
  subst hsz
  generalize hAe : va_A (wd_X8_draws Γ q0 q1 q2 d0 d1 d2 d3 d4 d5 d6 d7 d8 d9 d10 d11 d12 length undoMany zeroKept oneKept seen spot kind begin letters figures value plated driven rows periods leastPeriod sv before) s.heap.size = A at hE hD ⊢
  have hA : ∀ q : Nat, s.heap.size ≤ q → A q := fun q h => by rw [← hAe]; exact Or.inr h
  clear hAe
  have hS : va_S A s.heap s.heap [] := va_S.rf
  have hK := hE.1
  have hl := lv_entry ([.ref q0, .int x1, .int x2, .int x3]) (n := 4) (Nat.le_of_ble_eq_true rfl)
  rw [lg_entry_eq]
  generalize (lg_sl ([.ref q0, .int x1, .int x2, .int x3]) ++ List.replicate (4 - (lg_sl ([.ref q0, .int x1, .int x2, .int x3])).length) Slot.unset).toArray = ls at hl ⊢
  have hl : lv_has ls 4 [(0, .ref q0), (1, .int x1), (2, .int x2), (3, .int x3)] := hl
  have hi8 : ∀ w ∈ u_ws RX8 TX8 31, w ∈ wsX8_draws := fun w h => (List.mem_cons_of_mem _ (List.mem_append_right _ h))
  obtain ⟨out, hout⟩ : ∃ o, o = (ro, o_undoMany, o_sv, o_before) := ⟨_, rfl⟩
  rw [← hout] at hf
  obtain ⟨QQ, hQQ⟩ : ∃ Q, Q = MQ below (va_Qi (fun (r' : Int32) (_ : Unit) => r' = ro) (CQ Γ (wd_X8_draws Γ q0 q1 q2 d0 d1 d2 d3 d4 d5 d6 d7 d8 d9 d10 d11 d12 length o_undoMany zeroKept oneKept seen spot kind begin letters figures value plated driven rows periods leastPeriod o_sv o_before) A) A) (([.ref q0, .int x1, .int x2, .int x3] : List Value).toArray) s 0 0 A := ⟨_, rfl⟩
  show W p l e ({ frames := 2, cells := 0, slots := 0, locals := 47 } : Room) s m (([.ref q0, .int x1, .int x2, .int x3] : List Value).toArray) below meth c s.heap [] 0 0 (MQ below _ (([.ref q0, .int x1, .int x2, .int x3] : List Value).toArray) s 0 0 A) (F0 m 0 ls [])
  rw [← hQQ]
  have K_53 : ∀ (undoMany : Int32) (sv : Nat → Int32) (before : Nat → Int32) (s0 : Int32) {H : Heap} {locs : List Loc} {ls : Array Slot}, va_P Γ.1 vwCl (wd_X8_draws Γ q0 q1 q2 d0 d1 d2 d3 d4 d5 d6 d7 d8 d9 d10 d11 d12 length undoMany zeroKept oneKept seen spot kind begin letters figures value plated driven rows periods leastPeriod sv before) H → va_D A (wd_X8_draws Γ q0 q1 q2 d0 d1 d2 d3 d4 d5 d6 d7 d8 d9 d10 d11 d12 length undoMany zeroKept oneKept seen spot kind begin letters figures value plated driven rows periods leastPeriod sv before) → va_S A s.heap H locs → lv_has ls 4 [] → f_X8_draws_53 undoMany sv before s0 = some out → W p l e ({ frames := 2, cells := 0, slots := 0, locals := 47 } : Room) s m ([.ref q0, .int x1, .int x2, .int x3] : List Value).toArray below meth c H locs 0 0 QQ (F0 m 53 ls [.int s0]) := by
    intro undoMany sv before s0 H locs ls hP hD hS hl hf
    unfold f_X8_draws_53 at hf
    subst hout; obtain ⟨rfl, rfl, rfl, rfl⟩ := rt4 hf
    subst hQQ
    exact W.iret hx hb hr (fun t ht hW => ⟨⟨_, (), rfl, rfl, by rw [ht]; exact hP, hD⟩, hS.F ht⟩) hS.2.2 dX8_draws_53
  have K_19 : ∀ (undoMany : Int32) (sv : Nat → Int32) (before : Nat → Int32) {H : Heap} {locs : List Loc} {ls : Array Slot}, va_P Γ.1 vwCl (wd_X8_draws Γ q0 q1 q2 d0 d1 d2 d3 d4 d5 d6 d7 d8 d9 d10 d11 d12 length undoMany zeroKept oneKept seen spot kind begin letters figures value plated driven rows periods leastPeriod sv before) H → va_D A (wd_X8_draws Γ q0 q1 q2 d0 d1 d2 d3 d4 d5 d6 d7 d8 d9 d10 d11 d12 length undoMany zeroKept oneKept seen spot kind begin letters figures value plated driven rows periods leastPeriod sv before) → va_S A s.heap H locs → lv_has ls 4 [] → f_X8_draws_19 undoMany sv before = some out → W p l e ({ frames := 2, cells := 0, slots := 0, locals := 47 } : Room) s m ([.ref q0, .int x1, .int x2, .int x3] : List Value).toArray below meth c H locs 0 0 QQ (F0 m 19 ls []) := by
    intro undoMany sv before H locs ls hP hD hS hl hf
    unfold f_X8_draws_19 at hf
    refine lv_iconst (v := (-1)) hx hb dX8_draws_19 (by decide) ?_
    subst hout; obtain ⟨rfl, rfl, rfl, rfl⟩ := rt4 hf
    subst hQQ
    exact W.iret hx hb hr (fun t ht hW => ⟨⟨_, (), rfl, rfl, by rw [ht]; exact hP, hD⟩, hS.F ht⟩) hS.2.2 dX8_draws_20
  unfold f_X8_draws at hf
  refine lv_aload_n hx hb dX8_draws_0 rfl (lv_at hl 0 rfl) ?_
  refine lv_iload_n hx hb dX8_draws_1 rfl (lv_at hl 1 rfl) ?_
  refine lv_iload_n hx hb dX8_draws_2 rfl (lv_at hl 2 rfl) ?_
  obtain ⟨r_1, hq_2, hf⟩ := ob1_some hf
  refine vm_cVi (isC := [0, 1]) (wc := (wd_X8_isCell Γ q0 q1 d0 d1 q2 d2 d3 d4 d5 d6 d7 d8 d9 d10 d11 d12 length undoMany zeroKept oneKept seen spot kind begin letters figures value plated driven rows periods leastPeriod sv)) (w1 := (wd_X8_isCell Γ q0 q1 d0 d1 q2 d2 d3 d4 d5 d6 d7 d8 d9 d10 d11 d12 length undoMany zeroKept oneKept seen spot kind begin letters figures value plated driven rows periods leastPeriod sv)) (As := [.int x1, .int x2]) (rest := []) ⟨hx, hb, hml, hown, hts⟩ hE hP hD hS hA rfl rfl rfl (c_X8_isCell l Γ _ q0 q1 d0 d1 q2 d2 d3 d4 d5 d6 d7 d8 d9 d10 d11 d12 length undoMany zeroKept oneKept seen spot kind begin letters figures value plated driven rows periods leastPeriod sv x1 x2 r_1 hq_2) (cwV 2 hts gX8_draws_X8_isCell rfl rfl rfl (by decide +kernel) ⟨Nat.le_of_ble_eq_true rfl, Nat.le_of_ble_eq_true rfl⟩) (va_recv (ci := 8) (q0 := 0) hK hP rfl rfl) rfl hl.1 rfl (Nat.le_of_ble_eq_true rfl) dX8_draws_3 ⟨Nat.zero_le _, Nat.zero_le _⟩ (fun H locs hP hD hS => ?_)
  have hP : va_P Γ.1 vwCl (wd_X8_draws Γ q0 q1 q2 d0 d1 d2 d3 d4 d5 d6 d7 d8 d9 d10 d11 d12 length undoMany zeroKept oneKept seen spot kind begin letters figures value plated driven rows periods leastPeriod sv before) H := hP
  have hD : va_D A (wd_X8_draws Γ q0 q1 q2 d0 d1 d2 d3 d4 d5 d6 d7 d8 d9 d10 d11 d12 length undoMany zeroKept oneKept seen spot kind begin letters figures value plated driven rows periods leastPeriod sv before) := hD
  refine lv_if_eq (tgt := 19) hx hb dX8_draws_6 (by decide) (fun hc_3 => ?_) (fun hc_3 => ?_)
  · have hf := vm_pos hc_3 hf
    exact K_19 undoMany sv before hP hD hS (lv_sub hl [] rfl) hf
  · have hf := vm_neg hc_3 hf
    refine lv_iload_n hx hb dX8_draws_9 rfl (lv_at hl 3 rfl) ?_
    refine lv_i2l hx hb dX8_draws_10 rfl ?_
    refine lv_lconst (v := 0) hx hb dX8_draws_11 (by decide) ?_
    refine lv_lconst (v := 1) hx hb dX8_draws_12 (by decide) ?_
    obtain ⟨r_4, hq_5, hf⟩ := ob1_some hf
    refine vm_cSi (isC := []) (wc := (wd_X8_in Γ)) (w1 := (wd_X8_in Γ)) (As := [.long ((x3).toInt64), .long 0, .long 1]) (rest := []) ⟨hx, hb, hml, hown, hts⟩ hE hP hD hS hA rfl rfl rfl (c_X8_in l Γ _ ((x3).toInt64) 0 1 r_4 hq_5) (va_cwS 3 hts gX8_draws_X8_in rfl rfl rfl (by decide +kernel) ⟨Nat.le_of_ble_eq_true rfl, Nat.le_of_ble_eq_true rfl⟩) rfl hl.1 rfl (Nat.le_of_ble_eq_true rfl) dX8_draws_13 ⟨Nat.zero_le _, Nat.zero_le _⟩ (fun H locs hP hD hS => ?_)
    have hP : va_P Γ.1 vwCl (wd_X8_draws Γ q0 q1 q2 d0 d1 d2 d3 d4 d5 d6 d7 d8 d9 d10 d11 d12 length undoMany zeroKept oneKept seen spot kind begin letters figures value plated driven rows periods leastPeriod sv before) H := hP
    have hD : va_D A (wd_X8_draws Γ q0 q1 q2 d0 d1 d2 d3 d4 d5 d6 d7 d8 d9 d10 d11 d12 length undoMany zeroKept oneKept seen spot kind begin letters figures value plated driven rows periods leastPeriod sv before) := hD
    refine lv_if_ne (tgt := 21) hx hb dX8_draws_16 (by decide) (fun hc_6 => ?_) (fun hc_6 => ?_)
    · have hf := vm_neg hc_6 hf
      refine lv_aload_n hx hb dX8_draws_21 rfl (lv_at hl 0 rfl) ?_
      refine lv_bipush (v := 9) hx hb dX8_draws_22 (by decide) ?_
      refine lv_aload_n hx hb dX8_draws_24 rfl (lv_at hl 0 rfl) ?_
      refine va_get (D := Γ.1) (ci := 8) (v := .ref q1) (C := RX8) (T := TX8) (N := 31) hx hb hts hi8 hown hK hP 0 rfl rfl 2 (by decide) (hts (.fieldLink RX8 13 "SandPlatesModel" "s" "[I") (List.mem_of_getElem? (i := 1) rfl)) (fun _ h9 => h9) rfl dX8_draws_25 ?_
      refine lv_iconst (v := 0) hx hb dX8_draws_28 (by decide) ?_
      refine vm_iald hx hb hK hP 1 0 rfl rfl (by decide +kernel) (j := 0) rfl dX8_draws_29 ?_
      refine lv_iload_n hx hb dX8_draws_30 rfl (lv_at hl 2 rfl) ?_
      refine lv_imul hx hb dX8_draws_31 ?_
      refine lv_iadd hx hb dX8_draws_32 ?_
      refine lv_iload_n hx hb dX8_draws_33 rfl (lv_at hl 1 rfl) ?_
      refine lv_iadd hx hb dX8_draws_34 ?_
      refine lv_iload_n hx hb dX8_draws_35 rfl (lv_at hl 3 rfl) ?_
      obtain ⟨r_7, undoMany_8, sv_9, before_10, hq_11, hf⟩ := ob4_some hf
      refine vm_cVi (isC := [0, 1, 2]) (wc := (wd_X8_becomes Γ q0 q1 q2 d0 d1 d2 d3 d4 d5 d6 d7 d8 d9 d10 d11 d12 length undoMany zeroKept oneKept seen spot kind begin letters figures value plated driven rows periods leastPeriod sv before)) (w1 := (wd_X8_becomes Γ q0 q1 q2 d0 d1 d2 d3 d4 d5 d6 d7 d8 d9 d10 d11 d12 length undoMany_8 zeroKept oneKept seen spot kind begin letters figures value plated driven rows periods leastPeriod sv_9 before_10)) (As := [.int ((9 + ((sv 0) * x2)) + x1), .int x3]) (rest := []) ⟨hx, hb, hml, hown, hts⟩ hE hP hD hS hA rfl rfl rfl (c_X8_becomes l Γ _ q0 q1 q2 d0 d1 d2 d3 d4 d5 d6 d7 d8 d9 d10 d11 d12 length undoMany zeroKept oneKept seen spot kind begin letters figures value plated driven rows periods leastPeriod sv before ((9 + ((sv 0) * x2)) + x1) x3 r_7 undoMany_8 sv_9 before_10 hq_11) (cwV 2 hts gX8_draws_X8_becomes rfl rfl rfl (by decide +kernel) ⟨Nat.le_of_ble_eq_true rfl, Nat.le_of_ble_eq_true rfl⟩) (va_recv (ci := 8) (q0 := 0) hK hP rfl rfl) rfl hl.1 rfl (Nat.le_of_ble_eq_true rfl) dX8_draws_36 ⟨Nat.zero_le _, Nat.zero_le _⟩ (fun H locs hP hD hS => ?_)
      have hP : va_P Γ.1 vwCl (wd_X8_draws Γ q0 q1 q2 d0 d1 d2 d3 d4 d5 d6 d7 d8 d9 d10 d11 d12 length undoMany_8 zeroKept oneKept seen spot kind begin letters figures value plated driven rows periods leastPeriod sv_9 before_10) H := hP
      have hD : va_D A (wd_X8_draws Γ q0 q1 q2 d0 d1 d2 d3 d4 d5 d6 d7 d8 d9 d10 d11 d12 length undoMany_8 zeroKept oneKept seen spot kind begin letters figures value plated driven rows periods leastPeriod sv_9 before_10) := hD
      refine lv_bipush (v := (-2)) hx hb dX8_draws_39 (by decide) ?_
      refine lv_icmp_ne (tgt := 49) hx hb dX8_draws_41 (by decide) (fun hc_12 => ?_) (fun hc_12 => ?_)
      · have hf := vm_neg hc_12 hf
        refine lv_aload_n hx hb dX8_draws_49 rfl (lv_at hl 0 rfl) ?_
        obtain ⟨r_13, hq_14, hf⟩ := ob1_some hf
        refine vm_cVi (isC := [0, 1]) (wc := (wd_X8_figure Γ q0 q1 d0 d1 q2 d2 d3 d4 d5 d6 d7 d8 d9 d10 d11 d12 length undoMany_8 zeroKept oneKept seen spot kind begin letters figures value plated driven rows periods leastPeriod sv_9)) (w1 := (wd_X8_figure Γ q0 q1 d0 d1 q2 d2 d3 d4 d5 d6 d7 d8 d9 d10 d11 d12 length undoMany_8 zeroKept oneKept seen spot kind begin letters figures value plated driven rows periods leastPeriod sv_9)) (As := []) (rest := []) ⟨hx, hb, hml, hown, hts⟩ hE hP hD hS hA rfl rfl rfl (c_X8_figure l Γ _ q0 q1 d0 d1 q2 d2 d3 d4 d5 d6 d7 d8 d9 d10 d11 d12 length undoMany_8 zeroKept oneKept seen spot kind begin letters figures value plated driven rows periods leastPeriod sv_9 r_13 hq_14) (cwV 0 hts gX8_draws_X8_figure rfl rfl rfl (by decide +kernel) ⟨Nat.le_of_ble_eq_true rfl, Nat.le_of_ble_eq_true rfl⟩) (va_recv (ci := 8) (q0 := 0) hK hP rfl rfl) rfl hl.1 rfl (Nat.le_of_ble_eq_true rfl) dX8_draws_50 ⟨Nat.zero_le _, Nat.zero_le _⟩ (fun H locs hP hD hS => ?_)
        have hP : va_P Γ.1 vwCl (wd_X8_draws Γ q0 q1 q2 d0 d1 d2 d3 d4 d5 d6 d7 d8 d9 d10 d11 d12 length undoMany_8 zeroKept oneKept seen spot kind begin letters figures value plated driven rows periods leastPeriod sv_9 before_10) H := hP
        have hD : va_D A (wd_X8_draws Γ q0 q1 q2 d0 d1 d2 d3 d4 d5 d6 d7 d8 d9 d10 d11 d12 length undoMany_8 zeroKept oneKept seen spot kind begin letters figures value plated driven rows periods leastPeriod sv_9 before_10) := hD
        exact K_53 undoMany_8 sv_9 before_10 r_13 hP hD hS (lv_sub hl [] rfl) hf
      · have hf := vm_pos hc_12 hf
        refine lv_bipush (v := (-2)) hx hb dX8_draws_44 (by decide) ?_
        refine lv_goto (tgt := 53) hx hb dX8_draws_46 (by decide) ?_
        exact K_53 undoMany_8 sv_9 before_10 (-2) hP hD hS (lv_sub hl [] rfl) hf
    · have hf := vm_pos hc_6 hf
      exact K_19 undoMany sv before hP hD hS (lv_sub hl [] rfl) hf
def wd_X8_sands (Γ : GE) (q0 q1 q2 d0 d1 d2 d3 d4 d5 d6 d7 d8 d9 d10 d11 d12 : Nat) (length : Int32) (undoMany : Int32) (zeroKept : Int32) (oneKept : Int32) (seen : Int32) (spot : Int32) (kind : Int32) (begin : Int32) (letters : Int64) (figures : Int32) (value : Int32) (plated : Int32) (driven : Int32) (rows : Int32) (periods : Int32) (leastPeriod : Int32) (sv : Nat → Int32) (before : Nat → Int32) : va_W := [(q0, .inr (8, [.int length, .ref d0, .ref q1, .ref d1, .ref q2, .int undoMany, .ref d2, .int zeroKept, .int oneKept, .ref d3, .ref d4, .int seen, .int spot, .int kind, .int begin, .long letters, .int figures, .int value, .int plated, .int driven, .int rows, .ref d5, .ref d6, .ref d7, .ref d8, .ref d9, .ref d10, .ref d11, .ref d12, .int periods, .int leastPeriod])), (q1, .inl (Γ.2.1 0, 81, .inl sv)), (q2, .inl (Γ.2.1 0, 486, .inl before))]
def f_X8_sands_74 (undoMany : Int32) (sv : Nat → Int32) (before : Nat → Int32) (x1 : Int32) : Option (Int32 × Int32 × (Nat → Int32) × (Nat → Int32)) := some (x1, undoMany, sv, before)
def f_X8_sands_52b (undoMany : Int32) (before : Nat → Int32) (x1 : Int32) (sv : Nat → Int32) (x2 : Int32) (k : (((Nat → Int32) × Int32) → Option (Nat → Int32))) : Option (Nat → Int32) := if 36 ≤ x2 then (some sv) else (if inb (45 + x2) 81 = true then k ((upd sv ((45 + x2).toNatClampNeg) 1), (x2 + 1)) else none)
def f_X8_sands_52s (undoMany : Int32) (before : Nat → Int32) (x1 : Int32) : ((Nat → Int32) × Int32) → (((Nat → Int32) × Int32) → Option (Nat → Int32)) → Option (Nat → Int32) := fun t k => f_X8_sands_52b undoMany before x1 t.1 t.2 k
def f_X8_sands_52 (undoMany : Int32) (sv : Nat → Int32) (before : Nat → Int32) (x1 : Int32) (x2 : Int32) : Option (Int32 × Int32 × (Nat → Int32) × (Nat → Int32)) := obx (vm_it (f_X8_sands_52s undoMany before x1) FU (sv, x2)) (fun sv => f_X8_sands_74 undoMany sv before x1)
def f_X8_sands_39 (undoMany : Int32) (sv : Nat → Int32) (before : Nat → Int32) (x1 : Int32) : Option (Int32 × Int32 × (Nat → Int32) × (Nat → Int32)) := if x1 = 0 then (some ((-2), undoMany, sv, before)) else (ob2 (f_X8_note undoMany sv before) (fun undoMany_4 before_5 => f_X8_sands_52 undoMany_4 sv before_5 x1 0))
def f_X8_sands_31 (undoMany : Int32) (sv : Nat → Int32) (before : Nat → Int32) (x2 : Int32) (s0 : Int32) (s1 : Int32) (k : ((Int32 × Int32) → Option Int32)) : Option Int32 := k ((s0 + s1), (x2 + 1))
def f_X8_sands_4b (undoMany : Int32) (sv : Nat → Int32) (before : Nat → Int32) (x1 : Int32) (x2 : Int32) (k : ((Int32 × Int32) → Option Int32)) : Option Int32 := ob1 (f_X8_cells sv) (fun r_7 => if r_7 ≤ x2 then (some x1) else (if inb (45 + x2) 81 = true then if (sv ((45 + x2).toNatClampNeg)) = 1 then (f_X8_sands_31 undoMany sv before x2 x1 0 k) else (f_X8_sands_31 undoMany sv before x2 x1 1 k) else none))
def f_X8_sands_4s (undoMany : Int32) (sv : Nat → Int32) (before : Nat → Int32) : (Int32 × Int32) → ((Int32 × Int32) → Option Int32) → Option Int32 := fun t k => f_X8_sands_4b undoMany sv before t.1 t.2 k
def f_X8_sands_4 (undoMany : Int32) (sv : Nat → Int32) (before : Nat → Int32) (x1 : Int32) (x2 : Int32) : Option (Int32 × Int32 × (Nat → Int32) × (Nat → Int32)) := obx (vm_it (f_X8_sands_4s undoMany sv before) FU (x1, x2)) (fun x1 => f_X8_sands_39 undoMany sv before x1)
def f_X8_sands (undoMany : Int32) (sv : Nat → Int32) (before : Nat → Int32) : Option (Int32 × Int32 × (Nat → Int32) × (Nat → Int32)) := f_X8_sands_4 undoMany sv before 0 0
set_option maxHeartbeats 4000000 in
set_option maxRecDepth 100000 in
theorem c_X8_sands (l : Launch) (Γ : GE) (sz : Nat) (q0 q1 q2 d0 d1 d2 d3 d4 d5 d6 d7 d8 d9 d10 d11 d12 : Nat) (length : Int32) (undoMany : Int32) (zeroKept : Int32) (oneKept : Int32) (seen : Int32) (spot : Int32) (kind : Int32) (begin : Int32) (letters : Int64) (figures : Int32) (value : Int32) (plated : Int32) (driven : Int32) (rows : Int32) (periods : Int32) (leastPeriod : Int32) (sv : Nat → Int32) (before : Nat → Int32) (ro : Int32) (o_undoMany : Int32) (o_sv : Nat → Int32) (o_before : Nat → Int32) (hf : f_X8_sands undoMany sv before = some (ro, o_undoMany, o_sv, o_before)) : MetI l yX8_sands wsX8_sands ({ frames := 1, cells := 0, slots := 0, locals := 21 } : Room) Γ [.ref q0] (wd_X8_sands Γ q0 q1 q2 d0 d1 d2 d3 d4 d5 d6 d7 d8 d9 d10 d11 d12 length undoMany zeroKept oneKept seen spot kind begin letters figures value plated driven rows periods leastPeriod sv before) (wd_X8_sands Γ q0 q1 q2 d0 d1 d2 d3 d4 d5 d6 d7 d8 d9 d10 d11 d12 length o_undoMany zeroKept oneKept seen spot kind begin letters figures value plated driven rows periods leastPeriod o_sv o_before) sz ro := by
  refine Met.ofW (cc := cX8_sands) (maxL := 3) (ret := (some .int)) (by decide) rfl ?_
  intro p e s m args below meth c s₁ B hml hv
  obtain ⟨rfl, hsz, hE, hP, hD⟩ := hv
  have hx := B.exec
  have hb := B.bytes
  have hr := B.returns
  have hts := atoms_spec (ws := wsX8_sands) B.pre
  have hown : s.vm.findClass RX8 = some m.cls := findClass_of_methodNamed B.named
  have hlocks := B.notSynchronized
  subst hsz
  generalize hAe : va_A (wd_X8_sands Γ q0 q1 q2 d0 d1 d2 d3 d4 d5 d6 d7 d8 d9 d10 d11 d12 length undoMany zeroKept oneKept seen spot kind begin letters figures value plated driven rows periods leastPeriod sv before) s.heap.size = A at hE hD ⊢
  have hA : ∀ q : Nat, s.heap.size ≤ q → A q := fun q h => by rw [← hAe]; exact Or.inr h
  clear hAe
  have hS : va_S A s.heap s.heap [] := va_S.rf
  have hK := hE.1
  have hl := lv_entry ([.ref q0]) (n := 3) (Nat.le_of_ble_eq_true rfl)
  rw [lg_entry_eq]
  generalize (lg_sl ([.ref q0]) ++ List.replicate (3 - (lg_sl ([.ref q0])).length) Slot.unset).toArray = ls at hl ⊢
  have hl : lv_has ls 3 [(0, .ref q0)] := hl
  have hi8 : ∀ w ∈ u_ws RX8 TX8 31, w ∈ wsX8_sands := fun w h => (List.mem_cons_of_mem _ (List.mem_append_right _ h))
  obtain ⟨out, hout⟩ : ∃ o, o = (ro, o_undoMany, o_sv, o_before) := ⟨_, rfl⟩
  rw [← hout] at hf
  obtain ⟨QQ, hQQ⟩ : ∃ Q, Q = MQ below (va_Qi (fun (r' : Int32) (_ : Unit) => r' = ro) (CQ Γ (wd_X8_sands Γ q0 q1 q2 d0 d1 d2 d3 d4 d5 d6 d7 d8 d9 d10 d11 d12 length o_undoMany zeroKept oneKept seen spot kind begin letters figures value plated driven rows periods leastPeriod o_sv o_before) A) A) (([.ref q0] : List Value).toArray) s 0 0 A := ⟨_, rfl⟩
  show W p l e ({ frames := 1, cells := 0, slots := 0, locals := 21 } : Room) s m (([.ref q0] : List Value).toArray) below meth c s.heap [] 0 0 (MQ below _ (([.ref q0] : List Value).toArray) s 0 0 A) (F0 m 0 ls [])
  rw [← hQQ]
  have K_74 : ∀ (undoMany : Int32) (sv : Nat → Int32) (before : Nat → Int32) (x1 : Int32) {H : Heap} {locs : List Loc} {ls : Array Slot}, va_P Γ.1 vwCl (wd_X8_sands Γ q0 q1 q2 d0 d1 d2 d3 d4 d5 d6 d7 d8 d9 d10 d11 d12 length undoMany zeroKept oneKept seen spot kind begin letters figures value plated driven rows periods leastPeriod sv before) H → va_D A (wd_X8_sands Γ q0 q1 q2 d0 d1 d2 d3 d4 d5 d6 d7 d8 d9 d10 d11 d12 length undoMany zeroKept oneKept seen spot kind begin letters figures value plated driven rows periods leastPeriod sv before) → va_S A s.heap H locs → lv_has ls 3 [(1, .int x1)] → f_X8_sands_74 undoMany sv before x1 = some out → W p l e ({ frames := 1, cells := 0, slots := 0, locals := 21 } : Room) s m ([.ref q0] : List Value).toArray below meth c H locs 0 0 QQ (F0 m 74 ls []) := by
    intro undoMany sv before x1 H locs ls hP hD hS hl hf
    unfold f_X8_sands_74 at hf
    refine lv_iload_n hx hb dX8_sands_74 rfl (lv_at hl 0 rfl) ?_
    subst hout; obtain ⟨rfl, rfl, rfl, rfl⟩ := rt4 hf
    subst hQQ
    exact W.iret hx hb hr (fun t ht hW => ⟨⟨_, (), rfl, rfl, by rw [ht]; exact hP, hD⟩, hS.F ht⟩) hS.2.2 dX8_sands_75
  have K_52 : ∀ (undoMany : Int32) (sv : Nat → Int32) (before : Nat → Int32) (x1 : Int32) (x2 : Int32) {H : Heap} {locs : List Loc} {ls : Array Slot}, va_P Γ.1 vwCl (wd_X8_sands Γ q0 q1 q2 d0 d1 d2 d3 d4 d5 d6 d7 d8 d9 d10 d11 d12 length undoMany zeroKept oneKept seen spot kind begin letters figures value plated driven rows periods leastPeriod sv before) H → va_D A (wd_X8_sands Γ q0 q1 q2 d0 d1 d2 d3 d4 d5 d6 d7 d8 d9 d10 d11 d12 length undoMany zeroKept oneKept seen spot kind begin letters figures value plated driven rows periods leastPeriod sv before) → va_S A s.heap H locs → lv_has ls 3 [(0, .ref q0), (1, .int x1), (2, .int x2)] → f_X8_sands_52 undoMany sv before x1 x2 = some out → W p l e ({ frames := 1, cells := 0, slots := 0, locals := 21 } : Room) s m ([.ref q0] : List Value).toArray below meth c H locs 0 0 QQ (F0 m 52 ls []) := by
    intro undoMany sv before x1 x2 H locs ls hP hD hS hl hf
    unfold f_X8_sands_52 at hf
    obtain ⟨ex52, h1, hX52⟩ := obx_some hf
    have LP : ∀ (n : Nat) (sv : Nat → Int32) (x2 : Int32)  {H : Heap} {locs : List Loc} {ls : Array Slot}, va_P Γ.1 vwCl (wd_X8_sands Γ q0 q1 q2 d0 d1 d2 d3 d4 d5 d6 d7 d8 d9 d10 d11 d12 length undoMany zeroKept oneKept seen spot kind begin letters figures value plated driven rows periods leastPeriod sv before) H → va_D A (wd_X8_sands Γ q0 q1 q2 d0 d1 d2 d3 d4 d5 d6 d7 d8 d9 d10 d11 d12 length undoMany zeroKept oneKept seen spot kind begin letters figures value plated driven rows periods leastPeriod sv before) → va_S A s.heap H locs → lv_has ls 3 [(0, .ref q0), (1, .int x1), (2, .int x2)] → vm_it (f_X8_sands_52s undoMany before x1) n (sv, x2) = some ex52 → W p l e ({ frames := 1, cells := 0, slots := 0, locals := 21 } : Room) s m ([.ref q0] : List Value).toArray below meth c H locs 0 0 QQ (F0 m 52 ls []) := by
      clear hP hD hS hl hf h1
      intro n
      induction n with
      | zero => intro sv x2 H locs ls hP hD hS hl hf; exact (vm_it_0 hf).elim
      | succ n ih =>
        intro sv x2 H locs ls hP hD hS hl hf
        have hf : f_X8_sands_52b undoMany before x1 sv x2 (vm_it (f_X8_sands_52s undoMany before x1) n) = some ex52 := hf
        unfold f_X8_sands_52b at hf
        refine lv_iload_n hx hb dX8_sands_52 rfl (lv_at hl 2 rfl) ?_
        refine lv_bipush (v := 36) hx hb dX8_sands_53 (by decide) ?_
        refine lv_icmp_ge (tgt := 74) hx hb dX8_sands_55 (by decide) (fun hc_1 => ?_) (fun hc_1 => ?_)
        · have hf := vm_pos hc_1 hf
          have hX := hX52
          rw [← Option.some.inj hf] at hX
          exact K_74 undoMany sv before x1 hP hD hS (lv_sub hl [1] rfl) hX
        · have hf := vm_neg hc_1 hf
          refine lv_aload_n hx hb dX8_sands_58 rfl (lv_at hl 0 rfl) ?_
          refine va_get (D := Γ.1) (ci := 8) (v := .ref q1) (C := RX8) (T := TX8) (N := 31) hx hb hts hi8 hown hK hP 0 rfl rfl 2 (by decide) (hts (.fieldLink RX8 13 "SandPlatesModel" "s" "[I") (List.mem_of_getElem? (i := 1) rfl)) (fun _ h9 => h9) rfl dX8_sands_59 ?_
          refine lv_bipush (v := 45) hx hb dX8_sands_62 (by decide) ?_
          refine lv_iload_n hx hb dX8_sands_64 rfl (lv_at hl 2 rfl) ?_
          refine lv_iadd hx hb dX8_sands_65 ?_
          refine lv_iconst (v := 1) hx hb dX8_sands_66 (by decide) ?_
          obtain ⟨hc_2, hf⟩ := vm_ck hf
          refine vm_iast hx hb hK hP hD hS 1 0 rfl rfl hc_2 (j := ((45 + x2).toNatClampNeg)) rfl dX8_sands_67 (fun H locs hP hD hS => ?_)
          have hP : va_P Γ.1 vwCl (wd_X8_sands Γ q0 q1 q2 d0 d1 d2 d3 d4 d5 d6 d7 d8 d9 d10 d11 d12 length undoMany zeroKept oneKept seen spot kind begin letters figures value plated driven rows periods leastPeriod (upd sv ((45 + x2).toNatClampNeg) 1) before) H := hP
          have hD : va_D A (wd_X8_sands Γ q0 q1 q2 d0 d1 d2 d3 d4 d5 d6 d7 d8 d9 d10 d11 d12 length undoMany zeroKept oneKept seen spot kind begin letters figures value plated driven rows periods leastPeriod (upd sv ((45 + x2).toNatClampNeg) 1) before) := hD
          refine lv_iinc (v := (x2 + 1)) (lv' := [(2, .int (x2 + 1)), (0, .ref q0), (1, .int x1)]) hx hb dX8_sands_68 hl (k := 2) rfl rfl (by decide) rfl (fun ls hl => ?_)
          refine lv_goto (tgt := 52) hx hb dX8_sands_71 (by decide) ?_
          exact ih (upd sv ((45 + x2).toNatClampNeg) 1) (x2 + 1) hP hD hS (lv_sub hl [1, 2, 0] rfl) hf
    exact LP FU sv x2 hP hD hS hl h1
  have K_39 : ∀ (undoMany : Int32) (sv : Nat → Int32) (before : Nat → Int32) (x1 : Int32) {H : Heap} {locs : List Loc} {ls : Array Slot}, va_P Γ.1 vwCl (wd_X8_sands Γ q0 q1 q2 d0 d1 d2 d3 d4 d5 d6 d7 d8 d9 d10 d11 d12 length undoMany zeroKept oneKept seen spot kind begin letters figures value plated driven rows periods leastPeriod sv before) H → va_D A (wd_X8_sands Γ q0 q1 q2 d0 d1 d2 d3 d4 d5 d6 d7 d8 d9 d10 d11 d12 length undoMany zeroKept oneKept seen spot kind begin letters figures value plated driven rows periods leastPeriod sv before) → va_S A s.heap H locs → lv_has ls 3 [(0, .ref q0), (1, .int x1)] → f_X8_sands_39 undoMany sv before x1 = some out → W p l e ({ frames := 1, cells := 0, slots := 0, locals := 21 } : Room) s m ([.ref q0] : List Value).toArray below meth c H locs 0 0 QQ (F0 m 39 ls []) := by
    intro undoMany sv before x1 H locs ls hP hD hS hl hf
    unfold f_X8_sands_39 at hf
    refine lv_iload_n hx hb dX8_sands_39 rfl (lv_at hl 1 rfl) ?_
    refine lv_if_ne (tgt := 46) hx hb dX8_sands_40 (by decide) (fun hc_3 => ?_) (fun hc_3 => ?_)
    · have hf := vm_neg hc_3 hf
      refine lv_aload_n hx hb dX8_sands_46 rfl (lv_at hl 0 rfl) ?_
      obtain ⟨undoMany_4, before_5, hq_6, hf⟩ := ob2_some hf
      refine vm_cVv (isC := [0, 1, 2]) (wc := (wd_X8_note Γ q0 q1 q2 d0 d1 d2 d3 d4 d5 d6 d7 d8 d9 d10 d11 d12 length undoMany zeroKept oneKept seen spot kind begin letters figures value plated driven rows periods leastPeriod sv before)) (w1 := (wd_X8_note Γ q0 q1 q2 d0 d1 d2 d3 d4 d5 d6 d7 d8 d9 d10 d11 d12 length undoMany_4 zeroKept oneKept seen spot kind begin letters figures value plated driven rows periods leastPeriod sv before_5)) (As := []) (rest := []) ⟨hx, hb, hml, hown, hts⟩ hE hP hD hS hA rfl rfl rfl (c_X8_note l Γ _ q0 q1 q2 d0 d1 d2 d3 d4 d5 d6 d7 d8 d9 d10 d11 d12 length undoMany zeroKept oneKept seen spot kind begin letters figures value plated driven rows periods leastPeriod sv before undoMany_4 before_5 hq_6) (cwV 0 hts gX8_sands_X8_note rfl rfl rfl (by decide +kernel) ⟨Nat.le_of_ble_eq_true rfl, Nat.le_of_ble_eq_true rfl⟩) (va_recv (ci := 8) (q0 := 0) hK hP rfl rfl) rfl hl.1 rfl (Nat.le_of_ble_eq_true rfl) dX8_sands_47 ⟨Nat.zero_le _, Nat.zero_le _⟩ (fun H locs hP hD hS => ?_)
      have hP : va_P Γ.1 vwCl (wd_X8_sands Γ q0 q1 q2 d0 d1 d2 d3 d4 d5 d6 d7 d8 d9 d10 d11 d12 length undoMany_4 zeroKept oneKept seen spot kind begin letters figures value plated driven rows periods leastPeriod sv before_5) H := hP
      have hD : va_D A (wd_X8_sands Γ q0 q1 q2 d0 d1 d2 d3 d4 d5 d6 d7 d8 d9 d10 d11 d12 length undoMany_4 zeroKept oneKept seen spot kind begin letters figures value plated driven rows periods leastPeriod sv before_5) := hD
      refine lv_iconst (v := 0) hx hb dX8_sands_50 (by decide) ?_
      refine lv_istore_n (lv' := [(2, .int 0), (0, .ref q0), (1, .int x1)]) hx hb dX8_sands_51 rfl hl (by decide) rfl (fun ls hl => ?_)
      exact K_52 undoMany_4 sv before_5 x1 0 hP hD hS (lv_sub hl [1, 2, 0] rfl) hf
    · have hf := vm_pos hc_3 hf
      refine lv_bipush (v := (-2)) hx hb dX8_sands_43 (by decide) ?_
      subst hout; obtain ⟨rfl, rfl, rfl, rfl⟩ := rt4 hf
      subst hQQ
      exact W.iret hx hb hr (fun t ht hW => ⟨⟨_, (), rfl, rfl, by rw [ht]; exact hP, hD⟩, hS.F ht⟩) hS.2.2 dX8_sands_45
  have K_4 : ∀ (undoMany : Int32) (sv : Nat → Int32) (before : Nat → Int32) (x1 : Int32) (x2 : Int32) {H : Heap} {locs : List Loc} {ls : Array Slot}, va_P Γ.1 vwCl (wd_X8_sands Γ q0 q1 q2 d0 d1 d2 d3 d4 d5 d6 d7 d8 d9 d10 d11 d12 length undoMany zeroKept oneKept seen spot kind begin letters figures value plated driven rows periods leastPeriod sv before) H → va_D A (wd_X8_sands Γ q0 q1 q2 d0 d1 d2 d3 d4 d5 d6 d7 d8 d9 d10 d11 d12 length undoMany zeroKept oneKept seen spot kind begin letters figures value plated driven rows periods leastPeriod sv before) → va_S A s.heap H locs → lv_has ls 3 [(0, .ref q0), (1, .int x1), (2, .int x2)] → f_X8_sands_4 undoMany sv before x1 x2 = some out → W p l e ({ frames := 1, cells := 0, slots := 0, locals := 21 } : Room) s m ([.ref q0] : List Value).toArray below meth c H locs 0 0 QQ (F0 m 4 ls []) := by
    intro undoMany sv before x1 x2 H locs ls hP hD hS hl hf
    unfold f_X8_sands_4 at hf
    obtain ⟨ex4, h1, hX4⟩ := obx_some hf
    have LP : ∀ (n : Nat) (x1 : Int32) (x2 : Int32)  {H : Heap} {locs : List Loc} {ls : Array Slot}, va_P Γ.1 vwCl (wd_X8_sands Γ q0 q1 q2 d0 d1 d2 d3 d4 d5 d6 d7 d8 d9 d10 d11 d12 length undoMany zeroKept oneKept seen spot kind begin letters figures value plated driven rows periods leastPeriod sv before) H → va_D A (wd_X8_sands Γ q0 q1 q2 d0 d1 d2 d3 d4 d5 d6 d7 d8 d9 d10 d11 d12 length undoMany zeroKept oneKept seen spot kind begin letters figures value plated driven rows periods leastPeriod sv before) → va_S A s.heap H locs → lv_has ls 3 [(0, .ref q0), (1, .int x1), (2, .int x2)] → vm_it (f_X8_sands_4s undoMany sv before) n (x1, x2) = some ex4 → W p l e ({ frames := 1, cells := 0, slots := 0, locals := 21 } : Room) s m ([.ref q0] : List Value).toArray below meth c H locs 0 0 QQ (F0 m 4 ls []) := by
      clear hP hD hS hl hf h1
      intro n
      induction n with
      | zero => intro x1 x2 H locs ls hP hD hS hl hf; exact (vm_it_0 hf).elim
      | succ n ih =>
        intro x1 x2 H locs ls hP hD hS hl hf
        have hf : f_X8_sands_4b undoMany sv before x1 x2 (vm_it (f_X8_sands_4s undoMany sv before) n) = some ex4 := hf
        have K_31 : ∀ (x2 : Int32) (s0 : Int32) (s1 : Int32) {H : Heap} {locs : List Loc} {ls : Array Slot}, va_P Γ.1 vwCl (wd_X8_sands Γ q0 q1 q2 d0 d1 d2 d3 d4 d5 d6 d7 d8 d9 d10 d11 d12 length undoMany zeroKept oneKept seen spot kind begin letters figures value plated driven rows periods leastPeriod sv before) H → va_D A (wd_X8_sands Γ q0 q1 q2 d0 d1 d2 d3 d4 d5 d6 d7 d8 d9 d10 d11 d12 length undoMany zeroKept oneKept seen spot kind begin letters figures value plated driven rows periods leastPeriod sv before) → va_S A s.heap H locs → lv_has ls 3 [(0, .ref q0), (2, .int x2)] → f_X8_sands_31 undoMany sv before x2 s0 s1 (vm_it (f_X8_sands_4s undoMany sv before) n) = some ex4 → W p l e ({ frames := 1, cells := 0, slots := 0, locals := 21 } : Room) s m ([.ref q0] : List Value).toArray below meth c H locs 0 0 QQ (F0 m 31 ls [.int s1, .int s0]) := by
          intro x2 s0 s1 H locs ls hP hD hS hl hf
          unfold f_X8_sands_31 at hf
          refine lv_iadd hx hb dX8_sands_31 ?_
          refine lv_istore_n (lv' := [(1, .int (s0 + s1)), (0, .ref q0), (2, .int x2)]) hx hb dX8_sands_32 rfl hl (by decide) rfl (fun ls hl => ?_)
          refine lv_iinc (v := (x2 + 1)) (lv' := [(2, .int (x2 + 1)), (1, .int (s0 + s1)), (0, .ref q0)]) hx hb dX8_sands_33 hl (k := 2) rfl rfl (by decide) rfl (fun ls hl => ?_)
          refine lv_goto (tgt := 4) hx hb dX8_sands_36 (by decide) ?_
          exact ih (s0 + s1) (x2 + 1) hP hD hS (lv_sub hl [2, 1, 0] rfl) hf
        unfold f_X8_sands_4b at hf
        refine lv_iload_n hx hb dX8_sands_4 rfl (lv_at hl 2 rfl) ?_
        refine lv_aload_n hx hb dX8_sands_5 rfl (lv_at hl 0 rfl) ?_
        obtain ⟨r_7, hq_8, hf⟩ := ob1_some hf
        refine vm_cVi (isC := [0, 1]) (wc := (wd_X8_cells Γ q0 q1 d0 d1 q2 d2 d3 d4 d5 d6 d7 d8 d9 d10 d11 d12 length undoMany zeroKept oneKept seen spot kind begin letters figures value plated driven rows periods leastPeriod sv)) (w1 := (wd_X8_cells Γ q0 q1 d0 d1 q2 d2 d3 d4 d5 d6 d7 d8 d9 d10 d11 d12 length undoMany zeroKept oneKept seen spot kind begin letters figures value plated driven rows periods leastPeriod sv)) (As := []) (rest := [.int x2]) ⟨hx, hb, hml, hown, hts⟩ hE hP hD hS hA rfl rfl rfl (c_X8_cells l Γ _ q0 q1 d0 d1 q2 d2 d3 d4 d5 d6 d7 d8 d9 d10 d11 d12 length undoMany zeroKept oneKept seen spot kind begin letters figures value plated driven rows periods leastPeriod sv r_7 hq_8) (cwV 0 hts gX8_sands_X8_cells rfl rfl rfl (by decide +kernel) ⟨Nat.le_of_ble_eq_true rfl, Nat.le_of_ble_eq_true rfl⟩) (va_recv (ci := 8) (q0 := 0) hK hP rfl rfl) rfl hl.1 rfl (Nat.le_of_ble_eq_true rfl) dX8_sands_6 ⟨Nat.zero_le _, Nat.zero_le _⟩ (fun H locs hP hD hS => ?_)
        have hP : va_P Γ.1 vwCl (wd_X8_sands Γ q0 q1 q2 d0 d1 d2 d3 d4 d5 d6 d7 d8 d9 d10 d11 d12 length undoMany zeroKept oneKept seen spot kind begin letters figures value plated driven rows periods leastPeriod sv before) H := hP
        have hD : va_D A (wd_X8_sands Γ q0 q1 q2 d0 d1 d2 d3 d4 d5 d6 d7 d8 d9 d10 d11 d12 length undoMany zeroKept oneKept seen spot kind begin letters figures value plated driven rows periods leastPeriod sv before) := hD
        refine lv_icmp_ge (tgt := 39) hx hb dX8_sands_9 (by decide) (fun hc_9 => ?_) (fun hc_9 => ?_)
        · have hf := vm_pos hc_9 hf
          have hX := hX4
          rw [← Option.some.inj hf] at hX
          exact K_39 undoMany sv before x1 hP hD hS (lv_sub hl [0, 1] rfl) hX
        · have hf := vm_neg hc_9 hf
          refine lv_iload_n hx hb dX8_sands_12 rfl (lv_at hl 1 rfl) ?_
          refine lv_aload_n hx hb dX8_sands_13 rfl (lv_at hl 0 rfl) ?_
          refine va_get (D := Γ.1) (ci := 8) (v := .ref q1) (C := RX8) (T := TX8) (N := 31) hx hb hts hi8 hown hK hP 0 rfl rfl 2 (by decide) (hts (.fieldLink RX8 13 "SandPlatesModel" "s" "[I") (List.mem_of_getElem? (i := 1) rfl)) (fun _ h9 => h9) rfl dX8_sands_14 ?_
          refine lv_bipush (v := 45) hx hb dX8_sands_17 (by decide) ?_
          refine lv_iload_n hx hb dX8_sands_19 rfl (lv_at hl 2 rfl) ?_
          refine lv_iadd hx hb dX8_sands_20 ?_
          obtain ⟨hc_10, hf⟩ := vm_ck hf
          refine vm_iald hx hb hK hP 1 0 rfl rfl hc_10 (j := (45 + x2).toNatClampNeg) rfl dX8_sands_21 ?_
          refine lv_iconst (v := 1) hx hb dX8_sands_22 (by decide) ?_
          refine lv_icmp_ne (tgt := 30) hx hb dX8_sands_23 (by decide) (fun hc_11 => ?_) (fun hc_11 => ?_)
          · have hf := vm_neg hc_11 hf
            refine lv_iconst (v := 1) hx hb dX8_sands_30 (by decide) ?_
            exact K_31 x2 x1 1 hP hD hS (lv_sub hl [0, 2] rfl) hf
          · have hf := vm_pos hc_11 hf
            refine lv_iconst (v := 0) hx hb dX8_sands_26 (by decide) ?_
            refine lv_goto (tgt := 31) hx hb dX8_sands_27 (by decide) ?_
            exact K_31 x2 x1 0 hP hD hS (lv_sub hl [0, 2] rfl) hf
    exact LP FU x1 x2 hP hD hS hl h1
  unfold f_X8_sands at hf
  refine lv_iconst (v := 0) hx hb dX8_sands_0 (by decide) ?_
  refine lv_istore_n (lv' := [(1, .int 0), (0, .ref q0)]) hx hb dX8_sands_1 rfl hl (by decide) rfl (fun ls hl => ?_)
  refine lv_iconst (v := 0) hx hb dX8_sands_2 (by decide) ?_
  refine lv_istore_n (lv' := [(2, .int 0), (1, .int 0), (0, .ref q0)]) hx hb dX8_sands_3 rfl hl (by decide) rfl (fun ls hl => ?_)
  exact K_4 undoMany sv before 0 0 hP hD hS (lv_sub hl [2, 1, 0] rfl) hf
def wd_X8_cell (Γ : GE) (q0 q1 q2 q3 q4 q5 q6 d0 d1 d2 d3 d4 d5 d6 d7 d8 : Nat) (length : Int32) (undoMany : Int32) (zeroKept : Int32) (oneKept : Int32) (seen : Int32) (spot : Int32) (kind : Int32) (begin : Int32) (letters : Int64) (figures : Int32) (value : Int32) (plated : Int32) (driven : Int32) (rows : Int32) (periods : Int32) (leastPeriod : Int32) (sv : Nat → Int32) (height : Nat → Int32) (speed : Nat → Int32) (top : Nat → Int32) (low : Nat → Int32) (motion : Nat → Int32) : va_W := [(q0, .inr (8, [.int length, .ref d0, .ref q1, .ref d1, .ref d2, .int undoMany, .ref d3, .int zeroKept, .int oneKept, .ref d4, .ref d5, .int seen, .int spot, .int kind, .int begin, .long letters, .int figures, .int value, .int plated, .int driven, .int rows, .ref q2, .ref q3, .ref q4, .ref q5, .ref q6, .ref d6, .ref d7, .ref d8, .int periods, .int leastPeriod])), (q1, .inl (Γ.2.1 0, 81, .inl sv)), (q2, .inl (Γ.2.1 0, 36, .inl height)), (q3, .inl (Γ.2.1 0, 36, .inl speed)), (q4, .inl (Γ.2.1 0, 36, .inl top)), (q5, .inl (Γ.2.1 0, 36, .inl low)), (q6, .inl (Γ.2.1 0, 36, .inl motion))]
def f_X8_cell_110 (height : Nat → Int32) (speed : Nat → Int32) (top : Nat → Int32) (low : Nat → Int32) (motion : Nat → Int32) (s0 : Int32) : Option (Int32 × (Nat → Int32) × (Nat → Int32) × (Nat → Int32) × (Nat → Int32) × (Nat → Int32)) := some (s0, height, speed, top, low, motion)
def f_X8_cell_21 (height : Nat → Int32) (speed : Nat → Int32) (top : Nat → Int32) (low : Nat → Int32) (motion : Nat → Int32) : Option (Int32 × (Nat → Int32) × (Nat → Int32) × (Nat → Int32) × (Nat → Int32) × (Nat → Int32)) := some ((-1), height, speed, top, low, motion)
def f_X8_cell (sv : Nat → Int32) (height : Nat → Int32) (speed : Nat → Int32) (top : Nat → Int32) (low : Nat → Int32) (motion : Nat → Int32) (x1 : Int32) (x2 : Int32) (x3 : Int32) : Option (Int32 × (Nat → Int32) × (Nat → Int32) × (Nat → Int32) × (Nat → Int32) × (Nat → Int32)) := ob1 (f_X8_isCell sv x1 x2) (fun r_1 => if r_1 = 0 then (f_X8_cell_21 height speed top low motion) else (ob1 (f_X8_in ((x3).toInt64) 0 3) (fun r_4 => if r_4 = 0 then (f_X8_cell_21 height speed top low motion) else (ob5 (f_X8_runs sv height speed top low motion (sv 6)) (fun height_7 speed_8 top_9 low_10 motion_11 => if x3 = 0 then (if inb (((sv 0) * x2) + x1) 36 = true then f_X8_cell_110 height_7 speed_8 top_9 low_10 motion_11 (motion_11 ((((sv 0) * x2) + x1).toNatClampNeg)) else none) else (if x3 = 1 then (ob1 (f_X8_isStill sv motion_11 (((sv 0) * x2) + x1)) (fun r_18 => if r_18 = 0 then (f_X8_cell_110 height_7 speed_8 top_9 low_10 motion_11 0) else (f_X8_cell_110 height_7 speed_8 top_9 low_10 motion_11 1))) else (if x3 = 2 then (if inb (45 + (((sv 0) * x2) + x1)) 81 = true then f_X8_cell_110 height_7 speed_8 top_9 low_10 motion_11 (sv ((45 + (((sv 0) * x2) + x1)).toNatClampNeg)) else none) else (if inb (9 + (((sv 0) * x2) + x1)) 81 = true then f_X8_cell_110 height_7 speed_8 top_9 low_10 motion_11 (sv ((9 + (((sv 0) * x2) + x1)).toNatClampNeg)) else none))))))))
set_option maxHeartbeats 4000000 in
set_option maxRecDepth 100000 in
theorem c_X8_cell (l : Launch) (Γ : GE) (sz : Nat) (q0 q1 q2 q3 q4 q5 q6 d0 d1 d2 d3 d4 d5 d6 d7 d8 : Nat) (length : Int32) (undoMany : Int32) (zeroKept : Int32) (oneKept : Int32) (seen : Int32) (spot : Int32) (kind : Int32) (begin : Int32) (letters : Int64) (figures : Int32) (value : Int32) (plated : Int32) (driven : Int32) (rows : Int32) (periods : Int32) (leastPeriod : Int32) (sv : Nat → Int32) (height : Nat → Int32) (speed : Nat → Int32) (top : Nat → Int32) (low : Nat → Int32) (motion : Nat → Int32) (x1 : Int32) (x2 : Int32) (x3 : Int32) (ro : Int32) (o_height : Nat → Int32) (o_speed : Nat → Int32) (o_top : Nat → Int32) (o_low : Nat → Int32) (o_motion : Nat → Int32) (hf : f_X8_cell sv height speed top low motion x1 x2 x3 = some (ro, o_height, o_speed, o_top, o_low, o_motion)) : MetI l yX8_cell wsX8_cell ({ frames := 5, cells := 0, slots := 0, locals := 123 } : Room) Γ [.ref q0, .int x1, .int x2, .int x3] (wd_X8_cell Γ q0 q1 q2 q3 q4 q5 q6 d0 d1 d2 d3 d4 d5 d6 d7 d8 length undoMany zeroKept oneKept seen spot kind begin letters figures value plated driven rows periods leastPeriod sv height speed top low motion) (wd_X8_cell Γ q0 q1 q2 q3 q4 q5 q6 d0 d1 d2 d3 d4 d5 d6 d7 d8 length undoMany zeroKept oneKept seen spot kind begin letters figures value plated driven rows periods leastPeriod sv o_height o_speed o_top o_low o_motion) sz ro := by
  refine Met.ofW (cc := cX8_cell) (maxL := 5) (ret := (some .int)) (by decide) rfl ?_
  intro p e s m args below meth c s₁ B hml hv
  obtain ⟨rfl, hsz, hE, hP, hD⟩ := hv
  have hx := B.exec
  have hb := B.bytes
  have hr := B.returns
  have hts := atoms_spec (ws := wsX8_cell) B.pre
  have hown : s.vm.findClass RX8 = some m.cls := findClass_of_methodNamed B.named
  have hlocks := B.notSynchronized
  subst hsz
  generalize hAe : va_A (wd_X8_cell Γ q0 q1 q2 q3 q4 q5 q6 d0 d1 d2 d3 d4 d5 d6 d7 d8 length undoMany zeroKept oneKept seen spot kind begin letters figures value plated driven rows periods leastPeriod sv height speed top low motion) s.heap.size = A at hE hD ⊢
  have hA : ∀ q : Nat, s.heap.size ≤ q → A q := fun q h => by rw [← hAe]; exact Or.inr h
  clear hAe
  have hS : va_S A s.heap s.heap [] := va_S.rf
  have hK := hE.1
  have hl := lv_entry ([.ref q0, .int x1, .int x2, .int x3]) (n := 5) (Nat.le_of_ble_eq_true rfl)
  rw [lg_entry_eq]
  generalize (lg_sl ([.ref q0, .int x1, .int x2, .int x3]) ++ List.replicate (5 - (lg_sl ([.ref q0, .int x1, .int x2, .int x3])).length) Slot.unset).toArray = ls at hl ⊢
  have hl : lv_has ls 5 [(0, .ref q0), (1, .int x1), (2, .int x2), (3, .int x3)] := hl
  have hi8 : ∀ w ∈ u_ws RX8 TX8 31, w ∈ wsX8_cell := fun w h => (List.mem_cons_of_mem _ (List.mem_append_right _ h))
  obtain ⟨out, hout⟩ : ∃ o, o = (ro, o_height, o_speed, o_top, o_low, o_motion) := ⟨_, rfl⟩
  rw [← hout] at hf
  obtain ⟨QQ, hQQ⟩ : ∃ Q, Q = MQ below (va_Qi (fun (r' : Int32) (_ : Unit) => r' = ro) (CQ Γ (wd_X8_cell Γ q0 q1 q2 q3 q4 q5 q6 d0 d1 d2 d3 d4 d5 d6 d7 d8 length undoMany zeroKept oneKept seen spot kind begin letters figures value plated driven rows periods leastPeriod sv o_height o_speed o_top o_low o_motion) A) A) (([.ref q0, .int x1, .int x2, .int x3] : List Value).toArray) s 0 0 A := ⟨_, rfl⟩
  show W p l e ({ frames := 5, cells := 0, slots := 0, locals := 123 } : Room) s m (([.ref q0, .int x1, .int x2, .int x3] : List Value).toArray) below meth c s.heap [] 0 0 (MQ below _ (([.ref q0, .int x1, .int x2, .int x3] : List Value).toArray) s 0 0 A) (F0 m 0 ls [])
  rw [← hQQ]
  have K_110 : ∀ (height : Nat → Int32) (speed : Nat → Int32) (top : Nat → Int32) (low : Nat → Int32) (motion : Nat → Int32) (s0 : Int32) {H : Heap} {locs : List Loc} {ls : Array Slot}, va_P Γ.1 vwCl (wd_X8_cell Γ q0 q1 q2 q3 q4 q5 q6 d0 d1 d2 d3 d4 d5 d6 d7 d8 length undoMany zeroKept oneKept seen spot kind begin letters figures value plated driven rows periods leastPeriod sv height speed top low motion) H → va_D A (wd_X8_cell Γ q0 q1 q2 q3 q4 q5 q6 d0 d1 d2 d3 d4 d5 d6 d7 d8 length undoMany zeroKept oneKept seen spot kind begin letters figures value plated driven rows periods leastPeriod sv height speed top low motion) → va_S A s.heap H locs → lv_has ls 5 [] → f_X8_cell_110 height speed top low motion s0 = some out → W p l e ({ frames := 5, cells := 0, slots := 0, locals := 123 } : Room) s m ([.ref q0, .int x1, .int x2, .int x3] : List Value).toArray below meth c H locs 0 0 QQ (F0 m 110 ls [.int s0]) := by
    intro height speed top low motion s0 H locs ls hP hD hS hl hf
    unfold f_X8_cell_110 at hf
    subst hout; obtain ⟨rfl, rfl, rfl, rfl, rfl, rfl⟩ := rt6 hf
    subst hQQ
    exact W.iret hx hb hr (fun t ht hW => ⟨⟨_, (), rfl, rfl, by rw [ht]; exact hP, hD⟩, hS.F ht⟩) hS.2.2 dX8_cell_110
  have K_21 : ∀ (height : Nat → Int32) (speed : Nat → Int32) (top : Nat → Int32) (low : Nat → Int32) (motion : Nat → Int32) {H : Heap} {locs : List Loc} {ls : Array Slot}, va_P Γ.1 vwCl (wd_X8_cell Γ q0 q1 q2 q3 q4 q5 q6 d0 d1 d2 d3 d4 d5 d6 d7 d8 length undoMany zeroKept oneKept seen spot kind begin letters figures value plated driven rows periods leastPeriod sv height speed top low motion) H → va_D A (wd_X8_cell Γ q0 q1 q2 q3 q4 q5 q6 d0 d1 d2 d3 d4 d5 d6 d7 d8 length undoMany zeroKept oneKept seen spot kind begin letters figures value plated driven rows periods leastPeriod sv height speed top low motion) → va_S A s.heap H locs → lv_has ls 5 [] → f_X8_cell_21 height speed top low motion = some out → W p l e ({ frames := 5, cells := 0, slots := 0, locals := 123 } : Room) s m ([.ref q0, .int x1, .int x2, .int x3] : List Value).toArray below meth c H locs 0 0 QQ (F0 m 21 ls []) := by
    intro height speed top low motion H locs ls hP hD hS hl hf
    unfold f_X8_cell_21 at hf
    refine lv_iconst (v := (-1)) hx hb dX8_cell_21 (by decide) ?_
    subst hout; obtain ⟨rfl, rfl, rfl, rfl, rfl, rfl⟩ := rt6 hf
    subst hQQ
    exact W.iret hx hb hr (fun t ht hW => ⟨⟨_, (), rfl, rfl, by rw [ht]; exact hP, hD⟩, hS.F ht⟩) hS.2.2 dX8_cell_22
  unfold f_X8_cell at hf
  refine lv_aload_n hx hb dX8_cell_0 rfl (lv_at hl 0 rfl) ?_
  refine lv_iload_n hx hb dX8_cell_1 rfl (lv_at hl 1 rfl) ?_
  refine lv_iload_n hx hb dX8_cell_2 rfl (lv_at hl 2 rfl) ?_
  obtain ⟨r_1, hq_2, hf⟩ := ob1_some hf
  refine vm_cVi (isC := [0, 1]) (wc := (wd_X8_isCell Γ q0 q1 d0 d1 d2 d3 d4 d5 q2 q3 q4 q5 q6 d6 d7 d8 length undoMany zeroKept oneKept seen spot kind begin letters figures value plated driven rows periods leastPeriod sv)) (w1 := (wd_X8_isCell Γ q0 q1 d0 d1 d2 d3 d4 d5 q2 q3 q4 q5 q6 d6 d7 d8 length undoMany zeroKept oneKept seen spot kind begin letters figures value plated driven rows periods leastPeriod sv)) (As := [.int x1, .int x2]) (rest := []) ⟨hx, hb, hml, hown, hts⟩ hE hP hD hS hA rfl rfl rfl (c_X8_isCell l Γ _ q0 q1 d0 d1 d2 d3 d4 d5 q2 q3 q4 q5 q6 d6 d7 d8 length undoMany zeroKept oneKept seen spot kind begin letters figures value plated driven rows periods leastPeriod sv x1 x2 r_1 hq_2) (cwV 2 hts gX8_cell_X8_isCell rfl rfl rfl (by decide +kernel) ⟨Nat.le_of_ble_eq_true rfl, Nat.le_of_ble_eq_true rfl⟩) (va_recv (ci := 8) (q0 := 0) hK hP rfl rfl) rfl hl.1 rfl (Nat.le_of_ble_eq_true rfl) dX8_cell_3 ⟨Nat.zero_le _, Nat.zero_le _⟩ (fun H locs hP hD hS => ?_)
  have hP : va_P Γ.1 vwCl (wd_X8_cell Γ q0 q1 q2 q3 q4 q5 q6 d0 d1 d2 d3 d4 d5 d6 d7 d8 length undoMany zeroKept oneKept seen spot kind begin letters figures value plated driven rows periods leastPeriod sv height speed top low motion) H := hP
  have hD : va_D A (wd_X8_cell Γ q0 q1 q2 q3 q4 q5 q6 d0 d1 d2 d3 d4 d5 d6 d7 d8 length undoMany zeroKept oneKept seen spot kind begin letters figures value plated driven rows periods leastPeriod sv height speed top low motion) := hD
  refine lv_if_eq (tgt := 21) hx hb dX8_cell_6 (by decide) (fun hc_3 => ?_) (fun hc_3 => ?_)
  · have hf := vm_pos hc_3 hf
    exact K_21 height speed top low motion hP hD hS (lv_sub hl [] rfl) hf
  · have hf := vm_neg hc_3 hf
    refine lv_iload_n hx hb dX8_cell_9 rfl (lv_at hl 3 rfl) ?_
    refine lv_i2l hx hb dX8_cell_10 rfl ?_
    refine lv_lconst (v := 0) hx hb dX8_cell_11 (by decide) ?_
    refine lv_ldc2 hx hb hown (hts (.constantLong RX8 208 (3)) (List.mem_of_getElem? (i := 1) rfl)) dX8_cell_12 ?_
    obtain ⟨r_4, hq_5, hf⟩ := ob1_some hf
    refine vm_cSi (isC := []) (wc := (wd_X8_in Γ)) (w1 := (wd_X8_in Γ)) (As := [.long ((x3).toInt64), .long 0, .long 3]) (rest := []) ⟨hx, hb, hml, hown, hts⟩ hE hP hD hS hA rfl rfl rfl (c_X8_in l Γ _ ((x3).toInt64) 0 3 r_4 hq_5) (va_cwS 3 hts gX8_cell_X8_in rfl rfl rfl (by decide +kernel) ⟨Nat.le_of_ble_eq_true rfl, Nat.le_of_ble_eq_true rfl⟩) rfl hl.1 rfl (Nat.le_of_ble_eq_true rfl) dX8_cell_15 ⟨Nat.zero_le _, Nat.zero_le _⟩ (fun H locs hP hD hS => ?_)
    have hP : va_P Γ.1 vwCl (wd_X8_cell Γ q0 q1 q2 q3 q4 q5 q6 d0 d1 d2 d3 d4 d5 d6 d7 d8 length undoMany zeroKept oneKept seen spot kind begin letters figures value plated driven rows periods leastPeriod sv height speed top low motion) H := hP
    have hD : va_D A (wd_X8_cell Γ q0 q1 q2 q3 q4 q5 q6 d0 d1 d2 d3 d4 d5 d6 d7 d8 length undoMany zeroKept oneKept seen spot kind begin letters figures value plated driven rows periods leastPeriod sv height speed top low motion) := hD
    refine lv_if_ne (tgt := 23) hx hb dX8_cell_18 (by decide) (fun hc_6 => ?_) (fun hc_6 => ?_)
    · have hf := vm_neg hc_6 hf
      refine lv_aload_n hx hb dX8_cell_23 rfl (lv_at hl 0 rfl) ?_
      refine va_get (D := Γ.1) (ci := 8) (v := .ref q1) (C := RX8) (T := TX8) (N := 31) hx hb hts hi8 hown hK hP 0 rfl rfl 2 (by decide) (hts (.fieldLink RX8 13 "SandPlatesModel" "s" "[I") (List.mem_of_getElem? (i := 2) rfl)) (fun _ h9 => h9) rfl dX8_cell_24 ?_
      refine lv_iconst (v := 0) hx hb dX8_cell_27 (by decide) ?_
      refine vm_iald hx hb hK hP 1 0 rfl rfl (by decide +kernel) (j := 0) rfl dX8_cell_28 ?_
      refine lv_iload_n hx hb dX8_cell_29 rfl (lv_at hl 2 rfl) ?_
      refine lv_imul hx hb dX8_cell_30 ?_
      refine lv_iload_n hx hb dX8_cell_31 rfl (lv_at hl 1 rfl) ?_
      refine lv_iadd hx hb dX8_cell_32 ?_
      refine lv_istore (lv' := [(4, .int (((sv 0) * x2) + x1)), (0, .ref q0), (1, .int x1), (2, .int x2), (3, .int x3)]) hx hb dX8_cell_33 hl (by decide) rfl (fun ls hl => ?_)
      refine lv_aload_n hx hb dX8_cell_35 rfl (lv_at hl 1 rfl) ?_
      refine lv_aload_n hx hb dX8_cell_36 rfl (lv_at hl 1 rfl) ?_
      refine va_get (D := Γ.1) (ci := 8) (v := .ref q1) (C := RX8) (T := TX8) (N := 31) hx hb hts hi8 hown hK hP 0 rfl rfl 2 (by decide) (hts (.fieldLink RX8 13 "SandPlatesModel" "s" "[I") (List.mem_of_getElem? (i := 2) rfl)) (fun _ h9 => h9) rfl dX8_cell_37 ?_
      refine lv_bipush (v := 6) hx hb dX8_cell_40 (by decide) ?_
      refine vm_iald hx hb hK hP 1 0 rfl rfl (by decide +kernel) (j := 6) rfl dX8_cell_42 ?_
      obtain ⟨height_7, speed_8, top_9, low_10, motion_11, hq_12, hf⟩ := ob5_some hf
      refine vm_cVv (isC := [0, 1, 2, 3, 4, 5, 6]) (wc := (wd_X8_runs Γ q0 q1 q2 q3 q4 q5 q6 d0 d1 d2 d3 d4 d5 d6 d7 d8 length undoMany zeroKept oneKept seen spot kind begin letters figures value plated driven rows periods leastPeriod sv height speed top low motion)) (w1 := (wd_X8_runs Γ q0 q1 q2 q3 q4 q5 q6 d0 d1 d2 d3 d4 d5 d6 d7 d8 length undoMany zeroKept oneKept seen spot kind begin letters figures value plated driven rows periods leastPeriod sv height_7 speed_8 top_9 low_10 motion_11)) (As := [.int (sv 6)]) (rest := []) ⟨hx, hb, hml, hown, hts⟩ hE hP hD hS hA rfl rfl rfl (c_X8_runs l Γ _ q0 q1 q2 q3 q4 q5 q6 d0 d1 d2 d3 d4 d5 d6 d7 d8 length undoMany zeroKept oneKept seen spot kind begin letters figures value plated driven rows periods leastPeriod sv height speed top low motion (sv 6) height_7 speed_8 top_9 low_10 motion_11 hq_12) (cwV 1 hts gX8_cell_X8_runs rfl rfl rfl (by decide +kernel) ⟨Nat.le_of_ble_eq_true rfl, Nat.le_of_ble_eq_true rfl⟩) (va_recv (ci := 8) (q0 := 0) hK hP rfl rfl) rfl hl.1 rfl (Nat.le_of_ble_eq_true rfl) dX8_cell_43 ⟨Nat.zero_le _, Nat.zero_le _⟩ (fun H locs hP hD hS => ?_)
      have hP : va_P Γ.1 vwCl (wd_X8_cell Γ q0 q1 q2 q3 q4 q5 q6 d0 d1 d2 d3 d4 d5 d6 d7 d8 length undoMany zeroKept oneKept seen spot kind begin letters figures value plated driven rows periods leastPeriod sv height_7 speed_8 top_9 low_10 motion_11) H := hP
      have hD : va_D A (wd_X8_cell Γ q0 q1 q2 q3 q4 q5 q6 d0 d1 d2 d3 d4 d5 d6 d7 d8 length undoMany zeroKept oneKept seen spot kind begin letters figures value plated driven rows periods leastPeriod sv height_7 speed_8 top_9 low_10 motion_11) := hD
      refine lv_iload_n hx hb dX8_cell_46 rfl (lv_at hl 4 rfl) ?_
      refine lv_if_ne (tgt := 60) hx hb dX8_cell_47 (by decide) (fun hc_13 => ?_) (fun hc_13 => ?_)
      · have hf := vm_neg hc_13 hf
        refine lv_iload_n hx hb dX8_cell_60 rfl (lv_at hl 4 rfl) ?_
        refine lv_iconst (v := 1) hx hb dX8_cell_61 (by decide) ?_
        refine lv_icmp_ne (tgt := 82) hx hb dX8_cell_62 (by decide) (fun hc_14 => ?_) (fun hc_14 => ?_)
        · have hf := vm_neg hc_14 hf
          refine lv_iload_n hx hb dX8_cell_82 rfl (lv_at hl 4 rfl) ?_
          refine lv_iconst (v := 2) hx hb dX8_cell_83 (by decide) ?_
          refine lv_icmp_ne (tgt := 100) hx hb dX8_cell_84 (by decide) (fun hc_15 => ?_) (fun hc_15 => ?_)
          · have hf := vm_neg hc_15 hf
            refine lv_aload_n hx hb dX8_cell_100 rfl (lv_at hl 1 rfl) ?_
            refine va_get (D := Γ.1) (ci := 8) (v := .ref q1) (C := RX8) (T := TX8) (N := 31) hx hb hts hi8 hown hK hP 0 rfl rfl 2 (by decide) (hts (.fieldLink RX8 13 "SandPlatesModel" "s" "[I") (List.mem_of_getElem? (i := 2) rfl)) (fun _ h9 => h9) rfl dX8_cell_101 ?_
            refine lv_bipush (v := 9) hx hb dX8_cell_104 (by decide) ?_
            refine lv_iload hx hb dX8_cell_106 (lv_at hl 0 rfl) ?_
            refine lv_iadd hx hb dX8_cell_108 ?_
            obtain ⟨hc_16, hf⟩ := vm_ck hf
            refine vm_iald hx hb hK hP 1 0 rfl rfl hc_16 (j := (9 + (((sv 0) * x2) + x1)).toNatClampNeg) rfl dX8_cell_109 ?_
            exact K_110 height_7 speed_8 top_9 low_10 motion_11 (sv ((9 + (((sv 0) * x2) + x1)).toNatClampNeg)) hP hD hS (lv_sub hl [] rfl) hf
          · have hf := vm_pos hc_15 hf
            refine lv_aload_n hx hb dX8_cell_87 rfl (lv_at hl 1 rfl) ?_
            refine va_get (D := Γ.1) (ci := 8) (v := .ref q1) (C := RX8) (T := TX8) (N := 31) hx hb hts hi8 hown hK hP 0 rfl rfl 2 (by decide) (hts (.fieldLink RX8 13 "SandPlatesModel" "s" "[I") (List.mem_of_getElem? (i := 2) rfl)) (fun _ h9 => h9) rfl dX8_cell_88 ?_
            refine lv_bipush (v := 45) hx hb dX8_cell_91 (by decide) ?_
            refine lv_iload hx hb dX8_cell_93 (lv_at hl 0 rfl) ?_
            refine lv_iadd hx hb dX8_cell_95 ?_
            obtain ⟨hc_17, hf⟩ := vm_ck hf
            refine vm_iald hx hb hK hP 1 0 rfl rfl hc_17 (j := (45 + (((sv 0) * x2) + x1)).toNatClampNeg) rfl dX8_cell_96 ?_
            refine lv_goto (tgt := 110) hx hb dX8_cell_97 (by decide) ?_
            exact K_110 height_7 speed_8 top_9 low_10 motion_11 (sv ((45 + (((sv 0) * x2) + x1)).toNatClampNeg)) hP hD hS (lv_sub hl [] rfl) hf
        · have hf := vm_pos hc_14 hf
          refine lv_aload_n hx hb dX8_cell_65 rfl (lv_at hl 1 rfl) ?_
          refine lv_iload hx hb dX8_cell_66 (lv_at hl 0 rfl) ?_
          obtain ⟨r_18, hq_19, hf⟩ := ob1_some hf
          refine vm_cVi (isC := [0, 1, 6]) (wc := (wd_X8_isStill Γ q0 q1 q6 d0 d1 d2 d3 d4 d5 q2 q3 q4 q5 d6 d7 d8 length undoMany zeroKept oneKept seen spot kind begin letters figures value plated driven rows periods leastPeriod sv motion_11)) (w1 := (wd_X8_isStill Γ q0 q1 q6 d0 d1 d2 d3 d4 d5 q2 q3 q4 q5 d6 d7 d8 length undoMany zeroKept oneKept seen spot kind begin letters figures value plated driven rows periods leastPeriod sv motion_11)) (As := [.int (((sv 0) * x2) + x1)]) (rest := []) ⟨hx, hb, hml, hown, hts⟩ hE hP hD hS hA rfl rfl rfl (c_X8_isStill l Γ _ q0 q1 q6 d0 d1 d2 d3 d4 d5 q2 q3 q4 q5 d6 d7 d8 length undoMany zeroKept oneKept seen spot kind begin letters figures value plated driven rows periods leastPeriod sv motion_11 (((sv 0) * x2) + x1) r_18 hq_19) (cwV 1 hts gX8_cell_X8_isStill rfl rfl rfl (by decide +kernel) ⟨Nat.le_of_ble_eq_true rfl, Nat.le_of_ble_eq_true rfl⟩) (va_recv (ci := 8) (q0 := 0) hK hP rfl rfl) rfl hl.1 rfl (Nat.le_of_ble_eq_true rfl) dX8_cell_68 ⟨Nat.zero_le _, Nat.zero_le _⟩ (fun H locs hP hD hS => ?_)
          have hP : va_P Γ.1 vwCl (wd_X8_cell Γ q0 q1 q2 q3 q4 q5 q6 d0 d1 d2 d3 d4 d5 d6 d7 d8 length undoMany zeroKept oneKept seen spot kind begin letters figures value plated driven rows periods leastPeriod sv height_7 speed_8 top_9 low_10 motion_11) H := hP
          have hD : va_D A (wd_X8_cell Γ q0 q1 q2 q3 q4 q5 q6 d0 d1 d2 d3 d4 d5 d6 d7 d8 length undoMany zeroKept oneKept seen spot kind begin letters figures value plated driven rows periods leastPeriod sv height_7 speed_8 top_9 low_10 motion_11) := hD
          refine lv_if_eq (tgt := 78) hx hb dX8_cell_71 (by decide) (fun hc_20 => ?_) (fun hc_20 => ?_)
          · have hf := vm_pos hc_20 hf
            refine lv_iconst (v := 0) hx hb dX8_cell_78 (by decide) ?_
            refine lv_goto (tgt := 110) hx hb dX8_cell_79 (by decide) ?_
            exact K_110 height_7 speed_8 top_9 low_10 motion_11 0 hP hD hS (lv_sub hl [] rfl) hf
          · have hf := vm_neg hc_20 hf
            refine lv_iconst (v := 1) hx hb dX8_cell_74 (by decide) ?_
            refine lv_goto (tgt := 110) hx hb dX8_cell_75 (by decide) ?_
            exact K_110 height_7 speed_8 top_9 low_10 motion_11 1 hP hD hS (lv_sub hl [] rfl) hf
      · have hf := vm_pos hc_13 hf
        refine lv_aload_n hx hb dX8_cell_50 rfl (lv_at hl 1 rfl) ?_
        refine va_get (D := Γ.1) (ci := 8) (v := .ref q6) (C := RX8) (T := TX8) (N := 31) hx hb hts hi8 hown hK hP 0 rfl rfl 25 (by decide) (hts (.fieldLink RX8 43 "SandPlatesModel" "motion" "[I") (List.mem_of_getElem? (i := 3) rfl)) (fun _ h9 => h9) rfl dX8_cell_51 ?_
        refine lv_iload hx hb dX8_cell_54 (lv_at hl 0 rfl) ?_
        obtain ⟨hc_21, hf⟩ := vm_ck hf
        refine vm_iald hx hb hK hP 6 0 rfl rfl hc_21 (j := (((sv 0) * x2) + x1).toNatClampNeg) rfl dX8_cell_56 ?_
        refine lv_goto (tgt := 110) hx hb dX8_cell_57 (by decide) ?_
        exact K_110 height_7 speed_8 top_9 low_10 motion_11 (motion_11 ((((sv 0) * x2) + x1).toNatClampNeg)) hP hD hS (lv_sub hl [] rfl) hf
    · have hf := vm_pos hc_6 hf
      exact K_21 height speed top low motion hP hD hS (lv_sub hl [] rfl) hf
def wd_X8_setting (Γ : GE) (q0 q1 d0 d1 d2 d3 d4 d5 d6 d7 d8 d9 d10 d11 d12 d13 : Nat) (length : Int32) (undoMany : Int32) (zeroKept : Int32) (oneKept : Int32) (seen : Int32) (spot : Int32) (kind : Int32) (begin : Int32) (letters : Int64) (figures : Int32) (value : Int32) (plated : Int32) (driven : Int32) (rows : Int32) (periods : Int32) (leastPeriod : Int32) (sv : Nat → Int32) : va_W := [(q0, .inr (8, [.int length, .ref d0, .ref q1, .ref d1, .ref d2, .int undoMany, .ref d3, .int zeroKept, .int oneKept, .ref d4, .ref d5, .int seen, .int spot, .int kind, .int begin, .long letters, .int figures, .int value, .int plated, .int driven, .int rows, .ref d6, .ref d7, .ref d8, .ref d9, .ref d10, .ref d11, .ref d12, .ref d13, .int periods, .int leastPeriod])), (q1, .inl (Γ.2.1 0, 81, .inl sv))]
def f_X8_setting_24 (s0 : Int32) : Option Int32 := some s0
def f_X8_setting (sv : Nat → Int32) (x1 : Int32) : Option Int32 := ob1 (f_X8_in ((x1).toInt64) 0 6) (fun r_1 => if r_1 = 0 then (f_X8_setting_24 (-1)) else (if inb (2 + x1) 81 = true then f_X8_setting_24 (sv ((2 + x1).toNatClampNeg)) else none))
set_option maxHeartbeats 4000000 in
set_option maxRecDepth 100000 in
theorem c_X8_setting (l : Launch) (Γ : GE) (sz : Nat) (q0 q1 d0 d1 d2 d3 d4 d5 d6 d7 d8 d9 d10 d11 d12 d13 : Nat) (length : Int32) (undoMany : Int32) (zeroKept : Int32) (oneKept : Int32) (seen : Int32) (spot : Int32) (kind : Int32) (begin : Int32) (letters : Int64) (figures : Int32) (value : Int32) (plated : Int32) (driven : Int32) (rows : Int32) (periods : Int32) (leastPeriod : Int32) (sv : Nat → Int32) (x1 : Int32) (ro : Int32) (hf : f_X8_setting sv x1 = some ro) : MetI l yX8_setting wsX8_setting ({ frames := 1, cells := 0, slots := 0, locals := 25 } : Room) Γ [.ref q0, .int x1] (wd_X8_setting Γ q0 q1 d0 d1 d2 d3 d4 d5 d6 d7 d8 d9 d10 d11 d12 d13 length undoMany zeroKept oneKept seen spot kind begin letters figures value plated driven rows periods leastPeriod sv) (wd_X8_setting Γ q0 q1 d0 d1 d2 d3 d4 d5 d6 d7 d8 d9 d10 d11 d12 d13 length undoMany zeroKept oneKept seen spot kind begin letters figures value plated driven rows periods leastPeriod sv) sz ro := by
  refine Met.ofW (cc := cX8_setting) (maxL := 2) (ret := (some .int)) (by decide) rfl ?_
  intro p e s m args below meth c s₁ B hml hv
  obtain ⟨rfl, hsz, hE, hP, hD⟩ := hv
  have hx := B.exec
  have hb := B.bytes
  have hr := B.returns
  have hts := atoms_spec (ws := wsX8_setting) B.pre
  have hown : s.vm.findClass RX8 = some m.cls := findClass_of_methodNamed B.named
  have hlocks := B.notSynchronized
  subst hsz
  generalize hAe : va_A (wd_X8_setting Γ q0 q1 d0 d1 d2 d3 d4 d5 d6 d7 d8 d9 d10 d11 d12 d13 length undoMany zeroKept oneKept seen spot kind begin letters figures value plated driven rows periods leastPeriod sv) s.heap.size = A at hE hD ⊢
  have hA : ∀ q : Nat, s.heap.size ≤ q → A q := fun q h => by rw [← hAe]; exact Or.inr h
  clear hAe
  have hS : va_S A s.heap s.heap [] := va_S.rf
  have hK := hE.1
  have hl := lv_entry ([.ref q0, .int x1]) (n := 2) (Nat.le_of_ble_eq_true rfl)
  rw [lg_entry_eq]
  generalize (lg_sl ([.ref q0, .int x1]) ++ List.replicate (2 - (lg_sl ([.ref q0, .int x1])).length) Slot.unset).toArray = ls at hl ⊢
  have hl : lv_has ls 2 [(0, .ref q0), (1, .int x1)] := hl
  have hi8 : ∀ w ∈ u_ws RX8 TX8 31, w ∈ wsX8_setting := fun w h => (List.mem_cons_of_mem _ (List.mem_append_right _ h))
  obtain ⟨out, hout⟩ : ∃ o, o = ro := ⟨_, rfl⟩
  rw [← hout] at hf
  obtain ⟨QQ, hQQ⟩ : ∃ Q, Q = MQ below (va_Qi (fun (r' : Int32) (_ : Unit) => r' = ro) (CQ Γ (wd_X8_setting Γ q0 q1 d0 d1 d2 d3 d4 d5 d6 d7 d8 d9 d10 d11 d12 d13 length undoMany zeroKept oneKept seen spot kind begin letters figures value plated driven rows periods leastPeriod sv) A) A) (([.ref q0, .int x1] : List Value).toArray) s 0 0 A := ⟨_, rfl⟩
  show W p l e ({ frames := 1, cells := 0, slots := 0, locals := 25 } : Room) s m (([.ref q0, .int x1] : List Value).toArray) below meth c s.heap [] 0 0 (MQ below _ (([.ref q0, .int x1] : List Value).toArray) s 0 0 A) (F0 m 0 ls [])
  rw [← hQQ]
  have K_24 : ∀ (s0 : Int32) {H : Heap} {locs : List Loc} {ls : Array Slot}, va_P Γ.1 vwCl (wd_X8_setting Γ q0 q1 d0 d1 d2 d3 d4 d5 d6 d7 d8 d9 d10 d11 d12 d13 length undoMany zeroKept oneKept seen spot kind begin letters figures value plated driven rows periods leastPeriod sv) H → va_D A (wd_X8_setting Γ q0 q1 d0 d1 d2 d3 d4 d5 d6 d7 d8 d9 d10 d11 d12 d13 length undoMany zeroKept oneKept seen spot kind begin letters figures value plated driven rows periods leastPeriod sv) → va_S A s.heap H locs → lv_has ls 2 [] → f_X8_setting_24 s0 = some out → W p l e ({ frames := 1, cells := 0, slots := 0, locals := 25 } : Room) s m ([.ref q0, .int x1] : List Value).toArray below meth c H locs 0 0 QQ (F0 m 24 ls [.int s0]) := by
    intro s0 H locs ls hP hD hS hl hf
    unfold f_X8_setting_24 at hf
    subst hout; obtain rfl := Option.some.inj hf
    subst hQQ
    exact W.iret hx hb hr (fun t ht hW => ⟨⟨_, (), rfl, rfl, by rw [ht]; exact hP, hD⟩, hS.F ht⟩) hS.2.2 dX8_setting_24
  unfold f_X8_setting at hf
  refine lv_iload_n hx hb dX8_setting_0 rfl (lv_at hl 1 rfl) ?_
  refine lv_i2l hx hb dX8_setting_1 rfl ?_
  refine lv_lconst (v := 0) hx hb dX8_setting_2 (by decide) ?_
  refine lv_ldc2 hx hb hown (hts (.constantLong RX8 210 (6)) (List.mem_of_getElem? (i := 1) rfl)) dX8_setting_3 ?_
  obtain ⟨r_1, hq_2, hf⟩ := ob1_some hf
  refine vm_cSi (isC := []) (wc := (wd_X8_in Γ)) (w1 := (wd_X8_in Γ)) (As := [.long ((x1).toInt64), .long 0, .long 6]) (rest := []) ⟨hx, hb, hml, hown, hts⟩ hE hP hD hS hA rfl rfl rfl (c_X8_in l Γ _ ((x1).toInt64) 0 6 r_1 hq_2) (va_cwS 3 hts gX8_setting_X8_in rfl rfl rfl (by decide +kernel) ⟨Nat.le_of_ble_eq_true rfl, Nat.le_of_ble_eq_true rfl⟩) rfl hl.1 rfl (Nat.le_of_ble_eq_true rfl) dX8_setting_6 ⟨Nat.zero_le _, Nat.zero_le _⟩ (fun H locs hP hD hS => ?_)
  have hP : va_P Γ.1 vwCl (wd_X8_setting Γ q0 q1 d0 d1 d2 d3 d4 d5 d6 d7 d8 d9 d10 d11 d12 d13 length undoMany zeroKept oneKept seen spot kind begin letters figures value plated driven rows periods leastPeriod sv) H := hP
  have hD : va_D A (wd_X8_setting Γ q0 q1 d0 d1 d2 d3 d4 d5 d6 d7 d8 d9 d10 d11 d12 d13 length undoMany zeroKept oneKept seen spot kind begin letters figures value plated driven rows periods leastPeriod sv) := hD
  refine lv_if_eq (tgt := 23) hx hb dX8_setting_9 (by decide) (fun hc_3 => ?_) (fun hc_3 => ?_)
  · have hf := vm_pos hc_3 hf
    refine lv_iconst (v := (-1)) hx hb dX8_setting_23 (by decide) ?_
    exact K_24 (-1) hP hD hS (lv_sub hl [] rfl) hf
  · have hf := vm_neg hc_3 hf
    refine lv_aload_n hx hb dX8_setting_12 rfl (lv_at hl 0 rfl) ?_
    refine va_get (D := Γ.1) (ci := 8) (v := .ref q1) (C := RX8) (T := TX8) (N := 31) hx hb hts hi8 hown hK hP 0 rfl rfl 2 (by decide) (hts (.fieldLink RX8 13 "SandPlatesModel" "s" "[I") (List.mem_of_getElem? (i := 2) rfl)) (fun _ h9 => h9) rfl dX8_setting_13 ?_
    refine lv_iconst (v := 2) hx hb dX8_setting_16 (by decide) ?_
    refine lv_iload_n hx hb dX8_setting_17 rfl (lv_at hl 1 rfl) ?_
    refine lv_iadd hx hb dX8_setting_18 ?_
    obtain ⟨hc_4, hf⟩ := vm_ck hf
    refine vm_iald hx hb hK hP 1 0 rfl rfl hc_4 (j := (2 + x1).toNatClampNeg) rfl dX8_setting_19 ?_
    refine lv_goto (tgt := 24) hx hb dX8_setting_20 (by decide) ?_
    exact K_24 (sv ((2 + x1).toNatClampNeg)) hP hD hS (lv_sub hl [] rfl) hf
def wd_X8_height (Γ : GE) (q0 q1 q2 q3 d0 d1 d2 d3 d4 d5 d6 d7 d8 d9 d10 d11 : Nat) (length : Int32) (undoMany : Int32) (zeroKept : Int32) (oneKept : Int32) (seen : Int32) (spot : Int32) (kind : Int32) (begin : Int32) (letters : Int64) (figures : Int32) (value : Int32) (plated : Int32) (driven : Int32) (rows : Int32) (periods : Int32) (leastPeriod : Int32) (sv : Nat → Int32) (height : Nat → Int32) (speed : Nat → Int32) : va_W := [(q0, .inr (8, [.int length, .ref d0, .ref q1, .ref d1, .ref d2, .int undoMany, .ref d3, .int zeroKept, .int oneKept, .ref d4, .ref d5, .int seen, .int spot, .int kind, .int begin, .long letters, .int figures, .int value, .int plated, .int driven, .int rows, .ref q2, .ref q3, .ref d6, .ref d7, .ref d8, .ref d9, .ref d10, .ref d11, .int periods, .int leastPeriod])), (q1, .inl (Γ.2.1 0, 81, .inl sv)), (q2, .inl (Γ.2.1 0, 36, .inl height)), (q3, .inl (Γ.2.1 0, 36, .inl speed))]
def f_X8_height_56 (sv : Nat → Int32) (height : Nat → Int32) (speed : Nat → Int32) (x1 : Int32) (x2 : Int32) : Option (Int32 × (Nat → Int32) × (Nat → Int32)) := if inb (((sv 0) * x2) + x1) 36 = true then some ((height ((((sv 0) * x2) + x1).toNatClampNeg)), height, speed) else none
def f_X8_height_31b (sv : Nat → Int32) (x1 : Int32) (x2 : Int32) (x3 : Int32) (height : Nat → Int32) (speed : Nat → Int32) (x4 : Int32) (k : (((Nat → Int32) × (Nat → Int32) × Int32) → Option ((Nat → Int32) × (Nat → Int32)))) : Option ((Nat → Int32) × (Nat → Int32)) := if x3 ≤ x4 then (some (height, speed)) else (ob2 (f_X8_step sv height speed x4 (sv 6)) (fun height_3 speed_4 => k (height_3, speed_4, (x4 + 1))))
def f_X8_height_31s (sv : Nat → Int32) (x1 : Int32) (x2 : Int32) (x3 : Int32) : ((Nat → Int32) × (Nat → Int32) × Int32) → (((Nat → Int32) × (Nat → Int32) × Int32) → Option ((Nat → Int32) × (Nat → Int32))) → Option ((Nat → Int32) × (Nat → Int32)) := fun t k => f_X8_height_31b sv x1 x2 x3 t.1 t.2.1 t.2.2 k
def f_X8_height_31 (sv : Nat → Int32) (height : Nat → Int32) (speed : Nat → Int32) (x1 : Int32) (x2 : Int32) (x3 : Int32) (x4 : Int32) : Option (Int32 × (Nat → Int32) × (Nat → Int32)) := obx (vm_it (f_X8_height_31s sv x1 x2 x3) FU (height, speed, x4)) (un2 (fun height speed => f_X8_height_56 sv height speed x1 x2))
def f_X8_height_21 (height : Nat → Int32) (speed : Nat → Int32) : Option (Int32 × (Nat → Int32) × (Nat → Int32)) := some ((-1000000), height, speed)
def f_X8_height (sv : Nat → Int32) (height : Nat → Int32) (speed : Nat → Int32) (x1 : Int32) (x2 : Int32) (x3 : Int32) : Option (Int32 × (Nat → Int32) × (Nat → Int32)) := ob1 (f_X8_isCell sv x1 x2) (fun r_6 => if r_6 = 0 then (f_X8_height_21 height speed) else (ob1 (f_X8_in ((x3).toInt64) 0 60) (fun r_9 => if r_9 = 0 then (f_X8_height_21 height speed) else (ob2 (f_X8_rests height speed) (fun height_12 speed_13 => f_X8_height_31 sv height_12 speed_13 x1 x2 x3 0)))))
set_option maxHeartbeats 4000000 in
set_option maxRecDepth 100000 in
theorem c_X8_height (l : Launch) (Γ : GE) (sz : Nat) (q0 q1 q2 q3 d0 d1 d2 d3 d4 d5 d6 d7 d8 d9 d10 d11 : Nat) (length : Int32) (undoMany : Int32) (zeroKept : Int32) (oneKept : Int32) (seen : Int32) (spot : Int32) (kind : Int32) (begin : Int32) (letters : Int64) (figures : Int32) (value : Int32) (plated : Int32) (driven : Int32) (rows : Int32) (periods : Int32) (leastPeriod : Int32) (sv : Nat → Int32) (height : Nat → Int32) (speed : Nat → Int32) (x1 : Int32) (x2 : Int32) (x3 : Int32) (ro : Int32) (o_height : Nat → Int32) (o_speed : Nat → Int32) (hf : f_X8_height sv height speed x1 x2 x3 = some (ro, o_height, o_speed)) : MetI l yX8_height wsX8_height ({ frames := 4, cells := 0, slots := 0, locals := 100 } : Room) Γ [.ref q0, .int x1, .int x2, .int x3] (wd_X8_height Γ q0 q1 q2 q3 d0 d1 d2 d3 d4 d5 d6 d7 d8 d9 d10 d11 length undoMany zeroKept oneKept seen spot kind begin letters figures value plated driven rows periods leastPeriod sv height speed) (wd_X8_height Γ q0 q1 q2 q3 d0 d1 d2 d3 d4 d5 d6 d7 d8 d9 d10 d11 length undoMany zeroKept oneKept seen spot kind begin letters figures value plated driven rows periods leastPeriod sv o_height o_speed) sz ro := by
  refine Met.ofW (cc := cX8_height) (maxL := 5) (ret := (some .int)) (by decide) rfl ?_
  intro p e s m args below meth c s₁ B hml hv
  obtain ⟨rfl, hsz, hE, hP, hD⟩ := hv
  have hx := B.exec
  have hb := B.bytes
  have hr := B.returns
  have hts := atoms_spec (ws := wsX8_height) B.pre
  have hown : s.vm.findClass RX8 = some m.cls := findClass_of_methodNamed B.named
  have hlocks := B.notSynchronized
  subst hsz
  generalize hAe : va_A (wd_X8_height Γ q0 q1 q2 q3 d0 d1 d2 d3 d4 d5 d6 d7 d8 d9 d10 d11 length undoMany zeroKept oneKept seen spot kind begin letters figures value plated driven rows periods leastPeriod sv height speed) s.heap.size = A at hE hD ⊢
  have hA : ∀ q : Nat, s.heap.size ≤ q → A q := fun q h => by rw [← hAe]; exact Or.inr h
  clear hAe
  have hS : va_S A s.heap s.heap [] := va_S.rf
  have hK := hE.1
  have hl := lv_entry ([.ref q0, .int x1, .int x2, .int x3]) (n := 5) (Nat.le_of_ble_eq_true rfl)
  rw [lg_entry_eq]
  generalize (lg_sl ([.ref q0, .int x1, .int x2, .int x3]) ++ List.replicate (5 - (lg_sl ([.ref q0, .int x1, .int x2, .int x3])).length) Slot.unset).toArray = ls at hl ⊢
  have hl : lv_has ls 5 [(0, .ref q0), (1, .int x1), (2, .int x2), (3, .int x3)] := hl
  have hi8 : ∀ w ∈ u_ws RX8 TX8 31, w ∈ wsX8_height := fun w h => (List.mem_cons_of_mem _ (List.mem_append_right _ h))
  obtain ⟨out, hout⟩ : ∃ o, o = (ro, o_height, o_speed) := ⟨_, rfl⟩
  rw [← hout] at hf
  obtain ⟨QQ, hQQ⟩ : ∃ Q, Q = MQ below (va_Qi (fun (r' : Int32) (_ : Unit) => r' = ro) (CQ Γ (wd_X8_height Γ q0 q1 q2 q3 d0 d1 d2 d3 d4 d5 d6 d7 d8 d9 d10 d11 length undoMany zeroKept oneKept seen spot kind begin letters figures value plated driven rows periods leastPeriod sv o_height o_speed) A) A) (([.ref q0, .int x1, .int x2, .int x3] : List Value).toArray) s 0 0 A := ⟨_, rfl⟩
  show W p l e ({ frames := 4, cells := 0, slots := 0, locals := 100 } : Room) s m (([.ref q0, .int x1, .int x2, .int x3] : List Value).toArray) below meth c s.heap [] 0 0 (MQ below _ (([.ref q0, .int x1, .int x2, .int x3] : List Value).toArray) s 0 0 A) (F0 m 0 ls [])
  rw [← hQQ]
  have K_56 : ∀ (height : Nat → Int32) (speed : Nat → Int32) {H : Heap} {locs : List Loc} {ls : Array Slot}, va_P Γ.1 vwCl (wd_X8_height Γ q0 q1 q2 q3 d0 d1 d2 d3 d4 d5 d6 d7 d8 d9 d10 d11 length undoMany zeroKept oneKept seen spot kind begin letters figures value plated driven rows periods leastPeriod sv height speed) H → va_D A (wd_X8_height Γ q0 q1 q2 q3 d0 d1 d2 d3 d4 d5 d6 d7 d8 d9 d10 d11 length undoMany zeroKept oneKept seen spot kind begin letters figures value plated driven rows periods leastPeriod sv height speed) → va_S A s.heap H locs → lv_has ls 5 [(0, .ref q0), (1, .int x1), (2, .int x2)] → f_X8_height_56 sv height speed x1 x2 = some out → W p l e ({ frames := 4, cells := 0, slots := 0, locals := 100 } : Room) s m ([.ref q0, .int x1, .int x2, .int x3] : List Value).toArray below meth c H locs 0 0 QQ (F0 m 56 ls []) := by
    intro height speed H locs ls hP hD hS hl hf
    unfold f_X8_height_56 at hf
    refine lv_aload_n hx hb dX8_height_56 rfl (lv_at hl 0 rfl) ?_
    refine va_get (D := Γ.1) (ci := 8) (v := .ref q2) (C := RX8) (T := TX8) (N := 31) hx hb hts hi8 hown hK hP 0 rfl rfl 21 (by decide) (hts (.fieldLink RX8 31 "SandPlatesModel" "height" "[I") (List.mem_of_getElem? (i := 4) rfl)) (fun _ h9 => h9) rfl dX8_height_57 ?_
    refine lv_aload_n hx hb dX8_height_60 rfl (lv_at hl 0 rfl) ?_
    refine va_get (D := Γ.1) (ci := 8) (v := .ref q1) (C := RX8) (T := TX8) (N := 31) hx hb hts hi8 hown hK hP 0 rfl rfl 2 (by decide) (hts (.fieldLink RX8 13 "SandPlatesModel" "s" "[I") (List.mem_of_getElem? (i := 3) rfl)) (fun _ h9 => h9) rfl dX8_height_61 ?_
    refine lv_iconst (v := 0) hx hb dX8_height_64 (by decide) ?_
    refine vm_iald hx hb hK hP 1 0 rfl rfl (by decide +kernel) (j := 0) rfl dX8_height_65 ?_
    refine lv_iload_n hx hb dX8_height_66 rfl (lv_at hl 2 rfl) ?_
    refine lv_imul hx hb dX8_height_67 ?_
    refine lv_iload_n hx hb dX8_height_68 rfl (lv_at hl 1 rfl) ?_
    refine lv_iadd hx hb dX8_height_69 ?_
    obtain ⟨hc_1, hf⟩ := vm_ck hf
    refine vm_iald hx hb hK hP 2 0 rfl rfl hc_1 (j := (((sv 0) * x2) + x1).toNatClampNeg) rfl dX8_height_70 ?_
    subst hout; obtain ⟨rfl, rfl, rfl⟩ := rt3 hf
    subst hQQ
    exact W.iret hx hb hr (fun t ht hW => ⟨⟨_, (), rfl, rfl, by rw [ht]; exact hP, hD⟩, hS.F ht⟩) hS.2.2 dX8_height_71
  have K_31 : ∀ (height : Nat → Int32) (speed : Nat → Int32) (x4 : Int32) {H : Heap} {locs : List Loc} {ls : Array Slot}, va_P Γ.1 vwCl (wd_X8_height Γ q0 q1 q2 q3 d0 d1 d2 d3 d4 d5 d6 d7 d8 d9 d10 d11 length undoMany zeroKept oneKept seen spot kind begin letters figures value plated driven rows periods leastPeriod sv height speed) H → va_D A (wd_X8_height Γ q0 q1 q2 q3 d0 d1 d2 d3 d4 d5 d6 d7 d8 d9 d10 d11 length undoMany zeroKept oneKept seen spot kind begin letters figures value plated driven rows periods leastPeriod sv height speed) → va_S A s.heap H locs → lv_has ls 5 [(0, .ref q0), (1, .int x1), (2, .int x2), (3, .int x3), (4, .int x4)] → f_X8_height_31 sv height speed x1 x2 x3 x4 = some out → W p l e ({ frames := 4, cells := 0, slots := 0, locals := 100 } : Room) s m ([.ref q0, .int x1, .int x2, .int x3] : List Value).toArray below meth c H locs 0 0 QQ (F0 m 31 ls []) := by
    intro height speed x4 H locs ls hP hD hS hl hf
    unfold f_X8_height_31 at hf
    obtain ⟨ex31, h1, hX31⟩ := obx_some hf
    have LP : ∀ (n : Nat) (height : Nat → Int32) (speed : Nat → Int32) (x4 : Int32)  {H : Heap} {locs : List Loc} {ls : Array Slot}, va_P Γ.1 vwCl (wd_X8_height Γ q0 q1 q2 q3 d0 d1 d2 d3 d4 d5 d6 d7 d8 d9 d10 d11 length undoMany zeroKept oneKept seen spot kind begin letters figures value plated driven rows periods leastPeriod sv height speed) H → va_D A (wd_X8_height Γ q0 q1 q2 q3 d0 d1 d2 d3 d4 d5 d6 d7 d8 d9 d10 d11 length undoMany zeroKept oneKept seen spot kind begin letters figures value plated driven rows periods leastPeriod sv height speed) → va_S A s.heap H locs → lv_has ls 5 [(0, .ref q0), (1, .int x1), (2, .int x2), (3, .int x3), (4, .int x4)] → vm_it (f_X8_height_31s sv x1 x2 x3) n (height, speed, x4) = some ex31 → W p l e ({ frames := 4, cells := 0, slots := 0, locals := 100 } : Room) s m ([.ref q0, .int x1, .int x2, .int x3] : List Value).toArray below meth c H locs 0 0 QQ (F0 m 31 ls []) := by
      clear hP hD hS hl hf h1
      intro n
      induction n with
      | zero => intro height speed x4 H locs ls hP hD hS hl hf; exact (vm_it_0 hf).elim
      | succ n ih =>
        intro height speed x4 H locs ls hP hD hS hl hf
        have hf : f_X8_height_31b sv x1 x2 x3 height speed x4 (vm_it (f_X8_height_31s sv x1 x2 x3) n) = some ex31 := hf
        unfold f_X8_height_31b at hf
        refine lv_iload hx hb dX8_height_31 (lv_at hl 4 rfl) ?_
        refine lv_iload_n hx hb dX8_height_33 rfl (lv_at hl 3 rfl) ?_
        refine lv_icmp_ge (tgt := 56) hx hb dX8_height_34 (by decide) (fun hc_2 => ?_) (fun hc_2 => ?_)
        · have hf := vm_pos hc_2 hf
          have hX := hX31
          rw [← Option.some.inj hf] at hX
          exact K_56 height speed hP hD hS (lv_sub hl [0, 1, 2] rfl) hX
        · have hf := vm_neg hc_2 hf
          refine lv_aload_n hx hb dX8_height_37 rfl (lv_at hl 0 rfl) ?_
          refine lv_iload hx hb dX8_height_38 (lv_at hl 4 rfl) ?_
          refine lv_aload_n hx hb dX8_height_40 rfl (lv_at hl 0 rfl) ?_
          refine va_get (D := Γ.1) (ci := 8) (v := .ref q1) (C := RX8) (T := TX8) (N := 31) hx hb hts hi8 hown hK hP 0 rfl rfl 2 (by decide) (hts (.fieldLink RX8 13 "SandPlatesModel" "s" "[I") (List.mem_of_getElem? (i := 3) rfl)) (fun _ h9 => h9) rfl dX8_height_41 ?_
          refine lv_bipush (v := 6) hx hb dX8_height_44 (by decide) ?_
          refine vm_iald hx hb hK hP 1 0 rfl rfl (by decide +kernel) (j := 6) rfl dX8_height_46 ?_
          obtain ⟨height_3, speed_4, hq_5, hf⟩ := ob2_some hf
          refine vm_cVv (isC := [0, 1, 2, 3]) (wc := (wd_X8_step Γ q0 q1 q2 q3 d0 d1 d2 d3 d4 d5 d6 d7 d8 d9 d10 d11 length undoMany zeroKept oneKept seen spot kind begin letters figures value plated driven rows periods leastPeriod sv height speed)) (w1 := (wd_X8_step Γ q0 q1 q2 q3 d0 d1 d2 d3 d4 d5 d6 d7 d8 d9 d10 d11 length undoMany zeroKept oneKept seen spot kind begin letters figures value plated driven rows periods leastPeriod sv height_3 speed_4)) (As := [.int x4, .int (sv 6)]) (rest := []) ⟨hx, hb, hml, hown, hts⟩ hE hP hD hS hA rfl rfl rfl (c_X8_step l Γ _ q0 q1 q2 q3 d0 d1 d2 d3 d4 d5 d6 d7 d8 d9 d10 d11 length undoMany zeroKept oneKept seen spot kind begin letters figures value plated driven rows periods leastPeriod sv height speed x4 (sv 6) height_3 speed_4 hq_5) (cwV 2 hts gX8_height_X8_step rfl rfl rfl (by decide +kernel) ⟨Nat.le_of_ble_eq_true rfl, Nat.le_of_ble_eq_true rfl⟩) (va_recv (ci := 8) (q0 := 0) hK hP rfl rfl) rfl hl.1 rfl (Nat.le_of_ble_eq_true rfl) dX8_height_47 ⟨Nat.zero_le _, Nat.zero_le _⟩ (fun H locs hP hD hS => ?_)
          have hP : va_P Γ.1 vwCl (wd_X8_height Γ q0 q1 q2 q3 d0 d1 d2 d3 d4 d5 d6 d7 d8 d9 d10 d11 length undoMany zeroKept oneKept seen spot kind begin letters figures value plated driven rows periods leastPeriod sv height_3 speed_4) H := hP
          have hD : va_D A (wd_X8_height Γ q0 q1 q2 q3 d0 d1 d2 d3 d4 d5 d6 d7 d8 d9 d10 d11 length undoMany zeroKept oneKept seen spot kind begin letters figures value plated driven rows periods leastPeriod sv height_3 speed_4) := hD
          refine lv_iinc (v := (x4 + 1)) (lv' := [(4, .int (x4 + 1)), (0, .ref q0), (1, .int x1), (2, .int x2), (3, .int x3)]) hx hb dX8_height_50 hl (k := 4) rfl rfl (by decide) rfl (fun ls hl => ?_)
          refine lv_goto (tgt := 31) hx hb dX8_height_53 (by decide) ?_
          exact ih height_3 speed_4 (x4 + 1) hP hD hS (lv_sub hl [1, 2, 3, 4, 0] rfl) hf
    exact LP FU height speed x4 hP hD hS hl h1
  have K_21 : ∀ (height : Nat → Int32) (speed : Nat → Int32) {H : Heap} {locs : List Loc} {ls : Array Slot}, va_P Γ.1 vwCl (wd_X8_height Γ q0 q1 q2 q3 d0 d1 d2 d3 d4 d5 d6 d7 d8 d9 d10 d11 length undoMany zeroKept oneKept seen spot kind begin letters figures value plated driven rows periods leastPeriod sv height speed) H → va_D A (wd_X8_height Γ q0 q1 q2 q3 d0 d1 d2 d3 d4 d5 d6 d7 d8 d9 d10 d11 length undoMany zeroKept oneKept seen spot kind begin letters figures value plated driven rows periods leastPeriod sv height speed) → va_S A s.heap H locs → lv_has ls 5 [] → f_X8_height_21 height speed = some out → W p l e ({ frames := 4, cells := 0, slots := 0, locals := 100 } : Room) s m ([.ref q0, .int x1, .int x2, .int x3] : List Value).toArray below meth c H locs 0 0 QQ (F0 m 21 ls []) := by
    intro height speed H locs ls hP hD hS hl hf
    unfold f_X8_height_21 at hf
    refine lv_ldc hx hb hown (hts (.constant RX8 214 (-1000000)) (List.mem_of_getElem? (i := 2) rfl)) dX8_height_21 ?_
    subst hout; obtain ⟨rfl, rfl, rfl⟩ := rt3 hf
    subst hQQ
    exact W.iret hx hb hr (fun t ht hW => ⟨⟨_, (), rfl, rfl, by rw [ht]; exact hP, hD⟩, hS.F ht⟩) hS.2.2 dX8_height_23
  unfold f_X8_height at hf
  refine lv_aload_n hx hb dX8_height_0 rfl (lv_at hl 0 rfl) ?_
  refine lv_iload_n hx hb dX8_height_1 rfl (lv_at hl 1 rfl) ?_
  refine lv_iload_n hx hb dX8_height_2 rfl (lv_at hl 2 rfl) ?_
  obtain ⟨r_6, hq_7, hf⟩ := ob1_some hf
  refine vm_cVi (isC := [0, 1]) (wc := (wd_X8_isCell Γ q0 q1 d0 d1 d2 d3 d4 d5 q2 q3 d6 d7 d8 d9 d10 d11 length undoMany zeroKept oneKept seen spot kind begin letters figures value plated driven rows periods leastPeriod sv)) (w1 := (wd_X8_isCell Γ q0 q1 d0 d1 d2 d3 d4 d5 q2 q3 d6 d7 d8 d9 d10 d11 length undoMany zeroKept oneKept seen spot kind begin letters figures value plated driven rows periods leastPeriod sv)) (As := [.int x1, .int x2]) (rest := []) ⟨hx, hb, hml, hown, hts⟩ hE hP hD hS hA rfl rfl rfl (c_X8_isCell l Γ _ q0 q1 d0 d1 d2 d3 d4 d5 q2 q3 d6 d7 d8 d9 d10 d11 length undoMany zeroKept oneKept seen spot kind begin letters figures value plated driven rows periods leastPeriod sv x1 x2 r_6 hq_7) (cwV 2 hts gX8_height_X8_isCell rfl rfl rfl (by decide +kernel) ⟨Nat.le_of_ble_eq_true rfl, Nat.le_of_ble_eq_true rfl⟩) (va_recv (ci := 8) (q0 := 0) hK hP rfl rfl) rfl hl.1 rfl (Nat.le_of_ble_eq_true rfl) dX8_height_3 ⟨Nat.zero_le _, Nat.zero_le _⟩ (fun H locs hP hD hS => ?_)
  have hP : va_P Γ.1 vwCl (wd_X8_height Γ q0 q1 q2 q3 d0 d1 d2 d3 d4 d5 d6 d7 d8 d9 d10 d11 length undoMany zeroKept oneKept seen spot kind begin letters figures value plated driven rows periods leastPeriod sv height speed) H := hP
  have hD : va_D A (wd_X8_height Γ q0 q1 q2 q3 d0 d1 d2 d3 d4 d5 d6 d7 d8 d9 d10 d11 length undoMany zeroKept oneKept seen spot kind begin letters figures value plated driven rows periods leastPeriod sv height speed) := hD
  refine lv_if_eq (tgt := 21) hx hb dX8_height_6 (by decide) (fun hc_8 => ?_) (fun hc_8 => ?_)
  · have hf := vm_pos hc_8 hf
    exact K_21 height speed hP hD hS (lv_sub hl [] rfl) hf
  · have hf := vm_neg hc_8 hf
    refine lv_iload_n hx hb dX8_height_9 rfl (lv_at hl 3 rfl) ?_
    refine lv_i2l hx hb dX8_height_10 rfl ?_
    refine lv_lconst (v := 0) hx hb dX8_height_11 (by decide) ?_
    refine lv_ldc2 hx hb hown (hts (.constantLong RX8 212 (60)) (List.mem_of_getElem? (i := 1) rfl)) dX8_height_12 ?_
    obtain ⟨r_9, hq_10, hf⟩ := ob1_some hf
    refine vm_cSi (isC := []) (wc := (wd_X8_in Γ)) (w1 := (wd_X8_in Γ)) (As := [.long ((x3).toInt64), .long 0, .long 60]) (rest := []) ⟨hx, hb, hml, hown, hts⟩ hE hP hD hS hA rfl rfl rfl (c_X8_in l Γ _ ((x3).toInt64) 0 60 r_9 hq_10) (va_cwS 3 hts gX8_height_X8_in rfl rfl rfl (by decide +kernel) ⟨Nat.le_of_ble_eq_true rfl, Nat.le_of_ble_eq_true rfl⟩) rfl hl.1 rfl (Nat.le_of_ble_eq_true rfl) dX8_height_15 ⟨Nat.zero_le _, Nat.zero_le _⟩ (fun H locs hP hD hS => ?_)
    have hP : va_P Γ.1 vwCl (wd_X8_height Γ q0 q1 q2 q3 d0 d1 d2 d3 d4 d5 d6 d7 d8 d9 d10 d11 length undoMany zeroKept oneKept seen spot kind begin letters figures value plated driven rows periods leastPeriod sv height speed) H := hP
    have hD : va_D A (wd_X8_height Γ q0 q1 q2 q3 d0 d1 d2 d3 d4 d5 d6 d7 d8 d9 d10 d11 length undoMany zeroKept oneKept seen spot kind begin letters figures value plated driven rows periods leastPeriod sv height speed) := hD
    refine lv_if_ne (tgt := 24) hx hb dX8_height_18 (by decide) (fun hc_11 => ?_) (fun hc_11 => ?_)
    · have hf := vm_neg hc_11 hf
      refine lv_aload_n hx hb dX8_height_24 rfl (lv_at hl 0 rfl) ?_
      obtain ⟨height_12, speed_13, hq_14, hf⟩ := ob2_some hf
      refine vm_cVv (isC := [0, 2, 3]) (wc := (wd_X8_rests Γ q0 q2 q3 d0 q1 d1 d2 d3 d4 d5 d6 d7 d8 d9 d10 d11 length undoMany zeroKept oneKept seen spot kind begin letters figures value plated driven rows periods leastPeriod height speed)) (w1 := (wd_X8_rests Γ q0 q2 q3 d0 q1 d1 d2 d3 d4 d5 d6 d7 d8 d9 d10 d11 length undoMany zeroKept oneKept seen spot kind begin letters figures value plated driven rows periods leastPeriod height_12 speed_13)) (As := []) (rest := []) ⟨hx, hb, hml, hown, hts⟩ hE hP hD hS hA rfl rfl rfl (c_X8_rests l Γ _ q0 q2 q3 d0 q1 d1 d2 d3 d4 d5 d6 d7 d8 d9 d10 d11 length undoMany zeroKept oneKept seen spot kind begin letters figures value plated driven rows periods leastPeriod height speed height_12 speed_13 hq_14) (cwV 0 hts gX8_height_X8_rests rfl rfl rfl (by decide +kernel) ⟨Nat.le_of_ble_eq_true rfl, Nat.le_of_ble_eq_true rfl⟩) (va_recv (ci := 8) (q0 := 0) hK hP rfl rfl) rfl hl.1 rfl (Nat.le_of_ble_eq_true rfl) dX8_height_25 ⟨Nat.zero_le _, Nat.zero_le _⟩ (fun H locs hP hD hS => ?_)
      have hP : va_P Γ.1 vwCl (wd_X8_height Γ q0 q1 q2 q3 d0 d1 d2 d3 d4 d5 d6 d7 d8 d9 d10 d11 length undoMany zeroKept oneKept seen spot kind begin letters figures value plated driven rows periods leastPeriod sv height_12 speed_13) H := hP
      have hD : va_D A (wd_X8_height Γ q0 q1 q2 q3 d0 d1 d2 d3 d4 d5 d6 d7 d8 d9 d10 d11 length undoMany zeroKept oneKept seen spot kind begin letters figures value plated driven rows periods leastPeriod sv height_12 speed_13) := hD
      refine lv_iconst (v := 0) hx hb dX8_height_28 (by decide) ?_
      refine lv_istore (lv' := [(4, .int 0), (0, .ref q0), (1, .int x1), (2, .int x2), (3, .int x3)]) hx hb dX8_height_29 hl (by decide) rfl (fun ls hl => ?_)
      exact K_31 height_12 speed_13 0 hP hD hS (lv_sub hl [1, 2, 3, 4, 0] rfl) hf
    · have hf := vm_pos hc_11 hf
      exact K_21 height speed hP hD hS (lv_sub hl [] rfl) hf
def wd_X8_likeness (Γ : GE) (q0 q1 q2 d0 d1 d2 d3 d4 d5 d6 d7 d8 d9 d10 d11 d12 : Nat) (length : Int32) (undoMany : Int32) (zeroKept : Int32) (oneKept : Int32) (seen : Int32) (spot : Int32) (kind : Int32) (begin : Int32) (letters : Int64) (figures : Int32) (value : Int32) (plated : Int32) (driven : Int32) (rows : Int32) (periods : Int32) (leastPeriod : Int32) (sv : Nat → Int32) (motion : Nat → Int32) : va_W := [(q0, .inr (8, [.int length, .ref d0, .ref q1, .ref d1, .ref d2, .int undoMany, .ref d3, .int zeroKept, .int oneKept, .ref d4, .ref d5, .int seen, .int spot, .int kind, .int begin, .long letters, .int figures, .int value, .int plated, .int driven, .int rows, .ref d6, .ref d7, .ref d8, .ref d9, .ref q2, .ref d10, .ref d11, .ref d12, .int periods, .int leastPeriod])), (q1, .inl (Γ.2.1 0, 81, .inl sv)), (q2, .inl (Γ.2.1 0, 36, .inl motion))]
def f_X8_likeness_52 (x1 : Int32) : Option Int32 := some x1
def f_X8_likeness_44 (sv : Nat → Int32) (motion : Nat → Int32) (x2 : Int32) (s0 : Int32) (s1 : Int32) (k : ((Int32 × Int32) → Option Int32)) : Option Int32 := k ((s0 + s1), (x2 + 1))
def f_X8_likeness_36 (sv : Nat → Int32) (motion : Nat → Int32) (x2 : Int32) (s0 : Int32) (s1 : Int32) (s2 : Int32) (k : ((Int32 × Int32) → Option Int32)) : Option Int32 := if s1 = s2 then (f_X8_likeness_44 sv motion x2 s0 1 k) else (f_X8_likeness_44 sv motion x2 s0 0 k)
def f_X8_likeness_4b (sv : Nat → Int32) (motion : Nat → Int32) (x1 : Int32) (x2 : Int32) (k : ((Int32 × Int32) → Option Int32)) : Option Int32 := ob1 (f_X8_cells sv) (fun r_2 => if r_2 ≤ x2 then (some x1) else (ob1 (f_X8_isStill sv motion x2) (fun r_5 => if inb (9 + x2) 81 = true then if (sv ((9 + x2).toNatClampNeg)) = 1 then (f_X8_likeness_36 sv motion x2 x1 r_5 1 k) else (f_X8_likeness_36 sv motion x2 x1 r_5 0 k) else none)))
def f_X8_likeness_4s (sv : Nat → Int32) (motion : Nat → Int32) : (Int32 × Int32) → ((Int32 × Int32) → Option Int32) → Option Int32 := fun t k => f_X8_likeness_4b sv motion t.1 t.2 k
def f_X8_likeness_4 (sv : Nat → Int32) (motion : Nat → Int32) (x1 : Int32) (x2 : Int32) : Option Int32 := obx (vm_it (f_X8_likeness_4s sv motion) FU (x1, x2)) (fun x1 => f_X8_likeness_52 x1)
def f_X8_likeness (sv : Nat → Int32) (motion : Nat → Int32) : Option Int32 := f_X8_likeness_4 sv motion 0 0
set_option maxHeartbeats 4000000 in
set_option maxRecDepth 100000 in
theorem c_X8_likeness (l : Launch) (Γ : GE) (sz : Nat) (q0 q1 q2 d0 d1 d2 d3 d4 d5 d6 d7 d8 d9 d10 d11 d12 : Nat) (length : Int32) (undoMany : Int32) (zeroKept : Int32) (oneKept : Int32) (seen : Int32) (spot : Int32) (kind : Int32) (begin : Int32) (letters : Int64) (figures : Int32) (value : Int32) (plated : Int32) (driven : Int32) (rows : Int32) (periods : Int32) (leastPeriod : Int32) (sv : Nat → Int32) (motion : Nat → Int32) (ro : Int32) (hf : f_X8_likeness sv motion = some ro) : MetI l yX8_likeness wsX8_likeness ({ frames := 1, cells := 0, slots := 0, locals := 21 } : Room) Γ [.ref q0] (wd_X8_likeness Γ q0 q1 q2 d0 d1 d2 d3 d4 d5 d6 d7 d8 d9 d10 d11 d12 length undoMany zeroKept oneKept seen spot kind begin letters figures value plated driven rows periods leastPeriod sv motion) (wd_X8_likeness Γ q0 q1 q2 d0 d1 d2 d3 d4 d5 d6 d7 d8 d9 d10 d11 d12 length undoMany zeroKept oneKept seen spot kind begin letters figures value plated driven rows periods leastPeriod sv motion) sz ro := by
  refine Met.ofW (cc := cX8_likeness) (maxL := 3) (ret := (some .int)) (by decide) rfl ?_
  intro p e s m args below meth c s₁ B hml hv
  obtain ⟨rfl, hsz, hE, hP, hD⟩ := hv
  have hx := B.exec
  have hb := B.bytes
  have hr := B.returns
  have hts := atoms_spec (ws := wsX8_likeness) B.pre
  have hown : s.vm.findClass RX8 = some m.cls := findClass_of_methodNamed B.named
  have hlocks := B.notSynchronized
  subst hsz
  generalize hAe : va_A (wd_X8_likeness Γ q0 q1 q2 d0 d1 d2 d3 d4 d5 d6 d7 d8 d9 d10 d11 d12 length undoMany zeroKept oneKept seen spot kind begin letters figures value plated driven rows periods leastPeriod sv motion) s.heap.size = A at hE hD ⊢
  have hA : ∀ q : Nat, s.heap.size ≤ q → A q := fun q h => by rw [← hAe]; exact Or.inr h
  clear hAe
  have hS : va_S A s.heap s.heap [] := va_S.rf
  have hK := hE.1
  have hl := lv_entry ([.ref q0]) (n := 3) (Nat.le_of_ble_eq_true rfl)
  rw [lg_entry_eq]
  generalize (lg_sl ([.ref q0]) ++ List.replicate (3 - (lg_sl ([.ref q0])).length) Slot.unset).toArray = ls at hl ⊢
  have hl : lv_has ls 3 [(0, .ref q0)] := hl
  have hi8 : ∀ w ∈ u_ws RX8 TX8 31, w ∈ wsX8_likeness := fun w h => (List.mem_cons_of_mem _ (List.mem_append_right _ h))
  obtain ⟨out, hout⟩ : ∃ o, o = ro := ⟨_, rfl⟩
  rw [← hout] at hf
  obtain ⟨QQ, hQQ⟩ : ∃ Q, Q = MQ below (va_Qi (fun (r' : Int32) (_ : Unit) => r' = ro) (CQ Γ (wd_X8_likeness Γ q0 q1 q2 d0 d1 d2 d3 d4 d5 d6 d7 d8 d9 d10 d11 d12 length undoMany zeroKept oneKept seen spot kind begin letters figures value plated driven rows periods leastPeriod sv motion) A) A) (([.ref q0] : List Value).toArray) s 0 0 A := ⟨_, rfl⟩
  show W p l e ({ frames := 1, cells := 0, slots := 0, locals := 21 } : Room) s m (([.ref q0] : List Value).toArray) below meth c s.heap [] 0 0 (MQ below _ (([.ref q0] : List Value).toArray) s 0 0 A) (F0 m 0 ls [])
  rw [← hQQ]
  have K_52 : ∀ (x1 : Int32) {H : Heap} {locs : List Loc} {ls : Array Slot}, va_P Γ.1 vwCl (wd_X8_likeness Γ q0 q1 q2 d0 d1 d2 d3 d4 d5 d6 d7 d8 d9 d10 d11 d12 length undoMany zeroKept oneKept seen spot kind begin letters figures value plated driven rows periods leastPeriod sv motion) H → va_D A (wd_X8_likeness Γ q0 q1 q2 d0 d1 d2 d3 d4 d5 d6 d7 d8 d9 d10 d11 d12 length undoMany zeroKept oneKept seen spot kind begin letters figures value plated driven rows periods leastPeriod sv motion) → va_S A s.heap H locs → lv_has ls 3 [(1, .int x1)] → f_X8_likeness_52 x1 = some out → W p l e ({ frames := 1, cells := 0, slots := 0, locals := 21 } : Room) s m ([.ref q0] : List Value).toArray below meth c H locs 0 0 QQ (F0 m 52 ls []) := by
    intro x1 H locs ls hP hD hS hl hf
    unfold f_X8_likeness_52 at hf
    refine lv_iload_n hx hb dX8_likeness_52 rfl (lv_at hl 0 rfl) ?_
    subst hout; obtain rfl := Option.some.inj hf
    subst hQQ
    exact W.iret hx hb hr (fun t ht hW => ⟨⟨_, (), rfl, rfl, by rw [ht]; exact hP, hD⟩, hS.F ht⟩) hS.2.2 dX8_likeness_53
  have K_4 : ∀ (x1 : Int32) (x2 : Int32) {H : Heap} {locs : List Loc} {ls : Array Slot}, va_P Γ.1 vwCl (wd_X8_likeness Γ q0 q1 q2 d0 d1 d2 d3 d4 d5 d6 d7 d8 d9 d10 d11 d12 length undoMany zeroKept oneKept seen spot kind begin letters figures value plated driven rows periods leastPeriod sv motion) H → va_D A (wd_X8_likeness Γ q0 q1 q2 d0 d1 d2 d3 d4 d5 d6 d7 d8 d9 d10 d11 d12 length undoMany zeroKept oneKept seen spot kind begin letters figures value plated driven rows periods leastPeriod sv motion) → va_S A s.heap H locs → lv_has ls 3 [(0, .ref q0), (1, .int x1), (2, .int x2)] → f_X8_likeness_4 sv motion x1 x2 = some out → W p l e ({ frames := 1, cells := 0, slots := 0, locals := 21 } : Room) s m ([.ref q0] : List Value).toArray below meth c H locs 0 0 QQ (F0 m 4 ls []) := by
    intro x1 x2 H locs ls hP hD hS hl hf
    unfold f_X8_likeness_4 at hf
    obtain ⟨ex4, h1, hX4⟩ := obx_some hf
    have LP : ∀ (n : Nat) (x1 : Int32) (x2 : Int32)  {H : Heap} {locs : List Loc} {ls : Array Slot}, va_P Γ.1 vwCl (wd_X8_likeness Γ q0 q1 q2 d0 d1 d2 d3 d4 d5 d6 d7 d8 d9 d10 d11 d12 length undoMany zeroKept oneKept seen spot kind begin letters figures value plated driven rows periods leastPeriod sv motion) H → va_D A (wd_X8_likeness Γ q0 q1 q2 d0 d1 d2 d3 d4 d5 d6 d7 d8 d9 d10 d11 d12 length undoMany zeroKept oneKept seen spot kind begin letters figures value plated driven rows periods leastPeriod sv motion) → va_S A s.heap H locs → lv_has ls 3 [(0, .ref q0), (1, .int x1), (2, .int x2)] → vm_it (f_X8_likeness_4s sv motion) n (x1, x2) = some ex4 → W p l e ({ frames := 1, cells := 0, slots := 0, locals := 21 } : Room) s m ([.ref q0] : List Value).toArray below meth c H locs 0 0 QQ (F0 m 4 ls []) := by
      clear hP hD hS hl hf h1
      intro n
      induction n with
      | zero => intro x1 x2 H locs ls hP hD hS hl hf; exact (vm_it_0 hf).elim
      | succ n ih =>
        intro x1 x2 H locs ls hP hD hS hl hf
        have hf : f_X8_likeness_4b sv motion x1 x2 (vm_it (f_X8_likeness_4s sv motion) n) = some ex4 := hf
        have K_44 : ∀ (x2 : Int32) (s0 : Int32) (s1 : Int32) {H : Heap} {locs : List Loc} {ls : Array Slot}, va_P Γ.1 vwCl (wd_X8_likeness Γ q0 q1 q2 d0 d1 d2 d3 d4 d5 d6 d7 d8 d9 d10 d11 d12 length undoMany zeroKept oneKept seen spot kind begin letters figures value plated driven rows periods leastPeriod sv motion) H → va_D A (wd_X8_likeness Γ q0 q1 q2 d0 d1 d2 d3 d4 d5 d6 d7 d8 d9 d10 d11 d12 length undoMany zeroKept oneKept seen spot kind begin letters figures value plated driven rows periods leastPeriod sv motion) → va_S A s.heap H locs → lv_has ls 3 [(0, .ref q0), (2, .int x2)] → f_X8_likeness_44 sv motion x2 s0 s1 (vm_it (f_X8_likeness_4s sv motion) n) = some ex4 → W p l e ({ frames := 1, cells := 0, slots := 0, locals := 21 } : Room) s m ([.ref q0] : List Value).toArray below meth c H locs 0 0 QQ (F0 m 44 ls [.int s1, .int s0]) := by
          intro x2 s0 s1 H locs ls hP hD hS hl hf
          unfold f_X8_likeness_44 at hf
          refine lv_iadd hx hb dX8_likeness_44 ?_
          refine lv_istore_n (lv' := [(1, .int (s0 + s1)), (0, .ref q0), (2, .int x2)]) hx hb dX8_likeness_45 rfl hl (by decide) rfl (fun ls hl => ?_)
          refine lv_iinc (v := (x2 + 1)) (lv' := [(2, .int (x2 + 1)), (1, .int (s0 + s1)), (0, .ref q0)]) hx hb dX8_likeness_46 hl (k := 2) rfl rfl (by decide) rfl (fun ls hl => ?_)
          refine lv_goto (tgt := 4) hx hb dX8_likeness_49 (by decide) ?_
          exact ih (s0 + s1) (x2 + 1) hP hD hS (lv_sub hl [2, 1, 0] rfl) hf
        have K_36 : ∀ (x2 : Int32) (s0 : Int32) (s1 : Int32) (s2 : Int32) {H : Heap} {locs : List Loc} {ls : Array Slot}, va_P Γ.1 vwCl (wd_X8_likeness Γ q0 q1 q2 d0 d1 d2 d3 d4 d5 d6 d7 d8 d9 d10 d11 d12 length undoMany zeroKept oneKept seen spot kind begin letters figures value plated driven rows periods leastPeriod sv motion) H → va_D A (wd_X8_likeness Γ q0 q1 q2 d0 d1 d2 d3 d4 d5 d6 d7 d8 d9 d10 d11 d12 length undoMany zeroKept oneKept seen spot kind begin letters figures value plated driven rows periods leastPeriod sv motion) → va_S A s.heap H locs → lv_has ls 3 [(0, .ref q0), (2, .int x2)] → f_X8_likeness_36 sv motion x2 s0 s1 s2 (vm_it (f_X8_likeness_4s sv motion) n) = some ex4 → W p l e ({ frames := 1, cells := 0, slots := 0, locals := 21 } : Room) s m ([.ref q0] : List Value).toArray below meth c H locs 0 0 QQ (F0 m 36 ls [.int s2, .int s1, .int s0]) := by
          intro x2 s0 s1 s2 H locs ls hP hD hS hl hf
          unfold f_X8_likeness_36 at hf
          refine lv_icmp_ne (tgt := 43) hx hb dX8_likeness_36 (by decide) (fun hc_1 => ?_) (fun hc_1 => ?_)
          · have hf := vm_neg hc_1 hf
            refine lv_iconst (v := 0) hx hb dX8_likeness_43 (by decide) ?_
            exact K_44 x2 s0 0 hP hD hS (lv_sub hl [0, 1] rfl) hf
          · have hf := vm_pos hc_1 hf
            refine lv_iconst (v := 1) hx hb dX8_likeness_39 (by decide) ?_
            refine lv_goto (tgt := 44) hx hb dX8_likeness_40 (by decide) ?_
            exact K_44 x2 s0 1 hP hD hS (lv_sub hl [0, 1] rfl) hf
        unfold f_X8_likeness_4b at hf
        refine lv_iload_n hx hb dX8_likeness_4 rfl (lv_at hl 2 rfl) ?_
        refine lv_aload_n hx hb dX8_likeness_5 rfl (lv_at hl 0 rfl) ?_
        obtain ⟨r_2, hq_3, hf⟩ := ob1_some hf
        refine vm_cVi (isC := [0, 1]) (wc := (wd_X8_cells Γ q0 q1 d0 d1 d2 d3 d4 d5 d6 d7 d8 d9 q2 d10 d11 d12 length undoMany zeroKept oneKept seen spot kind begin letters figures value plated driven rows periods leastPeriod sv)) (w1 := (wd_X8_cells Γ q0 q1 d0 d1 d2 d3 d4 d5 d6 d7 d8 d9 q2 d10 d11 d12 length undoMany zeroKept oneKept seen spot kind begin letters figures value plated driven rows periods leastPeriod sv)) (As := []) (rest := [.int x2]) ⟨hx, hb, hml, hown, hts⟩ hE hP hD hS hA rfl rfl rfl (c_X8_cells l Γ _ q0 q1 d0 d1 d2 d3 d4 d5 d6 d7 d8 d9 q2 d10 d11 d12 length undoMany zeroKept oneKept seen spot kind begin letters figures value plated driven rows periods leastPeriod sv r_2 hq_3) (cwV 0 hts gX8_likeness_X8_cells rfl rfl rfl (by decide +kernel) ⟨Nat.le_of_ble_eq_true rfl, Nat.le_of_ble_eq_true rfl⟩) (va_recv (ci := 8) (q0 := 0) hK hP rfl rfl) rfl hl.1 rfl (Nat.le_of_ble_eq_true rfl) dX8_likeness_6 ⟨Nat.zero_le _, Nat.zero_le _⟩ (fun H locs hP hD hS => ?_)
        have hP : va_P Γ.1 vwCl (wd_X8_likeness Γ q0 q1 q2 d0 d1 d2 d3 d4 d5 d6 d7 d8 d9 d10 d11 d12 length undoMany zeroKept oneKept seen spot kind begin letters figures value plated driven rows periods leastPeriod sv motion) H := hP
        have hD : va_D A (wd_X8_likeness Γ q0 q1 q2 d0 d1 d2 d3 d4 d5 d6 d7 d8 d9 d10 d11 d12 length undoMany zeroKept oneKept seen spot kind begin letters figures value plated driven rows periods leastPeriod sv motion) := hD
        refine lv_icmp_ge (tgt := 52) hx hb dX8_likeness_9 (by decide) (fun hc_4 => ?_) (fun hc_4 => ?_)
        · have hf := vm_pos hc_4 hf
          have hX := hX4
          rw [← Option.some.inj hf] at hX
          exact K_52 x1 hP hD hS (lv_sub hl [1] rfl) hX
        · have hf := vm_neg hc_4 hf
          refine lv_iload_n hx hb dX8_likeness_12 rfl (lv_at hl 1 rfl) ?_
          refine lv_aload_n hx hb dX8_likeness_13 rfl (lv_at hl 0 rfl) ?_
          refine lv_iload_n hx hb dX8_likeness_14 rfl (lv_at hl 2 rfl) ?_
          obtain ⟨r_5, hq_6, hf⟩ := ob1_some hf
          refine vm_cVi (isC := [0, 1, 2]) (wc := (wd_X8_isStill Γ q0 q1 q2 d0 d1 d2 d3 d4 d5 d6 d7 d8 d9 d10 d11 d12 length undoMany zeroKept oneKept seen spot kind begin letters figures value plated driven rows periods leastPeriod sv motion)) (w1 := (wd_X8_isStill Γ q0 q1 q2 d0 d1 d2 d3 d4 d5 d6 d7 d8 d9 d10 d11 d12 length undoMany zeroKept oneKept seen spot kind begin letters figures value plated driven rows periods leastPeriod sv motion)) (As := [.int x2]) (rest := [.int x1]) ⟨hx, hb, hml, hown, hts⟩ hE hP hD hS hA rfl rfl rfl (c_X8_isStill l Γ _ q0 q1 q2 d0 d1 d2 d3 d4 d5 d6 d7 d8 d9 d10 d11 d12 length undoMany zeroKept oneKept seen spot kind begin letters figures value plated driven rows periods leastPeriod sv motion x2 r_5 hq_6) (cwV 1 hts gX8_likeness_X8_isStill rfl rfl rfl (by decide +kernel) ⟨Nat.le_of_ble_eq_true rfl, Nat.le_of_ble_eq_true rfl⟩) (va_recv (ci := 8) (q0 := 0) hK hP rfl rfl) rfl hl.1 rfl (Nat.le_of_ble_eq_true rfl) dX8_likeness_15 ⟨Nat.zero_le _, Nat.zero_le _⟩ (fun H locs hP hD hS => ?_)
          have hP : va_P Γ.1 vwCl (wd_X8_likeness Γ q0 q1 q2 d0 d1 d2 d3 d4 d5 d6 d7 d8 d9 d10 d11 d12 length undoMany zeroKept oneKept seen spot kind begin letters figures value plated driven rows periods leastPeriod sv motion) H := hP
          have hD : va_D A (wd_X8_likeness Γ q0 q1 q2 d0 d1 d2 d3 d4 d5 d6 d7 d8 d9 d10 d11 d12 length undoMany zeroKept oneKept seen spot kind begin letters figures value plated driven rows periods leastPeriod sv motion) := hD
          refine lv_aload_n hx hb dX8_likeness_18 rfl (lv_at hl 0 rfl) ?_
          refine va_get (D := Γ.1) (ci := 8) (v := .ref q1) (C := RX8) (T := TX8) (N := 31) hx hb hts hi8 hown hK hP 0 rfl rfl 2 (by decide) (hts (.fieldLink RX8 13 "SandPlatesModel" "s" "[I") (List.mem_of_getElem? (i := 1) rfl)) (fun _ h9 => h9) rfl dX8_likeness_19 ?_
          refine lv_bipush (v := 9) hx hb dX8_likeness_22 (by decide) ?_
          refine lv_iload_n hx hb dX8_likeness_24 rfl (lv_at hl 2 rfl) ?_
          refine lv_iadd hx hb dX8_likeness_25 ?_
          obtain ⟨hc_7, hf⟩ := vm_ck hf
          refine vm_iald hx hb hK hP 1 0 rfl rfl hc_7 (j := (9 + x2).toNatClampNeg) rfl dX8_likeness_26 ?_
          refine lv_iconst (v := 1) hx hb dX8_likeness_27 (by decide) ?_
          refine lv_icmp_ne (tgt := 35) hx hb dX8_likeness_28 (by decide) (fun hc_8 => ?_) (fun hc_8 => ?_)
          · have hf := vm_neg hc_8 hf
            refine lv_iconst (v := 0) hx hb dX8_likeness_35 (by decide) ?_
            exact K_36 x2 x1 r_5 0 hP hD hS (lv_sub hl [0, 2] rfl) hf
          · have hf := vm_pos hc_8 hf
            refine lv_iconst (v := 1) hx hb dX8_likeness_31 (by decide) ?_
            refine lv_goto (tgt := 36) hx hb dX8_likeness_32 (by decide) ?_
            exact K_36 x2 x1 r_5 1 hP hD hS (lv_sub hl [0, 2] rfl) hf
    exact LP FU x1 x2 hP hD hS hl h1
  unfold f_X8_likeness at hf
  refine lv_iconst (v := 0) hx hb dX8_likeness_0 (by decide) ?_
  refine lv_istore_n (lv' := [(1, .int 0), (0, .ref q0)]) hx hb dX8_likeness_1 rfl hl (by decide) rfl (fun ls hl => ?_)
  refine lv_iconst (v := 0) hx hb dX8_likeness_2 (by decide) ?_
  refine lv_istore_n (lv' := [(2, .int 0), (1, .int 0), (0, .ref q0)]) hx hb dX8_likeness_3 rfl hl (by decide) rfl (fun ls hl => ?_)
  exact K_4 0 0 hP hD hS (lv_sub hl [2, 1, 0] rfl) hf
def wd_X8_stillMany (Γ : GE) (q0 q1 q2 d0 d1 d2 d3 d4 d5 d6 d7 d8 d9 d10 d11 d12 : Nat) (length : Int32) (undoMany : Int32) (zeroKept : Int32) (oneKept : Int32) (seen : Int32) (spot : Int32) (kind : Int32) (begin : Int32) (letters : Int64) (figures : Int32) (value : Int32) (plated : Int32) (driven : Int32) (rows : Int32) (periods : Int32) (leastPeriod : Int32) (sv : Nat → Int32) (motion : Nat → Int32) : va_W := [(q0, .inr (8, [.int length, .ref d0, .ref q1, .ref d1, .ref d2, .int undoMany, .ref d3, .int zeroKept, .int oneKept, .ref d4, .ref d5, .int seen, .int spot, .int kind, .int begin, .long letters, .int figures, .int value, .int plated, .int driven, .int rows, .ref d6, .ref d7, .ref d8, .ref d9, .ref q2, .ref d10, .ref d11, .ref d12, .int periods, .int leastPeriod])), (q1, .inl (Γ.2.1 0, 81, .inl sv)), (q2, .inl (Γ.2.1 0, 36, .inl motion))]
def f_X8_stillMany_34 (x1 : Int32) : Option Int32 := some x1
def f_X8_stillMany_26 (sv : Nat → Int32) (motion : Nat → Int32) (x2 : Int32) (s0 : Int32) (s1 : Int32) (k : ((Int32 × Int32) → Option Int32)) : Option Int32 := k ((s0 + s1), (x2 + 1))
def f_X8_stillMany_4b (sv : Nat → Int32) (motion : Nat → Int32) (x1 : Int32) (x2 : Int32) (k : ((Int32 × Int32) → Option Int32)) : Option Int32 := ob1 (f_X8_cells sv) (fun r_1 => if r_1 ≤ x2 then (some x1) else (ob1 (f_X8_isStill sv motion x2) (fun r_4 => if r_4 = 0 then (f_X8_stillMany_26 sv motion x2 x1 0 k) else (f_X8_stillMany_26 sv motion x2 x1 1 k))))
def f_X8_stillMany_4s (sv : Nat → Int32) (motion : Nat → Int32) : (Int32 × Int32) → ((Int32 × Int32) → Option Int32) → Option Int32 := fun t k => f_X8_stillMany_4b sv motion t.1 t.2 k
def f_X8_stillMany_4 (sv : Nat → Int32) (motion : Nat → Int32) (x1 : Int32) (x2 : Int32) : Option Int32 := obx (vm_it (f_X8_stillMany_4s sv motion) FU (x1, x2)) (fun x1 => f_X8_stillMany_34 x1)
def f_X8_stillMany (sv : Nat → Int32) (motion : Nat → Int32) : Option Int32 := f_X8_stillMany_4 sv motion 0 0
set_option maxHeartbeats 4000000 in
set_option maxRecDepth 100000 in
theorem c_X8_stillMany (l : Launch) (Γ : GE) (sz : Nat) (q0 q1 q2 d0 d1 d2 d3 d4 d5 d6 d7 d8 d9 d10 d11 d12 : Nat) (length : Int32) (undoMany : Int32) (zeroKept : Int32) (oneKept : Int32) (seen : Int32) (spot : Int32) (kind : Int32) (begin : Int32) (letters : Int64) (figures : Int32) (value : Int32) (plated : Int32) (driven : Int32) (rows : Int32) (periods : Int32) (leastPeriod : Int32) (sv : Nat → Int32) (motion : Nat → Int32) (ro : Int32) (hf : f_X8_stillMany sv motion = some ro) : MetI l yX8_stillMany wsX8_stillMany ({ frames := 1, cells := 0, slots := 0, locals := 21 } : Room) Γ [.ref q0] (wd_X8_stillMany Γ q0 q1 q2 d0 d1 d2 d3 d4 d5 d6 d7 d8 d9 d10 d11 d12 length undoMany zeroKept oneKept seen spot kind begin letters figures value plated driven rows periods leastPeriod sv motion) (wd_X8_stillMany Γ q0 q1 q2 d0 d1 d2 d3 d4 d5 d6 d7 d8 d9 d10 d11 d12 length undoMany zeroKept oneKept seen spot kind begin letters figures value plated driven rows periods leastPeriod sv motion) sz ro := by
  refine Met.ofW (cc := cX8_stillMany) (maxL := 3) (ret := (some .int)) (by decide) rfl ?_
  intro p e s m args below meth c s₁ B hml hv
  obtain ⟨rfl, hsz, hE, hP, hD⟩ := hv
  have hx := B.exec
  have hb := B.bytes
  have hr := B.returns
  have hts := atoms_spec (ws := wsX8_stillMany) B.pre
  have hown : s.vm.findClass RX8 = some m.cls := findClass_of_methodNamed B.named
  have hlocks := B.notSynchronized
  subst hsz
  generalize hAe : va_A (wd_X8_stillMany Γ q0 q1 q2 d0 d1 d2 d3 d4 d5 d6 d7 d8 d9 d10 d11 d12 length undoMany zeroKept oneKept seen spot kind begin letters figures value plated driven rows periods leastPeriod sv motion) s.heap.size = A at hE hD ⊢
  have hA : ∀ q : Nat, s.heap.size ≤ q → A q := fun q h => by rw [← hAe]; exact Or.inr h
  clear hAe
  have hS : va_S A s.heap s.heap [] := va_S.rf
  have hK := hE.1
  have hl := lv_entry ([.ref q0]) (n := 3) (Nat.le_of_ble_eq_true rfl)
  rw [lg_entry_eq]
  generalize (lg_sl ([.ref q0]) ++ List.replicate (3 - (lg_sl ([.ref q0])).length) Slot.unset).toArray = ls at hl ⊢
  have hl : lv_has ls 3 [(0, .ref q0)] := hl
  have hi8 : ∀ w ∈ u_ws RX8 TX8 31, w ∈ wsX8_stillMany := fun w h => (List.mem_cons_of_mem _ (List.mem_append_right _ h))
  obtain ⟨out, hout⟩ : ∃ o, o = ro := ⟨_, rfl⟩
  rw [← hout] at hf
  obtain ⟨QQ, hQQ⟩ : ∃ Q, Q = MQ below (va_Qi (fun (r' : Int32) (_ : Unit) => r' = ro) (CQ Γ (wd_X8_stillMany Γ q0 q1 q2 d0 d1 d2 d3 d4 d5 d6 d7 d8 d9 d10 d11 d12 length undoMany zeroKept oneKept seen spot kind begin letters figures value plated driven rows periods leastPeriod sv motion) A) A) (([.ref q0] : List Value).toArray) s 0 0 A := ⟨_, rfl⟩
  show W p l e ({ frames := 1, cells := 0, slots := 0, locals := 21 } : Room) s m (([.ref q0] : List Value).toArray) below meth c s.heap [] 0 0 (MQ below _ (([.ref q0] : List Value).toArray) s 0 0 A) (F0 m 0 ls [])
  rw [← hQQ]
  have K_34 : ∀ (x1 : Int32) {H : Heap} {locs : List Loc} {ls : Array Slot}, va_P Γ.1 vwCl (wd_X8_stillMany Γ q0 q1 q2 d0 d1 d2 d3 d4 d5 d6 d7 d8 d9 d10 d11 d12 length undoMany zeroKept oneKept seen spot kind begin letters figures value plated driven rows periods leastPeriod sv motion) H → va_D A (wd_X8_stillMany Γ q0 q1 q2 d0 d1 d2 d3 d4 d5 d6 d7 d8 d9 d10 d11 d12 length undoMany zeroKept oneKept seen spot kind begin letters figures value plated driven rows periods leastPeriod sv motion) → va_S A s.heap H locs → lv_has ls 3 [(1, .int x1)] → f_X8_stillMany_34 x1 = some out → W p l e ({ frames := 1, cells := 0, slots := 0, locals := 21 } : Room) s m ([.ref q0] : List Value).toArray below meth c H locs 0 0 QQ (F0 m 34 ls []) := by
    intro x1 H locs ls hP hD hS hl hf
    unfold f_X8_stillMany_34 at hf
    refine lv_iload_n hx hb dX8_stillMany_34 rfl (lv_at hl 0 rfl) ?_
    subst hout; obtain rfl := Option.some.inj hf
    subst hQQ
    exact W.iret hx hb hr (fun t ht hW => ⟨⟨_, (), rfl, rfl, by rw [ht]; exact hP, hD⟩, hS.F ht⟩) hS.2.2 dX8_stillMany_35
  have K_4 : ∀ (x1 : Int32) (x2 : Int32) {H : Heap} {locs : List Loc} {ls : Array Slot}, va_P Γ.1 vwCl (wd_X8_stillMany Γ q0 q1 q2 d0 d1 d2 d3 d4 d5 d6 d7 d8 d9 d10 d11 d12 length undoMany zeroKept oneKept seen spot kind begin letters figures value plated driven rows periods leastPeriod sv motion) H → va_D A (wd_X8_stillMany Γ q0 q1 q2 d0 d1 d2 d3 d4 d5 d6 d7 d8 d9 d10 d11 d12 length undoMany zeroKept oneKept seen spot kind begin letters figures value plated driven rows periods leastPeriod sv motion) → va_S A s.heap H locs → lv_has ls 3 [(0, .ref q0), (1, .int x1), (2, .int x2)] → f_X8_stillMany_4 sv motion x1 x2 = some out → W p l e ({ frames := 1, cells := 0, slots := 0, locals := 21 } : Room) s m ([.ref q0] : List Value).toArray below meth c H locs 0 0 QQ (F0 m 4 ls []) := by
    intro x1 x2 H locs ls hP hD hS hl hf
    unfold f_X8_stillMany_4 at hf
    obtain ⟨ex4, h1, hX4⟩ := obx_some hf
    have LP : ∀ (n : Nat) (x1 : Int32) (x2 : Int32)  {H : Heap} {locs : List Loc} {ls : Array Slot}, va_P Γ.1 vwCl (wd_X8_stillMany Γ q0 q1 q2 d0 d1 d2 d3 d4 d5 d6 d7 d8 d9 d10 d11 d12 length undoMany zeroKept oneKept seen spot kind begin letters figures value plated driven rows periods leastPeriod sv motion) H → va_D A (wd_X8_stillMany Γ q0 q1 q2 d0 d1 d2 d3 d4 d5 d6 d7 d8 d9 d10 d11 d12 length undoMany zeroKept oneKept seen spot kind begin letters figures value plated driven rows periods leastPeriod sv motion) → va_S A s.heap H locs → lv_has ls 3 [(0, .ref q0), (1, .int x1), (2, .int x2)] → vm_it (f_X8_stillMany_4s sv motion) n (x1, x2) = some ex4 → W p l e ({ frames := 1, cells := 0, slots := 0, locals := 21 } : Room) s m ([.ref q0] : List Value).toArray below meth c H locs 0 0 QQ (F0 m 4 ls []) := by
      clear hP hD hS hl hf h1
      intro n
      induction n with
      | zero => intro x1 x2 H locs ls hP hD hS hl hf; exact (vm_it_0 hf).elim
      | succ n ih =>
        intro x1 x2 H locs ls hP hD hS hl hf
        have hf : f_X8_stillMany_4b sv motion x1 x2 (vm_it (f_X8_stillMany_4s sv motion) n) = some ex4 := hf
        have K_26 : ∀ (x2 : Int32) (s0 : Int32) (s1 : Int32) {H : Heap} {locs : List Loc} {ls : Array Slot}, va_P Γ.1 vwCl (wd_X8_stillMany Γ q0 q1 q2 d0 d1 d2 d3 d4 d5 d6 d7 d8 d9 d10 d11 d12 length undoMany zeroKept oneKept seen spot kind begin letters figures value plated driven rows periods leastPeriod sv motion) H → va_D A (wd_X8_stillMany Γ q0 q1 q2 d0 d1 d2 d3 d4 d5 d6 d7 d8 d9 d10 d11 d12 length undoMany zeroKept oneKept seen spot kind begin letters figures value plated driven rows periods leastPeriod sv motion) → va_S A s.heap H locs → lv_has ls 3 [(0, .ref q0), (2, .int x2)] → f_X8_stillMany_26 sv motion x2 s0 s1 (vm_it (f_X8_stillMany_4s sv motion) n) = some ex4 → W p l e ({ frames := 1, cells := 0, slots := 0, locals := 21 } : Room) s m ([.ref q0] : List Value).toArray below meth c H locs 0 0 QQ (F0 m 26 ls [.int s1, .int s0]) := by
          intro x2 s0 s1 H locs ls hP hD hS hl hf
          unfold f_X8_stillMany_26 at hf
          refine lv_iadd hx hb dX8_stillMany_26 ?_
          refine lv_istore_n (lv' := [(1, .int (s0 + s1)), (0, .ref q0), (2, .int x2)]) hx hb dX8_stillMany_27 rfl hl (by decide) rfl (fun ls hl => ?_)
          refine lv_iinc (v := (x2 + 1)) (lv' := [(2, .int (x2 + 1)), (1, .int (s0 + s1)), (0, .ref q0)]) hx hb dX8_stillMany_28 hl (k := 2) rfl rfl (by decide) rfl (fun ls hl => ?_)
          refine lv_goto (tgt := 4) hx hb dX8_stillMany_31 (by decide) ?_
          exact ih (s0 + s1) (x2 + 1) hP hD hS (lv_sub hl [2, 1, 0] rfl) hf
        unfold f_X8_stillMany_4b at hf
        refine lv_iload_n hx hb dX8_stillMany_4 rfl (lv_at hl 2 rfl) ?_
        refine lv_aload_n hx hb dX8_stillMany_5 rfl (lv_at hl 0 rfl) ?_
        obtain ⟨r_1, hq_2, hf⟩ := ob1_some hf
        refine vm_cVi (isC := [0, 1]) (wc := (wd_X8_cells Γ q0 q1 d0 d1 d2 d3 d4 d5 d6 d7 d8 d9 q2 d10 d11 d12 length undoMany zeroKept oneKept seen spot kind begin letters figures value plated driven rows periods leastPeriod sv)) (w1 := (wd_X8_cells Γ q0 q1 d0 d1 d2 d3 d4 d5 d6 d7 d8 d9 q2 d10 d11 d12 length undoMany zeroKept oneKept seen spot kind begin letters figures value plated driven rows periods leastPeriod sv)) (As := []) (rest := [.int x2]) ⟨hx, hb, hml, hown, hts⟩ hE hP hD hS hA rfl rfl rfl (c_X8_cells l Γ _ q0 q1 d0 d1 d2 d3 d4 d5 d6 d7 d8 d9 q2 d10 d11 d12 length undoMany zeroKept oneKept seen spot kind begin letters figures value plated driven rows periods leastPeriod sv r_1 hq_2) (cwV 0 hts gX8_stillMany_X8_cells rfl rfl rfl (by decide +kernel) ⟨Nat.le_of_ble_eq_true rfl, Nat.le_of_ble_eq_true rfl⟩) (va_recv (ci := 8) (q0 := 0) hK hP rfl rfl) rfl hl.1 rfl (Nat.le_of_ble_eq_true rfl) dX8_stillMany_6 ⟨Nat.zero_le _, Nat.zero_le _⟩ (fun H locs hP hD hS => ?_)
        have hP : va_P Γ.1 vwCl (wd_X8_stillMany Γ q0 q1 q2 d0 d1 d2 d3 d4 d5 d6 d7 d8 d9 d10 d11 d12 length undoMany zeroKept oneKept seen spot kind begin letters figures value plated driven rows periods leastPeriod sv motion) H := hP
        have hD : va_D A (wd_X8_stillMany Γ q0 q1 q2 d0 d1 d2 d3 d4 d5 d6 d7 d8 d9 d10 d11 d12 length undoMany zeroKept oneKept seen spot kind begin letters figures value plated driven rows periods leastPeriod sv motion) := hD
        refine lv_icmp_ge (tgt := 34) hx hb dX8_stillMany_9 (by decide) (fun hc_3 => ?_) (fun hc_3 => ?_)
        · have hf := vm_pos hc_3 hf
          have hX := hX4
          rw [← Option.some.inj hf] at hX
          exact K_34 x1 hP hD hS (lv_sub hl [1] rfl) hX
        · have hf := vm_neg hc_3 hf
          refine lv_iload_n hx hb dX8_stillMany_12 rfl (lv_at hl 1 rfl) ?_
          refine lv_aload_n hx hb dX8_stillMany_13 rfl (lv_at hl 0 rfl) ?_
          refine lv_iload_n hx hb dX8_stillMany_14 rfl (lv_at hl 2 rfl) ?_
          obtain ⟨r_4, hq_5, hf⟩ := ob1_some hf
          refine vm_cVi (isC := [0, 1, 2]) (wc := (wd_X8_isStill Γ q0 q1 q2 d0 d1 d2 d3 d4 d5 d6 d7 d8 d9 d10 d11 d12 length undoMany zeroKept oneKept seen spot kind begin letters figures value plated driven rows periods leastPeriod sv motion)) (w1 := (wd_X8_isStill Γ q0 q1 q2 d0 d1 d2 d3 d4 d5 d6 d7 d8 d9 d10 d11 d12 length undoMany zeroKept oneKept seen spot kind begin letters figures value plated driven rows periods leastPeriod sv motion)) (As := [.int x2]) (rest := [.int x1]) ⟨hx, hb, hml, hown, hts⟩ hE hP hD hS hA rfl rfl rfl (c_X8_isStill l Γ _ q0 q1 q2 d0 d1 d2 d3 d4 d5 d6 d7 d8 d9 d10 d11 d12 length undoMany zeroKept oneKept seen spot kind begin letters figures value plated driven rows periods leastPeriod sv motion x2 r_4 hq_5) (cwV 1 hts gX8_stillMany_X8_isStill rfl rfl rfl (by decide +kernel) ⟨Nat.le_of_ble_eq_true rfl, Nat.le_of_ble_eq_true rfl⟩) (va_recv (ci := 8) (q0 := 0) hK hP rfl rfl) rfl hl.1 rfl (Nat.le_of_ble_eq_true rfl) dX8_stillMany_15 ⟨Nat.zero_le _, Nat.zero_le _⟩ (fun H locs hP hD hS => ?_)
          have hP : va_P Γ.1 vwCl (wd_X8_stillMany Γ q0 q1 q2 d0 d1 d2 d3 d4 d5 d6 d7 d8 d9 d10 d11 d12 length undoMany zeroKept oneKept seen spot kind begin letters figures value plated driven rows periods leastPeriod sv motion) H := hP
          have hD : va_D A (wd_X8_stillMany Γ q0 q1 q2 d0 d1 d2 d3 d4 d5 d6 d7 d8 d9 d10 d11 d12 length undoMany zeroKept oneKept seen spot kind begin letters figures value plated driven rows periods leastPeriod sv motion) := hD
          refine lv_if_eq (tgt := 25) hx hb dX8_stillMany_18 (by decide) (fun hc_6 => ?_) (fun hc_6 => ?_)
          · have hf := vm_pos hc_6 hf
            refine lv_iconst (v := 0) hx hb dX8_stillMany_25 (by decide) ?_
            exact K_26 x2 x1 0 hP hD hS (lv_sub hl [0, 2] rfl) hf
          · have hf := vm_neg hc_6 hf
            refine lv_iconst (v := 1) hx hb dX8_stillMany_21 (by decide) ?_
            refine lv_goto (tgt := 26) hx hb dX8_stillMany_22 (by decide) ?_
            exact K_26 x2 x1 1 hP hD hS (lv_sub hl [0, 2] rfl) hf
    exact LP FU x1 x2 hP hD hS hl h1
  unfold f_X8_stillMany at hf
  refine lv_iconst (v := 0) hx hb dX8_stillMany_0 (by decide) ?_
  refine lv_istore_n (lv' := [(1, .int 0), (0, .ref q0)]) hx hb dX8_stillMany_1 rfl hl (by decide) rfl (fun ls hl => ?_)
  refine lv_iconst (v := 0) hx hb dX8_stillMany_2 (by decide) ?_
  refine lv_istore_n (lv' := [(2, .int 0), (1, .int 0), (0, .ref q0)]) hx hb dX8_stillMany_3 rfl hl (by decide) rfl (fun ls hl => ?_)
  exact K_4 0 0 hP hD hS (lv_sub hl [2, 1, 0] rfl) hf
def wd_X8_nearest (Γ : GE) (q0 q1 q2 d0 d1 d2 d3 d4 d5 d6 d7 d8 d9 d10 d11 d12 : Nat) (length : Int32) (undoMany : Int32) (zeroKept : Int32) (oneKept : Int32) (seen : Int32) (spot : Int32) (kind : Int32) (begin : Int32) (letters : Int64) (figures : Int32) (value : Int32) (plated : Int32) (driven : Int32) (rows : Int32) (periods : Int32) (leastPeriod : Int32) (sv : Nat → Int32) (motion : Nat → Int32) : va_W := [(q0, .inr (8, [.int length, .ref d0, .ref q1, .ref d1, .ref d2, .int undoMany, .ref d3, .int zeroKept, .int oneKept, .ref d4, .ref d5, .int seen, .int spot, .int kind, .int begin, .long letters, .int figures, .int value, .int plated, .int driven, .int rows, .ref d6, .ref d7, .ref d8, .ref d9, .ref q2, .ref d10, .ref d11, .ref d12, .int periods, .int leastPeriod])), (q1, .inl (Γ.2.1 0, 81, .inl sv)), (q2, .inl (Γ.2.1 0, 36, .inl motion))]
def f_X8_nearest_142 (x3 : Int32) : Option Int32 := some x3
def f_X8_nearest_135 (sv : Nat → Int32) (motion : Nat → Int32) (x1 : Int32) (x2 : Int32) (x4 : Int32) (s0 : Int32) (k : ((Int32 × Int32) → Option Int32)) : Option Int32 := k (s0, (x4 + 1))
def f_X8_nearest_134 (sv : Nat → Int32) (motion : Nat → Int32) (x1 : Int32) (x2 : Int32) (x3 : Int32) (x4 : Int32) (k : ((Int32 × Int32) → Option Int32)) : Option Int32 := f_X8_nearest_135 sv motion x1 x2 x4 x3 k
def f_X8_nearest_116 (sv : Nat → Int32) (motion : Nat → Int32) (x1 : Int32) (x2 : Int32) (x3 : Int32) (x4 : Int32) (x7 : Int32) (s0 : Int32) (k : ((Int32 × Int32) → Option Int32)) : Option Int32 := if s0 = 0 then (f_X8_nearest_134 sv motion x1 x2 x3 x4 k) else (if x3 ≤ x7 then (f_X8_nearest_134 sv motion x1 x2 x3 x4 k) else (f_X8_nearest_135 sv motion x1 x2 x4 x7 k))
def f_X8_nearest_81 (sv : Nat → Int32) (motion : Nat → Int32) (x1 : Int32) (x2 : Int32) (x3 : Int32) (x4 : Int32) (s0 : Int32) (s1 : Int32) (k : ((Int32 × Int32) → Option Int32)) : Option Int32 := if x2 = 0 then (if inb (9 + x4) 81 = true then if (sv ((9 + x4).toNatClampNeg)) = 1 then (f_X8_nearest_116 sv motion x1 x2 x3 x4 (s0 + s1) 1 k) else (f_X8_nearest_116 sv motion x1 x2 x3 x4 (s0 + s1) 0 k) else none) else (ob1 (f_X8_isStill sv motion x4) (fun r_6 => f_X8_nearest_116 sv motion x1 x2 x3 x4 (s0 + s1) r_6 k))
def f_X8_nearest_68 (sv : Nat → Int32) (motion : Nat → Int32) (x1 : Int32) (x2 : Int32) (x3 : Int32) (x4 : Int32) (x6 : Int32) (s0 : Int32) (k : ((Int32 × Int32) → Option Int32)) : Option Int32 := if 0 ≤ x6 then (f_X8_nearest_81 sv motion x1 x2 x3 x4 s0 x6 k) else (f_X8_nearest_81 sv motion x1 x2 x3 x4 s0 (-x6) k)
def f_X8_nearest_6b (sv : Nat → Int32) (motion : Nat → Int32) (x1 : Int32) (x2 : Int32) (x3 : Int32) (x4 : Int32) (k : ((Int32 × Int32) → Option Int32)) : Option Int32 := ob1 (f_X8_cells sv) (fun r_9 => if r_9 ≤ x4 then (some x3) else (if ¬ (sv 0) = 0 then if ¬ (sv 0) = 0 then if ¬ (sv 0) = 0 then if ¬ (sv 0) = 0 then if 0 ≤ ((vm_rem x1 (sv 0)) - (vm_rem x4 (sv 0))) then (f_X8_nearest_68 sv motion x1 x2 x3 x4 ((x1 / (sv 0)) - (x4 / (sv 0))) ((vm_rem x1 (sv 0)) - (vm_rem x4 (sv 0))) k) else (f_X8_nearest_68 sv motion x1 x2 x3 x4 ((x1 / (sv 0)) - (x4 / (sv 0))) (-((vm_rem x1 (sv 0)) - (vm_rem x4 (sv 0)))) k) else none else none else none else none))
def f_X8_nearest_6s (sv : Nat → Int32) (motion : Nat → Int32) (x1 : Int32) (x2 : Int32) : (Int32 × Int32) → ((Int32 × Int32) → Option Int32) → Option Int32 := fun t k => f_X8_nearest_6b sv motion x1 x2 t.1 t.2 k
def f_X8_nearest_6 (sv : Nat → Int32) (motion : Nat → Int32) (x1 : Int32) (x2 : Int32) (x3 : Int32) (x4 : Int32) : Option Int32 := obx (vm_it (f_X8_nearest_6s sv motion x1 x2) FU (x3, x4)) (fun x3 => f_X8_nearest_142 x3)
def f_X8_nearest (sv : Nat → Int32) (motion : Nat → Int32) (x1 : Int32) (x2 : Int32) : Option Int32 := f_X8_nearest_6 sv motion x1 x2 100 0
set_option maxHeartbeats 4000000 in
set_option maxRecDepth 100000 in
theorem c_X8_nearest (l : Launch) (Γ : GE) (sz : Nat) (q0 q1 q2 d0 d1 d2 d3 d4 d5 d6 d7 d8 d9 d10 d11 d12 : Nat) (length : Int32) (undoMany : Int32) (zeroKept : Int32) (oneKept : Int32) (seen : Int32) (spot : Int32) (kind : Int32) (begin : Int32) (letters : Int64) (figures : Int32) (value : Int32) (plated : Int32) (driven : Int32) (rows : Int32) (periods : Int32) (leastPeriod : Int32) (sv : Nat → Int32) (motion : Nat → Int32) (x1 : Int32) (x2 : Int32) (ro : Int32) (hf : f_X8_nearest sv motion x1 x2 = some ro) : MetI l yX8_nearest wsX8_nearest ({ frames := 1, cells := 0, slots := 0, locals := 21 } : Room) Γ [.ref q0, .int x1, .int x2] (wd_X8_nearest Γ q0 q1 q2 d0 d1 d2 d3 d4 d5 d6 d7 d8 d9 d10 d11 d12 length undoMany zeroKept oneKept seen spot kind begin letters figures value plated driven rows periods leastPeriod sv motion) (wd_X8_nearest Γ q0 q1 q2 d0 d1 d2 d3 d4 d5 d6 d7 d8 d9 d10 d11 d12 length undoMany zeroKept oneKept seen spot kind begin letters figures value plated driven rows periods leastPeriod sv motion) sz ro := by
  refine Met.ofW (cc := cX8_nearest) (maxL := 9) (ret := (some .int)) (by decide) rfl ?_
  intro p e s m args below meth c s₁ B hml hv
  obtain ⟨rfl, hsz, hE, hP, hD⟩ := hv
  have hx := B.exec
  have hb := B.bytes
  have hr := B.returns
  have hts := atoms_spec (ws := wsX8_nearest) B.pre
  have hown : s.vm.findClass RX8 = some m.cls := findClass_of_methodNamed B.named
  have hlocks := B.notSynchronized
  subst hsz
  generalize hAe : va_A (wd_X8_nearest Γ q0 q1 q2 d0 d1 d2 d3 d4 d5 d6 d7 d8 d9 d10 d11 d12 length undoMany zeroKept oneKept seen spot kind begin letters figures value plated driven rows periods leastPeriod sv motion) s.heap.size = A at hE hD ⊢
  have hA : ∀ q : Nat, s.heap.size ≤ q → A q := fun q h => by rw [← hAe]; exact Or.inr h
  clear hAe
  have hS : va_S A s.heap s.heap [] := va_S.rf
  have hK := hE.1
  have hl := lv_entry ([.ref q0, .int x1, .int x2]) (n := 9) (Nat.le_of_ble_eq_true rfl)
  rw [lg_entry_eq]
  generalize (lg_sl ([.ref q0, .int x1, .int x2]) ++ List.replicate (9 - (lg_sl ([.ref q0, .int x1, .int x2])).length) Slot.unset).toArray = ls at hl ⊢
  have hl : lv_has ls 9 [(0, .ref q0), (1, .int x1), (2, .int x2)] := hl
  have hi8 : ∀ w ∈ u_ws RX8 TX8 31, w ∈ wsX8_nearest := fun w h => (List.mem_cons_of_mem _ (List.mem_append_right _ h))
  obtain ⟨out, hout⟩ : ∃ o, o = ro := ⟨_, rfl⟩
  rw [← hout] at hf
  obtain ⟨QQ, hQQ⟩ : ∃ Q, Q = MQ below (va_Qi (fun (r' : Int32) (_ : Unit) => r' = ro) (CQ Γ (wd_X8_nearest Γ q0 q1 q2 d0 d1 d2 d3 d4 d5 d6 d7 d8 d9 d10 d11 d12 length undoMany zeroKept oneKept seen spot kind begin letters figures value plated driven rows periods leastPeriod sv motion) A) A) (([.ref q0, .int x1, .int x2] : List Value).toArray) s 0 0 A := ⟨_, rfl⟩
  show W p l e ({ frames := 1, cells := 0, slots := 0, locals := 21 } : Room) s m (([.ref q0, .int x1, .int x2] : List Value).toArray) below meth c s.heap [] 0 0 (MQ below _ (([.ref q0, .int x1, .int x2] : List Value).toArray) s 0 0 A) (F0 m 0 ls [])
  rw [← hQQ]
  have K_142 : ∀ (x3 : Int32) {H : Heap} {locs : List Loc} {ls : Array Slot}, va_P Γ.1 vwCl (wd_X8_nearest Γ q0 q1 q2 d0 d1 d2 d3 d4 d5 d6 d7 d8 d9 d10 d11 d12 length undoMany zeroKept oneKept seen spot kind begin letters figures value plated driven rows periods leastPeriod sv motion) H → va_D A (wd_X8_nearest Γ q0 q1 q2 d0 d1 d2 d3 d4 d5 d6 d7 d8 d9 d10 d11 d12 length undoMany zeroKept oneKept seen spot kind begin letters figures value plated driven rows periods leastPeriod sv motion) → va_S A s.heap H locs → lv_has ls 9 [(3, .int x3)] → f_X8_nearest_142 x3 = some out → W p l e ({ frames := 1, cells := 0, slots := 0, locals := 21 } : Room) s m ([.ref q0, .int x1, .int x2] : List Value).toArray below meth c H locs 0 0 QQ (F0 m 142 ls []) := by
    intro x3 H locs ls hP hD hS hl hf
    unfold f_X8_nearest_142 at hf
    refine lv_iload_n hx hb dX8_nearest_142 rfl (lv_at hl 0 rfl) ?_
    subst hout; obtain rfl := Option.some.inj hf
    subst hQQ
    exact W.iret hx hb hr (fun t ht hW => ⟨⟨_, (), rfl, rfl, by rw [ht]; exact hP, hD⟩, hS.F ht⟩) hS.2.2 dX8_nearest_143
  have K_6 : ∀ (x3 : Int32) (x4 : Int32) {H : Heap} {locs : List Loc} {ls : Array Slot}, va_P Γ.1 vwCl (wd_X8_nearest Γ q0 q1 q2 d0 d1 d2 d3 d4 d5 d6 d7 d8 d9 d10 d11 d12 length undoMany zeroKept oneKept seen spot kind begin letters figures value plated driven rows periods leastPeriod sv motion) H → va_D A (wd_X8_nearest Γ q0 q1 q2 d0 d1 d2 d3 d4 d5 d6 d7 d8 d9 d10 d11 d12 length undoMany zeroKept oneKept seen spot kind begin letters figures value plated driven rows periods leastPeriod sv motion) → va_S A s.heap H locs → lv_has ls 9 [(0, .ref q0), (1, .int x1), (2, .int x2), (3, .int x3), (4, .int x4)] → f_X8_nearest_6 sv motion x1 x2 x3 x4 = some out → W p l e ({ frames := 1, cells := 0, slots := 0, locals := 21 } : Room) s m ([.ref q0, .int x1, .int x2] : List Value).toArray below meth c H locs 0 0 QQ (F0 m 6 ls []) := by
    intro x3 x4 H locs ls hP hD hS hl hf
    unfold f_X8_nearest_6 at hf
    obtain ⟨ex6, h1, hX6⟩ := obx_some hf
    have LP : ∀ (n : Nat) (x3 : Int32) (x4 : Int32)  {H : Heap} {locs : List Loc} {ls : Array Slot}, va_P Γ.1 vwCl (wd_X8_nearest Γ q0 q1 q2 d0 d1 d2 d3 d4 d5 d6 d7 d8 d9 d10 d11 d12 length undoMany zeroKept oneKept seen spot kind begin letters figures value plated driven rows periods leastPeriod sv motion) H → va_D A (wd_X8_nearest Γ q0 q1 q2 d0 d1 d2 d3 d4 d5 d6 d7 d8 d9 d10 d11 d12 length undoMany zeroKept oneKept seen spot kind begin letters figures value plated driven rows periods leastPeriod sv motion) → va_S A s.heap H locs → lv_has ls 9 [(0, .ref q0), (1, .int x1), (2, .int x2), (3, .int x3), (4, .int x4)] → vm_it (f_X8_nearest_6s sv motion x1 x2) n (x3, x4) = some ex6 → W p l e ({ frames := 1, cells := 0, slots := 0, locals := 21 } : Room) s m ([.ref q0, .int x1, .int x2] : List Value).toArray below meth c H locs 0 0 QQ (F0 m 6 ls []) := by
      clear hP hD hS hl hf h1
      intro n
      induction n with
      | zero => intro x3 x4 H locs ls hP hD hS hl hf; exact (vm_it_0 hf).elim
      | succ n ih =>
        intro x3 x4 H locs ls hP hD hS hl hf
        have hf : f_X8_nearest_6b sv motion x1 x2 x3 x4 (vm_it (f_X8_nearest_6s sv motion x1 x2) n) = some ex6 := hf
        have K_135 : ∀ (x4 : Int32) (s0 : Int32) {H : Heap} {locs : List Loc} {ls : Array Slot}, va_P Γ.1 vwCl (wd_X8_nearest Γ q0 q1 q2 d0 d1 d2 d3 d4 d5 d6 d7 d8 d9 d10 d11 d12 length undoMany zeroKept oneKept seen spot kind begin letters figures value plated driven rows periods leastPeriod sv motion) H → va_D A (wd_X8_nearest Γ q0 q1 q2 d0 d1 d2 d3 d4 d5 d6 d7 d8 d9 d10 d11 d12 length undoMany zeroKept oneKept seen spot kind begin letters figures value plated driven rows periods leastPeriod sv motion) → va_S A s.heap H locs → lv_has ls 9 [(0, .ref q0), (1, .int x1), (2, .int x2), (4, .int x4)] → f_X8_nearest_135 sv motion x1 x2 x4 s0 (vm_it (f_X8_nearest_6s sv motion x1 x2) n) = some ex6 → W p l e ({ frames := 1, cells := 0, slots := 0, locals := 21 } : Room) s m ([.ref q0, .int x1, .int x2] : List Value).toArray below meth c H locs 0 0 QQ (F0 m 135 ls [.int s0]) := by
          intro x4 s0 H locs ls hP hD hS hl hf
          unfold f_X8_nearest_135 at hf
          refine lv_istore_n (lv' := [(3, .int s0), (0, .ref q0), (1, .int x1), (2, .int x2), (4, .int x4)]) hx hb dX8_nearest_135 rfl hl (by decide) rfl (fun ls hl => ?_)
          refine lv_iinc (v := (x4 + 1)) (lv' := [(4, .int (x4 + 1)), (3, .int s0), (0, .ref q0), (1, .int x1), (2, .int x2)]) hx hb dX8_nearest_136 hl (k := 4) rfl rfl (by decide) rfl (fun ls hl => ?_)
          refine lv_goto (tgt := 6) hx hb dX8_nearest_139 (by decide) ?_
          exact ih s0 (x4 + 1) hP hD hS (lv_sub hl [2, 3, 4, 1, 0] rfl) hf
        have K_134 : ∀ (x3 : Int32) (x4 : Int32) {H : Heap} {locs : List Loc} {ls : Array Slot}, va_P Γ.1 vwCl (wd_X8_nearest Γ q0 q1 q2 d0 d1 d2 d3 d4 d5 d6 d7 d8 d9 d10 d11 d12 length undoMany zeroKept oneKept seen spot kind begin letters figures value plated driven rows periods leastPeriod sv motion) H → va_D A (wd_X8_nearest Γ q0 q1 q2 d0 d1 d2 d3 d4 d5 d6 d7 d8 d9 d10 d11 d12 length undoMany zeroKept oneKept seen spot kind begin letters figures value plated driven rows periods leastPeriod sv motion) → va_S A s.heap H locs → lv_has ls 9 [(0, .ref q0), (1, .int x1), (2, .int x2), (3, .int x3), (4, .int x4)] → f_X8_nearest_134 sv motion x1 x2 x3 x4 (vm_it (f_X8_nearest_6s sv motion x1 x2) n) = some ex6 → W p l e ({ frames := 1, cells := 0, slots := 0, locals := 21 } : Room) s m ([.ref q0, .int x1, .int x2] : List Value).toArray below meth c H locs 0 0 QQ (F0 m 134 ls []) := by
          intro x3 x4 H locs ls hP hD hS hl hf
          unfold f_X8_nearest_134 at hf
          refine lv_iload_n hx hb dX8_nearest_134 rfl (lv_at hl 3 rfl) ?_
          exact K_135 x4 x3 hP hD hS (lv_sub hl [0, 1, 2, 4] rfl) hf
        have K_116 : ∀ (x3 : Int32) (x4 : Int32) (x7 : Int32) (s0 : Int32) {H : Heap} {locs : List Loc} {ls : Array Slot}, va_P Γ.1 vwCl (wd_X8_nearest Γ q0 q1 q2 d0 d1 d2 d3 d4 d5 d6 d7 d8 d9 d10 d11 d12 length undoMany zeroKept oneKept seen spot kind begin letters figures value plated driven rows periods leastPeriod sv motion) H → va_D A (wd_X8_nearest Γ q0 q1 q2 d0 d1 d2 d3 d4 d5 d6 d7 d8 d9 d10 d11 d12 length undoMany zeroKept oneKept seen spot kind begin letters figures value plated driven rows periods leastPeriod sv motion) → va_S A s.heap H locs → lv_has ls 9 [(0, .ref q0), (1, .int x1), (2, .int x2), (3, .int x3), (4, .int x4), (7, .int x7)] → f_X8_nearest_116 sv motion x1 x2 x3 x4 x7 s0 (vm_it (f_X8_nearest_6s sv motion x1 x2) n) = some ex6 → W p l e ({ frames := 1, cells := 0, slots := 0, locals := 21 } : Room) s m ([.ref q0, .int x1, .int x2] : List Value).toArray below meth c H locs 0 0 QQ (F0 m 116 ls [.int s0]) := by
          intro x3 x4 x7 s0 H locs ls hP hD hS hl hf
          unfold f_X8_nearest_116 at hf
          refine lv_istore (lv' := [(8, .int s0), (0, .ref q0), (1, .int x1), (2, .int x2), (3, .int x3), (4, .int x4), (7, .int x7)]) hx hb dX8_nearest_116 hl (by decide) rfl (fun ls hl => ?_)
          refine lv_iload hx hb dX8_nearest_118 (lv_at hl 0 rfl) ?_
          refine lv_if_eq (tgt := 134) hx hb dX8_nearest_120 (by decide) (fun hc_1 => ?_) (fun hc_1 => ?_)
          · have hf := vm_pos hc_1 hf
            exact K_134 x3 x4 hP hD hS (lv_sub hl [1, 2, 3, 4, 5] rfl) hf
          · have hf := vm_neg hc_1 hf
            refine lv_iload hx hb dX8_nearest_123 (lv_at hl 6 rfl) ?_
            refine lv_iload_n hx hb dX8_nearest_125 rfl (lv_at hl 4 rfl) ?_
            refine lv_icmp_ge (tgt := 134) hx hb dX8_nearest_126 (by decide) (fun hc_2 => ?_) (fun hc_2 => ?_)
            · have hf := vm_pos hc_2 hf
              exact K_134 x3 x4 hP hD hS (lv_sub hl [1, 2, 3, 4, 5] rfl) hf
            · have hf := vm_neg hc_2 hf
              refine lv_iload hx hb dX8_nearest_129 (lv_at hl 6 rfl) ?_
              refine lv_goto (tgt := 135) hx hb dX8_nearest_131 (by decide) ?_
              exact K_135 x4 x7 hP hD hS (lv_sub hl [1, 2, 3, 5] rfl) hf
        have K_81 : ∀ (x3 : Int32) (x4 : Int32) (s0 : Int32) (s1 : Int32) {H : Heap} {locs : List Loc} {ls : Array Slot}, va_P Γ.1 vwCl (wd_X8_nearest Γ q0 q1 q2 d0 d1 d2 d3 d4 d5 d6 d7 d8 d9 d10 d11 d12 length undoMany zeroKept oneKept seen spot kind begin letters figures value plated driven rows periods leastPeriod sv motion) H → va_D A (wd_X8_nearest Γ q0 q1 q2 d0 d1 d2 d3 d4 d5 d6 d7 d8 d9 d10 d11 d12 length undoMany zeroKept oneKept seen spot kind begin letters figures value plated driven rows periods leastPeriod sv motion) → va_S A s.heap H locs → lv_has ls 9 [(0, .ref q0), (1, .int x1), (2, .int x2), (3, .int x3), (4, .int x4)] → f_X8_nearest_81 sv motion x1 x2 x3 x4 s0 s1 (vm_it (f_X8_nearest_6s sv motion x1 x2) n) = some ex6 → W p l e ({ frames := 1, cells := 0, slots := 0, locals := 21 } : Room) s m ([.ref q0, .int x1, .int x2] : List Value).toArray below meth c H locs 0 0 QQ (F0 m 81 ls [.int s1, .int s0]) := by
          intro x3 x4 s0 s1 H locs ls hP hD hS hl hf
          unfold f_X8_nearest_81 at hf
          refine lv_iadd hx hb dX8_nearest_81 ?_
          refine lv_istore (lv' := [(7, .int (s0 + s1)), (0, .ref q0), (1, .int x1), (2, .int x2), (3, .int x3), (4, .int x4)]) hx hb dX8_nearest_82 hl (by decide) rfl (fun ls hl => ?_)
          refine lv_iload_n hx hb dX8_nearest_84 rfl (lv_at hl 3 rfl) ?_
          refine lv_if_eq (tgt := 97) hx hb dX8_nearest_85 (by decide) (fun hc_3 => ?_) (fun hc_3 => ?_)
          · have hf := vm_pos hc_3 hf
            refine lv_aload_n hx hb dX8_nearest_97 rfl (lv_at hl 1 rfl) ?_
            refine va_get (D := Γ.1) (ci := 8) (v := .ref q1) (C := RX8) (T := TX8) (N := 31) hx hb hts hi8 hown hK hP 0 rfl rfl 2 (by decide) (hts (.fieldLink RX8 13 "SandPlatesModel" "s" "[I") (List.mem_of_getElem? (i := 1) rfl)) (fun _ h9 => h9) rfl dX8_nearest_98 ?_
            refine lv_bipush (v := 9) hx hb dX8_nearest_101 (by decide) ?_
            refine lv_iload hx hb dX8_nearest_103 (lv_at hl 5 rfl) ?_
            refine lv_iadd hx hb dX8_nearest_105 ?_
            obtain ⟨hc_4, hf⟩ := vm_ck hf
            refine vm_iald hx hb hK hP 1 0 rfl rfl hc_4 (j := (9 + x4).toNatClampNeg) rfl dX8_nearest_106 ?_
            refine lv_iconst (v := 1) hx hb dX8_nearest_107 (by decide) ?_
            refine lv_icmp_ne (tgt := 115) hx hb dX8_nearest_108 (by decide) (fun hc_5 => ?_) (fun hc_5 => ?_)
            · have hf := vm_neg hc_5 hf
              refine lv_iconst (v := 0) hx hb dX8_nearest_115 (by decide) ?_
              exact K_116 x3 x4 (s0 + s1) 0 hP hD hS (lv_sub hl [1, 2, 3, 4, 5, 0] rfl) hf
            · have hf := vm_pos hc_5 hf
              refine lv_iconst (v := 1) hx hb dX8_nearest_111 (by decide) ?_
              refine lv_goto (tgt := 116) hx hb dX8_nearest_112 (by decide) ?_
              exact K_116 x3 x4 (s0 + s1) 1 hP hD hS (lv_sub hl [1, 2, 3, 4, 5, 0] rfl) hf
          · have hf := vm_neg hc_3 hf
            refine lv_aload_n hx hb dX8_nearest_88 rfl (lv_at hl 1 rfl) ?_
            refine lv_iload hx hb dX8_nearest_89 (lv_at hl 5 rfl) ?_
            obtain ⟨r_6, hq_7, hf⟩ := ob1_some hf
            refine vm_cVi (isC := [0, 1, 2]) (wc := (wd_X8_isStill Γ q0 q1 q2 d0 d1 d2 d3 d4 d5 d6 d7 d8 d9 d10 d11 d12 length undoMany zeroKept oneKept seen spot kind begin letters figures value plated driven rows periods leastPeriod sv motion)) (w1 := (wd_X8_isStill Γ q0 q1 q2 d0 d1 d2 d3 d4 d5 d6 d7 d8 d9 d10 d11 d12 length undoMany zeroKept oneKept seen spot kind begin letters figures value plated driven rows periods leastPeriod sv motion)) (As := [.int x4]) (rest := []) ⟨hx, hb, hml, hown, hts⟩ hE hP hD hS hA rfl rfl rfl (c_X8_isStill l Γ _ q0 q1 q2 d0 d1 d2 d3 d4 d5 d6 d7 d8 d9 d10 d11 d12 length undoMany zeroKept oneKept seen spot kind begin letters figures value plated driven rows periods leastPeriod sv motion x4 r_6 hq_7) (cwV 1 hts gX8_nearest_X8_isStill rfl rfl rfl (by decide +kernel) ⟨Nat.le_of_ble_eq_true rfl, Nat.le_of_ble_eq_true rfl⟩) (va_recv (ci := 8) (q0 := 0) hK hP rfl rfl) rfl hl.1 rfl (Nat.le_of_ble_eq_true rfl) dX8_nearest_91 ⟨Nat.zero_le _, Nat.zero_le _⟩ (fun H locs hP hD hS => ?_)
            have hP : va_P Γ.1 vwCl (wd_X8_nearest Γ q0 q1 q2 d0 d1 d2 d3 d4 d5 d6 d7 d8 d9 d10 d11 d12 length undoMany zeroKept oneKept seen spot kind begin letters figures value plated driven rows periods leastPeriod sv motion) H := hP
            have hD : va_D A (wd_X8_nearest Γ q0 q1 q2 d0 d1 d2 d3 d4 d5 d6 d7 d8 d9 d10 d11 d12 length undoMany zeroKept oneKept seen spot kind begin letters figures value plated driven rows periods leastPeriod sv motion) := hD
            refine lv_goto (tgt := 116) hx hb dX8_nearest_94 (by decide) ?_
            exact K_116 x3 x4 (s0 + s1) r_6 hP hD hS (lv_sub hl [1, 2, 3, 4, 5, 0] rfl) hf
        have K_68 : ∀ (x3 : Int32) (x4 : Int32) (x6 : Int32) (s0 : Int32) {H : Heap} {locs : List Loc} {ls : Array Slot}, va_P Γ.1 vwCl (wd_X8_nearest Γ q0 q1 q2 d0 d1 d2 d3 d4 d5 d6 d7 d8 d9 d10 d11 d12 length undoMany zeroKept oneKept seen spot kind begin letters figures value plated driven rows periods leastPeriod sv motion) H → va_D A (wd_X8_nearest Γ q0 q1 q2 d0 d1 d2 d3 d4 d5 d6 d7 d8 d9 d10 d11 d12 length undoMany zeroKept oneKept seen spot kind begin letters figures value plated driven rows periods leastPeriod sv motion) → va_S A s.heap H locs → lv_has ls 9 [(0, .ref q0), (1, .int x1), (2, .int x2), (3, .int x3), (4, .int x4), (6, .int x6)] → f_X8_nearest_68 sv motion x1 x2 x3 x4 x6 s0 (vm_it (f_X8_nearest_6s sv motion x1 x2) n) = some ex6 → W p l e ({ frames := 1, cells := 0, slots := 0, locals := 21 } : Room) s m ([.ref q0, .int x1, .int x2] : List Value).toArray below meth c H locs 0 0 QQ (F0 m 68 ls [.int s0]) := by
          intro x3 x4 x6 s0 H locs ls hP hD hS hl hf
          unfold f_X8_nearest_68 at hf
          refine lv_iload hx hb dX8_nearest_68 (lv_at hl 5 rfl) ?_
          refine lv_if_ge (tgt := 79) hx hb dX8_nearest_70 (by decide) (fun hc_8 => ?_) (fun hc_8 => ?_)
          · have hf := vm_pos hc_8 hf
            refine lv_iload hx hb dX8_nearest_79 (lv_at hl 5 rfl) ?_
            exact K_81 x3 x4 s0 x6 hP hD hS (lv_sub hl [0, 1, 2, 3, 4] rfl) hf
          · have hf := vm_neg hc_8 hf
            refine lv_iload hx hb dX8_nearest_73 (lv_at hl 5 rfl) ?_
            refine lv_ineg hx hb dX8_nearest_75 ?_
            refine lv_goto (tgt := 81) hx hb dX8_nearest_76 (by decide) ?_
            exact K_81 x3 x4 s0 (-x6) hP hD hS (lv_sub hl [0, 1, 2, 3, 4] rfl) hf
        unfold f_X8_nearest_6b at hf
        refine lv_iload hx hb dX8_nearest_6 (lv_at hl 4 rfl) ?_
        refine lv_aload_n hx hb dX8_nearest_8 rfl (lv_at hl 0 rfl) ?_
        obtain ⟨r_9, hq_10, hf⟩ := ob1_some hf
        refine vm_cVi (isC := [0, 1]) (wc := (wd_X8_cells Γ q0 q1 d0 d1 d2 d3 d4 d5 d6 d7 d8 d9 q2 d10 d11 d12 length undoMany zeroKept oneKept seen spot kind begin letters figures value plated driven rows periods leastPeriod sv)) (w1 := (wd_X8_cells Γ q0 q1 d0 d1 d2 d3 d4 d5 d6 d7 d8 d9 q2 d10 d11 d12 length undoMany zeroKept oneKept seen spot kind begin letters figures value plated driven rows periods leastPeriod sv)) (As := []) (rest := [.int x4]) ⟨hx, hb, hml, hown, hts⟩ hE hP hD hS hA rfl rfl rfl (c_X8_cells l Γ _ q0 q1 d0 d1 d2 d3 d4 d5 d6 d7 d8 d9 q2 d10 d11 d12 length undoMany zeroKept oneKept seen spot kind begin letters figures value plated driven rows periods leastPeriod sv r_9 hq_10) (cwV 0 hts gX8_nearest_X8_cells rfl rfl rfl (by decide +kernel) ⟨Nat.le_of_ble_eq_true rfl, Nat.le_of_ble_eq_true rfl⟩) (va_recv (ci := 8) (q0 := 0) hK hP rfl rfl) rfl hl.1 rfl (Nat.le_of_ble_eq_true rfl) dX8_nearest_9 ⟨Nat.zero_le _, Nat.zero_le _⟩ (fun H locs hP hD hS => ?_)
        have hP : va_P Γ.1 vwCl (wd_X8_nearest Γ q0 q1 q2 d0 d1 d2 d3 d4 d5 d6 d7 d8 d9 d10 d11 d12 length undoMany zeroKept oneKept seen spot kind begin letters figures value plated driven rows periods leastPeriod sv motion) H := hP
        have hD : va_D A (wd_X8_nearest Γ q0 q1 q2 d0 d1 d2 d3 d4 d5 d6 d7 d8 d9 d10 d11 d12 length undoMany zeroKept oneKept seen spot kind begin letters figures value plated driven rows periods leastPeriod sv motion) := hD
        refine lv_icmp_ge (tgt := 142) hx hb dX8_nearest_12 (by decide) (fun hc_11 => ?_) (fun hc_11 => ?_)
        · have hf := vm_pos hc_11 hf
          have hX := hX6
          rw [← Option.some.inj hf] at hX
          exact K_142 x3 hP hD hS (lv_sub hl [3] rfl) hX
        · have hf := vm_neg hc_11 hf
          refine lv_iload_n hx hb dX8_nearest_15 rfl (lv_at hl 1 rfl) ?_
          refine lv_aload_n hx hb dX8_nearest_16 rfl (lv_at hl 0 rfl) ?_
          refine va_get (D := Γ.1) (ci := 8) (v := .ref q1) (C := RX8) (T := TX8) (N := 31) hx hb hts hi8 hown hK hP 0 rfl rfl 2 (by decide) (hts (.fieldLink RX8 13 "SandPlatesModel" "s" "[I") (List.mem_of_getElem? (i := 1) rfl)) (fun _ h9 => h9) rfl dX8_nearest_17 ?_
          refine lv_iconst (v := 0) hx hb dX8_nearest_20 (by decide) ?_
          refine vm_iald hx hb hK hP 1 0 rfl rfl (by decide +kernel) (j := 0) rfl dX8_nearest_21 ?_
          obtain ⟨hc_12, hf⟩ := vm_ck hf
          refine lv_irem hx hb dX8_nearest_22 hc_12 ?_
          refine lv_iload hx hb dX8_nearest_23 (lv_at hl 4 rfl) ?_
          refine lv_aload_n hx hb dX8_nearest_25 rfl (lv_at hl 0 rfl) ?_
          refine va_get (D := Γ.1) (ci := 8) (v := .ref q1) (C := RX8) (T := TX8) (N := 31) hx hb hts hi8 hown hK hP 0 rfl rfl 2 (by decide) (hts (.fieldLink RX8 13 "SandPlatesModel" "s" "[I") (List.mem_of_getElem? (i := 1) rfl)) (fun _ h9 => h9) rfl dX8_nearest_26 ?_
          refine lv_iconst (v := 0) hx hb dX8_nearest_29 (by decide) ?_
          refine vm_iald hx hb hK hP 1 0 rfl rfl (by decide +kernel) (j := 0) rfl dX8_nearest_30 ?_
          obtain ⟨hc_13, hf⟩ := vm_ck hf
          refine lv_irem hx hb dX8_nearest_31 hc_13 ?_
          refine lv_isub hx hb dX8_nearest_32 ?_
          refine lv_istore (lv' := [(5, .int ((vm_rem x1 (sv 0)) - (vm_rem x4 (sv 0)))), (0, .ref q0), (1, .int x1), (2, .int x2), (3, .int x3), (4, .int x4)]) hx hb dX8_nearest_33 hl (by decide) rfl (fun ls hl => ?_)
          refine lv_iload_n hx hb dX8_nearest_35 rfl (lv_at hl 2 rfl) ?_
          refine lv_aload_n hx hb dX8_nearest_36 rfl (lv_at hl 1 rfl) ?_
          refine va_get (D := Γ.1) (ci := 8) (v := .ref q1) (C := RX8) (T := TX8) (N := 31) hx hb hts hi8 hown hK hP 0 rfl rfl 2 (by decide) (hts (.fieldLink RX8 13 "SandPlatesModel" "s" "[I") (List.mem_of_getElem? (i := 1) rfl)) (fun _ h9 => h9) rfl dX8_nearest_37 ?_
          refine lv_iconst (v := 0) hx hb dX8_nearest_40 (by decide) ?_
          refine vm_iald hx hb hK hP 1 0 rfl rfl (by decide +kernel) (j := 0) rfl dX8_nearest_41 ?_
          obtain ⟨hc_14, hf⟩ := vm_ck hf
          refine lv_idiv hx hb dX8_nearest_42 hc_14 ?_
          refine lv_iload hx hb dX8_nearest_43 (lv_at hl 5 rfl) ?_
          refine lv_aload_n hx hb dX8_nearest_45 rfl (lv_at hl 1 rfl) ?_
          refine va_get (D := Γ.1) (ci := 8) (v := .ref q1) (C := RX8) (T := TX8) (N := 31) hx hb hts hi8 hown hK hP 0 rfl rfl 2 (by decide) (hts (.fieldLink RX8 13 "SandPlatesModel" "s" "[I") (List.mem_of_getElem? (i := 1) rfl)) (fun _ h9 => h9) rfl dX8_nearest_46 ?_
          refine lv_iconst (v := 0) hx hb dX8_nearest_49 (by decide) ?_
          refine vm_iald hx hb hK hP 1 0 rfl rfl (by decide +kernel) (j := 0) rfl dX8_nearest_50 ?_
          obtain ⟨hc_15, hf⟩ := vm_ck hf
          refine lv_idiv hx hb dX8_nearest_51 hc_15 ?_
          refine lv_isub hx hb dX8_nearest_52 ?_
          refine lv_istore (lv' := [(6, .int ((x1 / (sv 0)) - (x4 / (sv 0)))), (5, .int ((vm_rem x1 (sv 0)) - (vm_rem x4 (sv 0)))), (0, .ref q0), (1, .int x1), (2, .int x2), (3, .int x3), (4, .int x4)]) hx hb dX8_nearest_53 hl (by decide) rfl (fun ls hl => ?_)
          refine lv_iload hx hb dX8_nearest_55 (lv_at hl 1 rfl) ?_
          refine lv_if_ge (tgt := 66) hx hb dX8_nearest_57 (by decide) (fun hc_16 => ?_) (fun hc_16 => ?_)
          · have hf := vm_pos hc_16 hf
            refine lv_iload hx hb dX8_nearest_66 (lv_at hl 1 rfl) ?_
            exact K_68 x3 x4 ((x1 / (sv 0)) - (x4 / (sv 0))) ((vm_rem x1 (sv 0)) - (vm_rem x4 (sv 0))) hP hD hS (lv_sub hl [2, 3, 4, 5, 6, 0] rfl) hf
          · have hf := vm_neg hc_16 hf
            refine lv_iload hx hb dX8_nearest_60 (lv_at hl 1 rfl) ?_
            refine lv_ineg hx hb dX8_nearest_62 ?_
            refine lv_goto (tgt := 68) hx hb dX8_nearest_63 (by decide) ?_
            exact K_68 x3 x4 ((x1 / (sv 0)) - (x4 / (sv 0))) (-((vm_rem x1 (sv 0)) - (vm_rem x4 (sv 0)))) hP hD hS (lv_sub hl [2, 3, 4, 5, 6, 0] rfl) hf
    exact LP FU x3 x4 hP hD hS hl h1
  unfold f_X8_nearest at hf
  refine lv_bipush (v := 100) hx hb dX8_nearest_0 (by decide) ?_
  refine lv_istore_n (lv' := [(3, .int 100), (0, .ref q0), (1, .int x1), (2, .int x2)]) hx hb dX8_nearest_2 rfl hl (by decide) rfl (fun ls hl => ?_)
  refine lv_iconst (v := 0) hx hb dX8_nearest_3 (by decide) ?_
  refine lv_istore (lv' := [(4, .int 0), (3, .int 100), (0, .ref q0), (1, .int x1), (2, .int x2)]) hx hb dX8_nearest_4 hl (by decide) rfl (fun ls hl => ?_)
  exact K_6 100 0 hP hD hS (lv_sub hl [2, 3, 4, 1, 0] rfl) hf
def wd_X8_apart (Γ : GE) (q0 q1 q2 d0 d1 d2 d3 d4 d5 d6 d7 d8 d9 d10 d11 d12 : Nat) (length : Int32) (undoMany : Int32) (zeroKept : Int32) (oneKept : Int32) (seen : Int32) (spot : Int32) (kind : Int32) (begin : Int32) (letters : Int64) (figures : Int32) (value : Int32) (plated : Int32) (driven : Int32) (rows : Int32) (periods : Int32) (leastPeriod : Int32) (sv : Nat → Int32) (motion : Nat → Int32) : va_W := [(q0, .inr (8, [.int length, .ref d0, .ref q1, .ref d1, .ref d2, .int undoMany, .ref d3, .int zeroKept, .int oneKept, .ref d4, .ref d5, .int seen, .int spot, .int kind, .int begin, .long letters, .int figures, .int value, .int plated, .int driven, .int rows, .ref d6, .ref d7, .ref d8, .ref d9, .ref q2, .ref d10, .ref d11, .ref d12, .int periods, .int leastPeriod])), (q1, .inl (Γ.2.1 0, 81, .inl sv)), (q2, .inl (Γ.2.1 0, 36, .inl motion))]
def f_X8_apart_82 (x1 : Int32) : Option Int32 := some x1
def f_X8_apart_74 (sv : Nat → Int32) (motion : Nat → Int32) (x2 : Int32) (s0 : Int32) (s1 : Int32) (k : ((Int32 × Int32) → Option Int32)) : Option Int32 := k ((s0 + s1), (x2 + 1))
def f_X8_apart_53 (sv : Nat → Int32) (motion : Nat → Int32) (x2 : Int32) (s0 : Int32) (s1 : Int32) (k : ((Int32 × Int32) → Option Int32)) : Option Int32 := ob1 (f_X8_isStill sv motion x2) (fun r_1 => if r_1 = 0 then (f_X8_apart_74 sv motion x2 (s0 + s1) 0 k) else (ob1 (f_X8_nearest sv motion x2 0) (fun r_4 => f_X8_apart_74 sv motion x2 (s0 + s1) r_4 k)))
def f_X8_apart_21b (sv : Nat → Int32) (motion : Nat → Int32) (x1 : Int32) (x2 : Int32) (k : ((Int32 × Int32) → Option Int32)) : Option Int32 := ob1 (f_X8_cells sv) (fun r_6 => if r_6 ≤ x2 then (some x1) else (if inb (9 + x2) 81 = true then if (sv ((9 + x2).toNatClampNeg)) = 1 then (ob1 (f_X8_nearest sv motion x2 1) (fun r_11 => f_X8_apart_53 sv motion x2 x1 r_11 k)) else (f_X8_apart_53 sv motion x2 x1 0 k) else none))
def f_X8_apart_21s (sv : Nat → Int32) (motion : Nat → Int32) : (Int32 × Int32) → ((Int32 × Int32) → Option Int32) → Option Int32 := fun t k => f_X8_apart_21b sv motion t.1 t.2 k
def f_X8_apart_21 (sv : Nat → Int32) (motion : Nat → Int32) (x1 : Int32) (x2 : Int32) : Option Int32 := obx (vm_it (f_X8_apart_21s sv motion) FU (x1, x2)) (fun x1 => f_X8_apart_82 x1)
def f_X8_apart_14  : Option Int32 := some (-9)
def f_X8_apart (sv : Nat → Int32) (motion : Nat → Int32) : Option Int32 := ob1 (f_X8_figure sv) (fun r_13 => if r_13 = 0 then f_X8_apart_14 else (ob1 (f_X8_stillMany sv motion) (fun r_16 => if r_16 = 0 then f_X8_apart_14 else (f_X8_apart_21 sv motion 0 0))))
set_option maxHeartbeats 4000000 in
set_option maxRecDepth 100000 in
theorem c_X8_apart (l : Launch) (Γ : GE) (sz : Nat) (q0 q1 q2 d0 d1 d2 d3 d4 d5 d6 d7 d8 d9 d10 d11 d12 : Nat) (length : Int32) (undoMany : Int32) (zeroKept : Int32) (oneKept : Int32) (seen : Int32) (spot : Int32) (kind : Int32) (begin : Int32) (letters : Int64) (figures : Int32) (value : Int32) (plated : Int32) (driven : Int32) (rows : Int32) (periods : Int32) (leastPeriod : Int32) (sv : Nat → Int32) (motion : Nat → Int32) (ro : Int32) (hf : f_X8_apart sv motion = some ro) : MetI l yX8_apart wsX8_apart ({ frames := 2, cells := 0, slots := 0, locals := 49 } : Room) Γ [.ref q0] (wd_X8_apart Γ q0 q1 q2 d0 d1 d2 d3 d4 d5 d6 d7 d8 d9 d10 d11 d12 length undoMany zeroKept oneKept seen spot kind begin letters figures value plated driven rows periods leastPeriod sv motion) (wd_X8_apart Γ q0 q1 q2 d0 d1 d2 d3 d4 d5 d6 d7 d8 d9 d10 d11 d12 length undoMany zeroKept oneKept seen spot kind begin letters figures value plated driven rows periods leastPeriod sv motion) sz ro := by
  refine Met.ofW (cc := cX8_apart) (maxL := 3) (ret := (some .int)) (by decide) rfl ?_
  intro p e s m args below meth c s₁ B hml hv
  obtain ⟨rfl, hsz, hE, hP, hD⟩ := hv
  have hx := B.exec
  have hb := B.bytes
  have hr := B.returns
  have hts := atoms_spec (ws := wsX8_apart) B.pre
  have hown : s.vm.findClass RX8 = some m.cls := findClass_of_methodNamed B.named
  have hlocks := B.notSynchronized
  subst hsz
  generalize hAe : va_A (wd_X8_apart Γ q0 q1 q2 d0 d1 d2 d3 d4 d5 d6 d7 d8 d9 d10 d11 d12 length undoMany zeroKept oneKept seen spot kind begin letters figures value plated driven rows periods leastPeriod sv motion) s.heap.size = A at hE hD ⊢
  have hA : ∀ q : Nat, s.heap.size ≤ q → A q := fun q h => by rw [← hAe]; exact Or.inr h
  clear hAe
  have hS : va_S A s.heap s.heap [] := va_S.rf
  have hK := hE.1
  have hl := lv_entry ([.ref q0]) (n := 3) (Nat.le_of_ble_eq_true rfl)
  rw [lg_entry_eq]
  generalize (lg_sl ([.ref q0]) ++ List.replicate (3 - (lg_sl ([.ref q0])).length) Slot.unset).toArray = ls at hl ⊢
  have hl : lv_has ls 3 [(0, .ref q0)] := hl
  have hi8 : ∀ w ∈ u_ws RX8 TX8 31, w ∈ wsX8_apart := fun w h => (List.mem_cons_of_mem _ (List.mem_append_right _ h))
  obtain ⟨out, hout⟩ : ∃ o, o = ro := ⟨_, rfl⟩
  rw [← hout] at hf
  obtain ⟨QQ, hQQ⟩ : ∃ Q, Q = MQ below (va_Qi (fun (r' : Int32) (_ : Unit) => r' = ro) (CQ Γ (wd_X8_apart Γ q0 q1 q2 d0 d1 d2 d3 d4 d5 d6 d7 d8 d9 d10 d11 d12 length undoMany zeroKept oneKept seen spot kind begin letters figures value plated driven rows periods leastPeriod sv motion) A) A) (([.ref q0] : List Value).toArray) s 0 0 A := ⟨_, rfl⟩
  show W p l e ({ frames := 2, cells := 0, slots := 0, locals := 49 } : Room) s m (([.ref q0] : List Value).toArray) below meth c s.heap [] 0 0 (MQ below _ (([.ref q0] : List Value).toArray) s 0 0 A) (F0 m 0 ls [])
  rw [← hQQ]
  have K_82 : ∀ (x1 : Int32) {H : Heap} {locs : List Loc} {ls : Array Slot}, va_P Γ.1 vwCl (wd_X8_apart Γ q0 q1 q2 d0 d1 d2 d3 d4 d5 d6 d7 d8 d9 d10 d11 d12 length undoMany zeroKept oneKept seen spot kind begin letters figures value plated driven rows periods leastPeriod sv motion) H → va_D A (wd_X8_apart Γ q0 q1 q2 d0 d1 d2 d3 d4 d5 d6 d7 d8 d9 d10 d11 d12 length undoMany zeroKept oneKept seen spot kind begin letters figures value plated driven rows periods leastPeriod sv motion) → va_S A s.heap H locs → lv_has ls 3 [(1, .int x1)] → f_X8_apart_82 x1 = some out → W p l e ({ frames := 2, cells := 0, slots := 0, locals := 49 } : Room) s m ([.ref q0] : List Value).toArray below meth c H locs 0 0 QQ (F0 m 82 ls []) := by
    intro x1 H locs ls hP hD hS hl hf
    unfold f_X8_apart_82 at hf
    refine lv_iload_n hx hb dX8_apart_82 rfl (lv_at hl 0 rfl) ?_
    subst hout; obtain rfl := Option.some.inj hf
    subst hQQ
    exact W.iret hx hb hr (fun t ht hW => ⟨⟨_, (), rfl, rfl, by rw [ht]; exact hP, hD⟩, hS.F ht⟩) hS.2.2 dX8_apart_83
  have K_21 : ∀ (x1 : Int32) (x2 : Int32) {H : Heap} {locs : List Loc} {ls : Array Slot}, va_P Γ.1 vwCl (wd_X8_apart Γ q0 q1 q2 d0 d1 d2 d3 d4 d5 d6 d7 d8 d9 d10 d11 d12 length undoMany zeroKept oneKept seen spot kind begin letters figures value plated driven rows periods leastPeriod sv motion) H → va_D A (wd_X8_apart Γ q0 q1 q2 d0 d1 d2 d3 d4 d5 d6 d7 d8 d9 d10 d11 d12 length undoMany zeroKept oneKept seen spot kind begin letters figures value plated driven rows periods leastPeriod sv motion) → va_S A s.heap H locs → lv_has ls 3 [(0, .ref q0), (1, .int x1), (2, .int x2)] → f_X8_apart_21 sv motion x1 x2 = some out → W p l e ({ frames := 2, cells := 0, slots := 0, locals := 49 } : Room) s m ([.ref q0] : List Value).toArray below meth c H locs 0 0 QQ (F0 m 21 ls []) := by
    intro x1 x2 H locs ls hP hD hS hl hf
    unfold f_X8_apart_21 at hf
    obtain ⟨ex21, h1, hX21⟩ := obx_some hf
    have LP : ∀ (n : Nat) (x1 : Int32) (x2 : Int32)  {H : Heap} {locs : List Loc} {ls : Array Slot}, va_P Γ.1 vwCl (wd_X8_apart Γ q0 q1 q2 d0 d1 d2 d3 d4 d5 d6 d7 d8 d9 d10 d11 d12 length undoMany zeroKept oneKept seen spot kind begin letters figures value plated driven rows periods leastPeriod sv motion) H → va_D A (wd_X8_apart Γ q0 q1 q2 d0 d1 d2 d3 d4 d5 d6 d7 d8 d9 d10 d11 d12 length undoMany zeroKept oneKept seen spot kind begin letters figures value plated driven rows periods leastPeriod sv motion) → va_S A s.heap H locs → lv_has ls 3 [(0, .ref q0), (1, .int x1), (2, .int x2)] → vm_it (f_X8_apart_21s sv motion) n (x1, x2) = some ex21 → W p l e ({ frames := 2, cells := 0, slots := 0, locals := 49 } : Room) s m ([.ref q0] : List Value).toArray below meth c H locs 0 0 QQ (F0 m 21 ls []) := by
      clear hP hD hS hl hf h1
      intro n
      induction n with
      | zero => intro x1 x2 H locs ls hP hD hS hl hf; exact (vm_it_0 hf).elim
      | succ n ih =>
        intro x1 x2 H locs ls hP hD hS hl hf
        have hf : f_X8_apart_21b sv motion x1 x2 (vm_it (f_X8_apart_21s sv motion) n) = some ex21 := hf
        have K_74 : ∀ (x2 : Int32) (s0 : Int32) (s1 : Int32) {H : Heap} {locs : List Loc} {ls : Array Slot}, va_P Γ.1 vwCl (wd_X8_apart Γ q0 q1 q2 d0 d1 d2 d3 d4 d5 d6 d7 d8 d9 d10 d11 d12 length undoMany zeroKept oneKept seen spot kind begin letters figures value plated driven rows periods leastPeriod sv motion) H → va_D A (wd_X8_apart Γ q0 q1 q2 d0 d1 d2 d3 d4 d5 d6 d7 d8 d9 d10 d11 d12 length undoMany zeroKept oneKept seen spot kind begin letters figures value plated driven rows periods leastPeriod sv motion) → va_S A s.heap H locs → lv_has ls 3 [(0, .ref q0), (2, .int x2)] → f_X8_apart_74 sv motion x2 s0 s1 (vm_it (f_X8_apart_21s sv motion) n) = some ex21 → W p l e ({ frames := 2, cells := 0, slots := 0, locals := 49 } : Room) s m ([.ref q0] : List Value).toArray below meth c H locs 0 0 QQ (F0 m 74 ls [.int s1, .int s0]) := by
          intro x2 s0 s1 H locs ls hP hD hS hl hf
          unfold f_X8_apart_74 at hf
          refine lv_iadd hx hb dX8_apart_74 ?_
          refine lv_istore_n (lv' := [(1, .int (s0 + s1)), (0, .ref q0), (2, .int x2)]) hx hb dX8_apart_75 rfl hl (by decide) rfl (fun ls hl => ?_)
          refine lv_iinc (v := (x2 + 1)) (lv' := [(2, .int (x2 + 1)), (1, .int (s0 + s1)), (0, .ref q0)]) hx hb dX8_apart_76 hl (k := 2) rfl rfl (by decide) rfl (fun ls hl => ?_)
          refine lv_goto (tgt := 21) hx hb dX8_apart_79 (by decide) ?_
          exact ih (s0 + s1) (x2 + 1) hP hD hS (lv_sub hl [2, 1, 0] rfl) hf
        have K_53 : ∀ (x2 : Int32) (s0 : Int32) (s1 : Int32) {H : Heap} {locs : List Loc} {ls : Array Slot}, va_P Γ.1 vwCl (wd_X8_apart Γ q0 q1 q2 d0 d1 d2 d3 d4 d5 d6 d7 d8 d9 d10 d11 d12 length undoMany zeroKept oneKept seen spot kind begin letters figures value plated driven rows periods leastPeriod sv motion) H → va_D A (wd_X8_apart Γ q0 q1 q2 d0 d1 d2 d3 d4 d5 d6 d7 d8 d9 d10 d11 d12 length undoMany zeroKept oneKept seen spot kind begin letters figures value plated driven rows periods leastPeriod sv motion) → va_S A s.heap H locs → lv_has ls 3 [(0, .ref q0), (2, .int x2)] → f_X8_apart_53 sv motion x2 s0 s1 (vm_it (f_X8_apart_21s sv motion) n) = some ex21 → W p l e ({ frames := 2, cells := 0, slots := 0, locals := 49 } : Room) s m ([.ref q0] : List Value).toArray below meth c H locs 0 0 QQ (F0 m 53 ls [.int s1, .int s0]) := by
          intro x2 s0 s1 H locs ls hP hD hS hl hf
          unfold f_X8_apart_53 at hf
          refine lv_iadd hx hb dX8_apart_53 ?_
          refine lv_istore_n (lv' := [(1, .int (s0 + s1)), (0, .ref q0), (2, .int x2)]) hx hb dX8_apart_54 rfl hl (by decide) rfl (fun ls hl => ?_)
          refine lv_iload_n hx hb dX8_apart_55 rfl (lv_at hl 0 rfl) ?_
          refine lv_aload_n hx hb dX8_apart_56 rfl (lv_at hl 1 rfl) ?_
          refine lv_iload_n hx hb dX8_apart_57 rfl (lv_at hl 2 rfl) ?_
          obtain ⟨r_1, hq_2, hf⟩ := ob1_some hf
          refine vm_cVi (isC := [0, 1, 2]) (wc := (wd_X8_isStill Γ q0 q1 q2 d0 d1 d2 d3 d4 d5 d6 d7 d8 d9 d10 d11 d12 length undoMany zeroKept oneKept seen spot kind begin letters figures value plated driven rows periods leastPeriod sv motion)) (w1 := (wd_X8_isStill Γ q0 q1 q2 d0 d1 d2 d3 d4 d5 d6 d7 d8 d9 d10 d11 d12 length undoMany zeroKept oneKept seen spot kind begin letters figures value plated driven rows periods leastPeriod sv motion)) (As := [.int x2]) (rest := [.int (s0 + s1)]) ⟨hx, hb, hml, hown, hts⟩ hE hP hD hS hA rfl rfl rfl (c_X8_isStill l Γ _ q0 q1 q2 d0 d1 d2 d3 d4 d5 d6 d7 d8 d9 d10 d11 d12 length undoMany zeroKept oneKept seen spot kind begin letters figures value plated driven rows periods leastPeriod sv motion x2 r_1 hq_2) (cwV 1 hts gX8_apart_X8_isStill rfl rfl rfl (by decide +kernel) ⟨Nat.le_of_ble_eq_true rfl, Nat.le_of_ble_eq_true rfl⟩) (va_recv (ci := 8) (q0 := 0) hK hP rfl rfl) rfl hl.1 rfl (Nat.le_of_ble_eq_true rfl) dX8_apart_58 ⟨Nat.zero_le _, Nat.zero_le _⟩ (fun H locs hP hD hS => ?_)
          have hP : va_P Γ.1 vwCl (wd_X8_apart Γ q0 q1 q2 d0 d1 d2 d3 d4 d5 d6 d7 d8 d9 d10 d11 d12 length undoMany zeroKept oneKept seen spot kind begin letters figures value plated driven rows periods leastPeriod sv motion) H := hP
          have hD : va_D A (wd_X8_apart Γ q0 q1 q2 d0 d1 d2 d3 d4 d5 d6 d7 d8 d9 d10 d11 d12 length undoMany zeroKept oneKept seen spot kind begin letters figures value plated driven rows periods leastPeriod sv motion) := hD
          refine lv_if_eq (tgt := 73) hx hb dX8_apart_61 (by decide) (fun hc_3 => ?_) (fun hc_3 => ?_)
          · have hf := vm_pos hc_3 hf
            refine lv_iconst (v := 0) hx hb dX8_apart_73 (by decide) ?_
            exact K_74 x2 (s0 + s1) 0 hP hD hS (lv_sub hl [1, 2] rfl) hf
          · have hf := vm_neg hc_3 hf
            refine lv_aload_n hx hb dX8_apart_64 rfl (lv_at hl 1 rfl) ?_
            refine lv_iload_n hx hb dX8_apart_65 rfl (lv_at hl 2 rfl) ?_
            refine lv_iconst (v := 0) hx hb dX8_apart_66 (by decide) ?_
            obtain ⟨r_4, hq_5, hf⟩ := ob1_some hf
            refine vm_cVi (isC := [0, 1, 2]) (wc := (wd_X8_nearest Γ q0 q1 q2 d0 d1 d2 d3 d4 d5 d6 d7 d8 d9 d10 d11 d12 length undoMany zeroKept oneKept seen spot kind begin letters figures value plated driven rows periods leastPeriod sv motion)) (w1 := (wd_X8_nearest Γ q0 q1 q2 d0 d1 d2 d3 d4 d5 d6 d7 d8 d9 d10 d11 d12 length undoMany zeroKept oneKept seen spot kind begin letters figures value plated driven rows periods leastPeriod sv motion)) (As := [.int x2, .int 0]) (rest := [.int (s0 + s1)]) ⟨hx, hb, hml, hown, hts⟩ hE hP hD hS hA rfl rfl rfl (c_X8_nearest l Γ _ q0 q1 q2 d0 d1 d2 d3 d4 d5 d6 d7 d8 d9 d10 d11 d12 length undoMany zeroKept oneKept seen spot kind begin letters figures value plated driven rows periods leastPeriod sv motion x2 0 r_4 hq_5) (cwV 2 hts gX8_apart_X8_nearest rfl rfl rfl (by decide +kernel) ⟨Nat.le_of_ble_eq_true rfl, Nat.le_of_ble_eq_true rfl⟩) (va_recv (ci := 8) (q0 := 0) hK hP rfl rfl) rfl hl.1 rfl (Nat.le_of_ble_eq_true rfl) dX8_apart_67 ⟨Nat.zero_le _, Nat.zero_le _⟩ (fun H locs hP hD hS => ?_)
            have hP : va_P Γ.1 vwCl (wd_X8_apart Γ q0 q1 q2 d0 d1 d2 d3 d4 d5 d6 d7 d8 d9 d10 d11 d12 length undoMany zeroKept oneKept seen spot kind begin letters figures value plated driven rows periods leastPeriod sv motion) H := hP
            have hD : va_D A (wd_X8_apart Γ q0 q1 q2 d0 d1 d2 d3 d4 d5 d6 d7 d8 d9 d10 d11 d12 length undoMany zeroKept oneKept seen spot kind begin letters figures value plated driven rows periods leastPeriod sv motion) := hD
            refine lv_goto (tgt := 74) hx hb dX8_apart_70 (by decide) ?_
            exact K_74 x2 (s0 + s1) r_4 hP hD hS (lv_sub hl [1, 2] rfl) hf
        unfold f_X8_apart_21b at hf
        refine lv_iload_n hx hb dX8_apart_21 rfl (lv_at hl 2 rfl) ?_
        refine lv_aload_n hx hb dX8_apart_22 rfl (lv_at hl 0 rfl) ?_
        obtain ⟨r_6, hq_7, hf⟩ := ob1_some hf
        refine vm_cVi (isC := [0, 1]) (wc := (wd_X8_cells Γ q0 q1 d0 d1 d2 d3 d4 d5 d6 d7 d8 d9 q2 d10 d11 d12 length undoMany zeroKept oneKept seen spot kind begin letters figures value plated driven rows periods leastPeriod sv)) (w1 := (wd_X8_cells Γ q0 q1 d0 d1 d2 d3 d4 d5 d6 d7 d8 d9 q2 d10 d11 d12 length undoMany zeroKept oneKept seen spot kind begin letters figures value plated driven rows periods leastPeriod sv)) (As := []) (rest := [.int x2]) ⟨hx, hb, hml, hown, hts⟩ hE hP hD hS hA rfl rfl rfl (c_X8_cells l Γ _ q0 q1 d0 d1 d2 d3 d4 d5 d6 d7 d8 d9 q2 d10 d11 d12 length undoMany zeroKept oneKept seen spot kind begin letters figures value plated driven rows periods leastPeriod sv r_6 hq_7) (cwV 0 hts gX8_apart_X8_cells rfl rfl rfl (by decide +kernel) ⟨Nat.le_of_ble_eq_true rfl, Nat.le_of_ble_eq_true rfl⟩) (va_recv (ci := 8) (q0 := 0) hK hP rfl rfl) rfl hl.1 rfl (Nat.le_of_ble_eq_true rfl) dX8_apart_23 ⟨Nat.zero_le _, Nat.zero_le _⟩ (fun H locs hP hD hS => ?_)
        have hP : va_P Γ.1 vwCl (wd_X8_apart Γ q0 q1 q2 d0 d1 d2 d3 d4 d5 d6 d7 d8 d9 d10 d11 d12 length undoMany zeroKept oneKept seen spot kind begin letters figures value plated driven rows periods leastPeriod sv motion) H := hP
        have hD : va_D A (wd_X8_apart Γ q0 q1 q2 d0 d1 d2 d3 d4 d5 d6 d7 d8 d9 d10 d11 d12 length undoMany zeroKept oneKept seen spot kind begin letters figures value plated driven rows periods leastPeriod sv motion) := hD
        refine lv_icmp_ge (tgt := 82) hx hb dX8_apart_26 (by decide) (fun hc_8 => ?_) (fun hc_8 => ?_)
        · have hf := vm_pos hc_8 hf
          have hX := hX21
          rw [← Option.some.inj hf] at hX
          exact K_82 x1 hP hD hS (lv_sub hl [1] rfl) hX
        · have hf := vm_neg hc_8 hf
          refine lv_iload_n hx hb dX8_apart_29 rfl (lv_at hl 1 rfl) ?_
          refine lv_aload_n hx hb dX8_apart_30 rfl (lv_at hl 0 rfl) ?_
          refine va_get (D := Γ.1) (ci := 8) (v := .ref q1) (C := RX8) (T := TX8) (N := 31) hx hb hts hi8 hown hK hP 0 rfl rfl 2 (by decide) (hts (.fieldLink RX8 13 "SandPlatesModel" "s" "[I") (List.mem_of_getElem? (i := 1) rfl)) (fun _ h9 => h9) rfl dX8_apart_31 ?_
          refine lv_bipush (v := 9) hx hb dX8_apart_34 (by decide) ?_
          refine lv_iload_n hx hb dX8_apart_36 rfl (lv_at hl 2 rfl) ?_
          refine lv_iadd hx hb dX8_apart_37 ?_
          obtain ⟨hc_9, hf⟩ := vm_ck hf
          refine vm_iald hx hb hK hP 1 0 rfl rfl hc_9 (j := (9 + x2).toNatClampNeg) rfl dX8_apart_38 ?_
          refine lv_iconst (v := 1) hx hb dX8_apart_39 (by decide) ?_
          refine lv_icmp_ne (tgt := 52) hx hb dX8_apart_40 (by decide) (fun hc_10 => ?_) (fun hc_10 => ?_)
          · have hf := vm_neg hc_10 hf
            refine lv_iconst (v := 0) hx hb dX8_apart_52 (by decide) ?_
            exact K_53 x2 x1 0 hP hD hS (lv_sub hl [0, 2] rfl) hf
          · have hf := vm_pos hc_10 hf
            refine lv_aload_n hx hb dX8_apart_43 rfl (lv_at hl 0 rfl) ?_
            refine lv_iload_n hx hb dX8_apart_44 rfl (lv_at hl 2 rfl) ?_
            refine lv_iconst (v := 1) hx hb dX8_apart_45 (by decide) ?_
            obtain ⟨r_11, hq_12, hf⟩ := ob1_some hf
            refine vm_cVi (isC := [0, 1, 2]) (wc := (wd_X8_nearest Γ q0 q1 q2 d0 d1 d2 d3 d4 d5 d6 d7 d8 d9 d10 d11 d12 length undoMany zeroKept oneKept seen spot kind begin letters figures value plated driven rows periods leastPeriod sv motion)) (w1 := (wd_X8_nearest Γ q0 q1 q2 d0 d1 d2 d3 d4 d5 d6 d7 d8 d9 d10 d11 d12 length undoMany zeroKept oneKept seen spot kind begin letters figures value plated driven rows periods leastPeriod sv motion)) (As := [.int x2, .int 1]) (rest := [.int x1]) ⟨hx, hb, hml, hown, hts⟩ hE hP hD hS hA rfl rfl rfl (c_X8_nearest l Γ _ q0 q1 q2 d0 d1 d2 d3 d4 d5 d6 d7 d8 d9 d10 d11 d12 length undoMany zeroKept oneKept seen spot kind begin letters figures value plated driven rows periods leastPeriod sv motion x2 1 r_11 hq_12) (cwV 2 hts gX8_apart_X8_nearest rfl rfl rfl (by decide +kernel) ⟨Nat.le_of_ble_eq_true rfl, Nat.le_of_ble_eq_true rfl⟩) (va_recv (ci := 8) (q0 := 0) hK hP rfl rfl) rfl hl.1 rfl (Nat.le_of_ble_eq_true rfl) dX8_apart_46 ⟨Nat.zero_le _, Nat.zero_le _⟩ (fun H locs hP hD hS => ?_)
            have hP : va_P Γ.1 vwCl (wd_X8_apart Γ q0 q1 q2 d0 d1 d2 d3 d4 d5 d6 d7 d8 d9 d10 d11 d12 length undoMany zeroKept oneKept seen spot kind begin letters figures value plated driven rows periods leastPeriod sv motion) H := hP
            have hD : va_D A (wd_X8_apart Γ q0 q1 q2 d0 d1 d2 d3 d4 d5 d6 d7 d8 d9 d10 d11 d12 length undoMany zeroKept oneKept seen spot kind begin letters figures value plated driven rows periods leastPeriod sv motion) := hD
            refine lv_goto (tgt := 53) hx hb dX8_apart_49 (by decide) ?_
            exact K_53 x2 x1 r_11 hP hD hS (lv_sub hl [0, 2] rfl) hf
    exact LP FU x1 x2 hP hD hS hl h1
  have K_14 : ∀ {H : Heap} {locs : List Loc} {ls : Array Slot}, va_P Γ.1 vwCl (wd_X8_apart Γ q0 q1 q2 d0 d1 d2 d3 d4 d5 d6 d7 d8 d9 d10 d11 d12 length undoMany zeroKept oneKept seen spot kind begin letters figures value plated driven rows periods leastPeriod sv motion) H → va_D A (wd_X8_apart Γ q0 q1 q2 d0 d1 d2 d3 d4 d5 d6 d7 d8 d9 d10 d11 d12 length undoMany zeroKept oneKept seen spot kind begin letters figures value plated driven rows periods leastPeriod sv motion) → va_S A s.heap H locs → lv_has ls 3 [] → f_X8_apart_14 = some out → W p l e ({ frames := 2, cells := 0, slots := 0, locals := 49 } : Room) s m ([.ref q0] : List Value).toArray below meth c H locs 0 0 QQ (F0 m 14 ls []) := by
    intro H locs ls hP hD hS hl hf
    unfold f_X8_apart_14 at hf
    refine lv_bipush (v := (-9)) hx hb dX8_apart_14 (by decide) ?_
    subst hout; obtain rfl := Option.some.inj hf
    subst hQQ
    exact W.iret hx hb hr (fun t ht hW => ⟨⟨_, (), rfl, rfl, by rw [ht]; exact hP, hD⟩, hS.F ht⟩) hS.2.2 dX8_apart_16
  unfold f_X8_apart at hf
  refine lv_aload_n hx hb dX8_apart_0 rfl (lv_at hl 0 rfl) ?_
  obtain ⟨r_13, hq_14, hf⟩ := ob1_some hf
  refine vm_cVi (isC := [0, 1]) (wc := (wd_X8_figure Γ q0 q1 d0 d1 d2 d3 d4 d5 d6 d7 d8 d9 q2 d10 d11 d12 length undoMany zeroKept oneKept seen spot kind begin letters figures value plated driven rows periods leastPeriod sv)) (w1 := (wd_X8_figure Γ q0 q1 d0 d1 d2 d3 d4 d5 d6 d7 d8 d9 q2 d10 d11 d12 length undoMany zeroKept oneKept seen spot kind begin letters figures value plated driven rows periods leastPeriod sv)) (As := []) (rest := []) ⟨hx, hb, hml, hown, hts⟩ hE hP hD hS hA rfl rfl rfl (c_X8_figure l Γ _ q0 q1 d0 d1 d2 d3 d4 d5 d6 d7 d8 d9 q2 d10 d11 d12 length undoMany zeroKept oneKept seen spot kind begin letters figures value plated driven rows periods leastPeriod sv r_13 hq_14) (cwV 0 hts gX8_apart_X8_figure rfl rfl rfl (by decide +kernel) ⟨Nat.le_of_ble_eq_true rfl, Nat.le_of_ble_eq_true rfl⟩) (va_recv (ci := 8) (q0 := 0) hK hP rfl rfl) rfl hl.1 rfl (Nat.le_of_ble_eq_true rfl) dX8_apart_1 ⟨Nat.zero_le _, Nat.zero_le _⟩ (fun H locs hP hD hS => ?_)
  have hP : va_P Γ.1 vwCl (wd_X8_apart Γ q0 q1 q2 d0 d1 d2 d3 d4 d5 d6 d7 d8 d9 d10 d11 d12 length undoMany zeroKept oneKept seen spot kind begin letters figures value plated driven rows periods leastPeriod sv motion) H := hP
  have hD : va_D A (wd_X8_apart Γ q0 q1 q2 d0 d1 d2 d3 d4 d5 d6 d7 d8 d9 d10 d11 d12 length undoMany zeroKept oneKept seen spot kind begin letters figures value plated driven rows periods leastPeriod sv motion) := hD
  refine lv_if_eq (tgt := 14) hx hb dX8_apart_4 (by decide) (fun hc_15 => ?_) (fun hc_15 => ?_)
  · have hf := vm_pos hc_15 hf
    exact K_14  hP hD hS (lv_sub hl [] rfl) hf
  · have hf := vm_neg hc_15 hf
    refine lv_aload_n hx hb dX8_apart_7 rfl (lv_at hl 0 rfl) ?_
    obtain ⟨r_16, hq_17, hf⟩ := ob1_some hf
    refine vm_cVi (isC := [0, 1, 2]) (wc := (wd_X8_stillMany Γ q0 q1 q2 d0 d1 d2 d3 d4 d5 d6 d7 d8 d9 d10 d11 d12 length undoMany zeroKept oneKept seen spot kind begin letters figures value plated driven rows periods leastPeriod sv motion)) (w1 := (wd_X8_stillMany Γ q0 q1 q2 d0 d1 d2 d3 d4 d5 d6 d7 d8 d9 d10 d11 d12 length undoMany zeroKept oneKept seen spot kind begin letters figures value plated driven rows periods leastPeriod sv motion)) (As := []) (rest := []) ⟨hx, hb, hml, hown, hts⟩ hE hP hD hS hA rfl rfl rfl (c_X8_stillMany l Γ _ q0 q1 q2 d0 d1 d2 d3 d4 d5 d6 d7 d8 d9 d10 d11 d12 length undoMany zeroKept oneKept seen spot kind begin letters figures value plated driven rows periods leastPeriod sv motion r_16 hq_17) (cwV 0 hts gX8_apart_X8_stillMany rfl rfl rfl (by decide +kernel) ⟨Nat.le_of_ble_eq_true rfl, Nat.le_of_ble_eq_true rfl⟩) (va_recv (ci := 8) (q0 := 0) hK hP rfl rfl) rfl hl.1 rfl (Nat.le_of_ble_eq_true rfl) dX8_apart_8 ⟨Nat.zero_le _, Nat.zero_le _⟩ (fun H locs hP hD hS => ?_)
    have hP : va_P Γ.1 vwCl (wd_X8_apart Γ q0 q1 q2 d0 d1 d2 d3 d4 d5 d6 d7 d8 d9 d10 d11 d12 length undoMany zeroKept oneKept seen spot kind begin letters figures value plated driven rows periods leastPeriod sv motion) H := hP
    have hD : va_D A (wd_X8_apart Γ q0 q1 q2 d0 d1 d2 d3 d4 d5 d6 d7 d8 d9 d10 d11 d12 length undoMany zeroKept oneKept seen spot kind begin letters figures value plated driven rows periods leastPeriod sv motion) := hD
    refine lv_if_ne (tgt := 17) hx hb dX8_apart_11 (by decide) (fun hc_18 => ?_) (fun hc_18 => ?_)
    · have hf := vm_neg hc_18 hf
      refine lv_iconst (v := 0) hx hb dX8_apart_17 (by decide) ?_
      refine lv_istore_n (lv' := [(1, .int 0), (0, .ref q0)]) hx hb dX8_apart_18 rfl hl (by decide) rfl (fun ls hl => ?_)
      refine lv_iconst (v := 0) hx hb dX8_apart_19 (by decide) ?_
      refine lv_istore_n (lv' := [(2, .int 0), (1, .int 0), (0, .ref q0)]) hx hb dX8_apart_20 rfl hl (by decide) rfl (fun ls hl => ?_)
      exact K_21 0 0 hP hD hS (lv_sub hl [2, 1, 0] rfl) hf
    · have hf := vm_pos hc_18 hf
      exact K_14  hP hD hS (lv_sub hl [] rfl) hf
def wd_X8_still (Γ : GE) (q0 q1 q2 q3 q4 q5 q6 d0 d1 d2 d3 d4 d5 d6 d7 d8 : Nat) (length : Int32) (undoMany : Int32) (zeroKept : Int32) (oneKept : Int32) (seen : Int32) (spot : Int32) (kind : Int32) (begin : Int32) (letters : Int64) (figures : Int32) (value : Int32) (plated : Int32) (driven : Int32) (rows : Int32) (periods : Int32) (leastPeriod : Int32) (sv : Nat → Int32) (height : Nat → Int32) (speed : Nat → Int32) (top : Nat → Int32) (low : Nat → Int32) (motion : Nat → Int32) : va_W := [(q0, .inr (8, [.int length, .ref d0, .ref q1, .ref d1, .ref d2, .int undoMany, .ref d3, .int zeroKept, .int oneKept, .ref d4, .ref d5, .int seen, .int spot, .int kind, .int begin, .long letters, .int figures, .int value, .int plated, .int driven, .int rows, .ref q2, .ref q3, .ref q4, .ref q5, .ref q6, .ref d6, .ref d7, .ref d8, .int periods, .int leastPeriod])), (q1, .inl (Γ.2.1 0, 81, .inl sv)), (q2, .inl (Γ.2.1 0, 36, .inl height)), (q3, .inl (Γ.2.1 0, 36, .inl speed)), (q4, .inl (Γ.2.1 0, 36, .inl top)), (q5, .inl (Γ.2.1 0, 36, .inl low)), (q6, .inl (Γ.2.1 0, 36, .inl motion))]
def f_X8_still_52 (height : Nat → Int32) (speed : Nat → Int32) (top : Nat → Int32) (low : Nat → Int32) (motion : Nat → Int32) (s0 : Int32) : Option (Int32 × (Nat → Int32) × (Nat → Int32) × (Nat → Int32) × (Nat → Int32) × (Nat → Int32)) := some (s0, height, speed, top, low, motion)
def f_X8_still (sv : Nat → Int32) (height : Nat → Int32) (speed : Nat → Int32) (top : Nat → Int32) (low : Nat → Int32) (motion : Nat → Int32) (x1 : Int32) : Option (Int32 × (Nat → Int32) × (Nat → Int32) × (Nat → Int32) × (Nat → Int32) × (Nat → Int32)) := ob1 (f_X8_in ((x1).toInt64) 0 2) (fun r_1 => if r_1 = 0 then (some ((-1), height, speed, top, low, motion)) else (ob5 (f_X8_runs sv height speed top low motion (sv 6)) (fun height_4 speed_5 top_6 low_7 motion_8 => if x1 = 0 then (ob1 (f_X8_stillMany sv motion_8) (fun r_16 => f_X8_still_52 height_4 speed_5 top_6 low_7 motion_8 r_16)) else (if x1 = 1 then (ob1 (f_X8_likeness sv motion_8) (fun r_14 => f_X8_still_52 height_4 speed_5 top_6 low_7 motion_8 r_14)) else (ob1 (f_X8_apart sv motion_8) (fun r_12 => f_X8_still_52 height_4 speed_5 top_6 low_7 motion_8 r_12))))))
set_option maxHeartbeats 4000000 in
set_option maxRecDepth 100000 in
theorem c_X8_still (l : Launch) (Γ : GE) (sz : Nat) (q0 q1 q2 q3 q4 q5 q6 d0 d1 d2 d3 d4 d5 d6 d7 d8 : Nat) (length : Int32) (undoMany : Int32) (zeroKept : Int32) (oneKept : Int32) (seen : Int32) (spot : Int32) (kind : Int32) (begin : Int32) (letters : Int64) (figures : Int32) (value : Int32) (plated : Int32) (driven : Int32) (rows : Int32) (periods : Int32) (leastPeriod : Int32) (sv : Nat → Int32) (height : Nat → Int32) (speed : Nat → Int32) (top : Nat → Int32) (low : Nat → Int32) (motion : Nat → Int32) (x1 : Int32) (ro : Int32) (o_height : Nat → Int32) (o_speed : Nat → Int32) (o_top : Nat → Int32) (o_low : Nat → Int32) (o_motion : Nat → Int32) (hf : f_X8_still sv height speed top low motion x1 = some (ro, o_height, o_speed, o_top, o_low, o_motion)) : MetI l yX8_still wsX8_still ({ frames := 5, cells := 0, slots := 0, locals := 123 } : Room) Γ [.ref q0, .int x1] (wd_X8_still Γ q0 q1 q2 q3 q4 q5 q6 d0 d1 d2 d3 d4 d5 d6 d7 d8 length undoMany zeroKept oneKept seen spot kind begin letters figures value plated driven rows periods leastPeriod sv height speed top low motion) (wd_X8_still Γ q0 q1 q2 q3 q4 q5 q6 d0 d1 d2 d3 d4 d5 d6 d7 d8 length undoMany zeroKept oneKept seen spot kind begin letters figures value plated driven rows periods leastPeriod sv o_height o_speed o_top o_low o_motion) sz ro := by
  refine Met.ofW (cc := cX8_still) (maxL := 2) (ret := (some .int)) (by decide) rfl ?_
  intro p e s m args below meth c s₁ B hml hv
  obtain ⟨rfl, hsz, hE, hP, hD⟩ := hv
  have hx := B.exec
  have hb := B.bytes
  have hr := B.returns
  have hts := atoms_spec (ws := wsX8_still) B.pre
  have hown : s.vm.findClass RX8 = some m.cls := findClass_of_methodNamed B.named
  have hlocks := B.notSynchronized
  subst hsz
  generalize hAe : va_A (wd_X8_still Γ q0 q1 q2 q3 q4 q5 q6 d0 d1 d2 d3 d4 d5 d6 d7 d8 length undoMany zeroKept oneKept seen spot kind begin letters figures value plated driven rows periods leastPeriod sv height speed top low motion) s.heap.size = A at hE hD ⊢
  have hA : ∀ q : Nat, s.heap.size ≤ q → A q := fun q h => by rw [← hAe]; exact Or.inr h
  clear hAe
  have hS : va_S A s.heap s.heap [] := va_S.rf
  have hK := hE.1
  have hl := lv_entry ([.ref q0, .int x1]) (n := 2) (Nat.le_of_ble_eq_true rfl)
  rw [lg_entry_eq]
  generalize (lg_sl ([.ref q0, .int x1]) ++ List.replicate (2 - (lg_sl ([.ref q0, .int x1])).length) Slot.unset).toArray = ls at hl ⊢
  have hl : lv_has ls 2 [(0, .ref q0), (1, .int x1)] := hl
  have hi8 : ∀ w ∈ u_ws RX8 TX8 31, w ∈ wsX8_still := fun w h => (List.mem_cons_of_mem _ (List.mem_append_right _ h))
  obtain ⟨out, hout⟩ : ∃ o, o = (ro, o_height, o_speed, o_top, o_low, o_motion) := ⟨_, rfl⟩
  rw [← hout] at hf
  obtain ⟨QQ, hQQ⟩ : ∃ Q, Q = MQ below (va_Qi (fun (r' : Int32) (_ : Unit) => r' = ro) (CQ Γ (wd_X8_still Γ q0 q1 q2 q3 q4 q5 q6 d0 d1 d2 d3 d4 d5 d6 d7 d8 length undoMany zeroKept oneKept seen spot kind begin letters figures value plated driven rows periods leastPeriod sv o_height o_speed o_top o_low o_motion) A) A) (([.ref q0, .int x1] : List Value).toArray) s 0 0 A := ⟨_, rfl⟩
  show W p l e ({ frames := 5, cells := 0, slots := 0, locals := 123 } : Room) s m (([.ref q0, .int x1] : List Value).toArray) below meth c s.heap [] 0 0 (MQ below _ (([.ref q0, .int x1] : List Value).toArray) s 0 0 A) (F0 m 0 ls [])
  rw [← hQQ]
  have K_52 : ∀ (height : Nat → Int32) (speed : Nat → Int32) (top : Nat → Int32) (low : Nat → Int32) (motion : Nat → Int32) (s0 : Int32) {H : Heap} {locs : List Loc} {ls : Array Slot}, va_P Γ.1 vwCl (wd_X8_still Γ q0 q1 q2 q3 q4 q5 q6 d0 d1 d2 d3 d4 d5 d6 d7 d8 length undoMany zeroKept oneKept seen spot kind begin letters figures value plated driven rows periods leastPeriod sv height speed top low motion) H → va_D A (wd_X8_still Γ q0 q1 q2 q3 q4 q5 q6 d0 d1 d2 d3 d4 d5 d6 d7 d8 length undoMany zeroKept oneKept seen spot kind begin letters figures value plated driven rows periods leastPeriod sv height speed top low motion) → va_S A s.heap H locs → lv_has ls 2 [] → f_X8_still_52 height speed top low motion s0 = some out → W p l e ({ frames := 5, cells := 0, slots := 0, locals := 123 } : Room) s m ([.ref q0, .int x1] : List Value).toArray below meth c H locs 0 0 QQ (F0 m 52 ls [.int s0]) := by
    intro height speed top low motion s0 H locs ls hP hD hS hl hf
    unfold f_X8_still_52 at hf
    subst hout; obtain ⟨rfl, rfl, rfl, rfl, rfl, rfl⟩ := rt6 hf
    subst hQQ
    exact W.iret hx hb hr (fun t ht hW => ⟨⟨_, (), rfl, rfl, by rw [ht]; exact hP, hD⟩, hS.F ht⟩) hS.2.2 dX8_still_52
  unfold f_X8_still at hf
  refine lv_iload_n hx hb dX8_still_0 rfl (lv_at hl 1 rfl) ?_
  refine lv_i2l hx hb dX8_still_1 rfl ?_
  refine lv_lconst (v := 0) hx hb dX8_still_2 (by decide) ?_
  refine lv_ldc2 hx hb hown (hts (.constantLong RX8 190 (2)) (List.mem_of_getElem? (i := 1) rfl)) dX8_still_3 ?_
  obtain ⟨r_1, hq_2, hf⟩ := ob1_some hf
  refine vm_cSi (isC := []) (wc := (wd_X8_in Γ)) (w1 := (wd_X8_in Γ)) (As := [.long ((x1).toInt64), .long 0, .long 2]) (rest := []) ⟨hx, hb, hml, hown, hts⟩ hE hP hD hS hA rfl rfl rfl (c_X8_in l Γ _ ((x1).toInt64) 0 2 r_1 hq_2) (va_cwS 3 hts gX8_still_X8_in rfl rfl rfl (by decide +kernel) ⟨Nat.le_of_ble_eq_true rfl, Nat.le_of_ble_eq_true rfl⟩) rfl hl.1 rfl (Nat.le_of_ble_eq_true rfl) dX8_still_6 ⟨Nat.zero_le _, Nat.zero_le _⟩ (fun H locs hP hD hS => ?_)
  have hP : va_P Γ.1 vwCl (wd_X8_still Γ q0 q1 q2 q3 q4 q5 q6 d0 d1 d2 d3 d4 d5 d6 d7 d8 length undoMany zeroKept oneKept seen spot kind begin letters figures value plated driven rows periods leastPeriod sv height speed top low motion) H := hP
  have hD : va_D A (wd_X8_still Γ q0 q1 q2 q3 q4 q5 q6 d0 d1 d2 d3 d4 d5 d6 d7 d8 length undoMany zeroKept oneKept seen spot kind begin letters figures value plated driven rows periods leastPeriod sv height speed top low motion) := hD
  refine lv_if_ne (tgt := 14) hx hb dX8_still_9 (by decide) (fun hc_3 => ?_) (fun hc_3 => ?_)
  · have hf := vm_neg hc_3 hf
    refine lv_aload_n hx hb dX8_still_14 rfl (lv_at hl 0 rfl) ?_
    refine lv_aload_n hx hb dX8_still_15 rfl (lv_at hl 0 rfl) ?_
    refine va_get (D := Γ.1) (ci := 8) (v := .ref q1) (C := RX8) (T := TX8) (N := 31) hx hb hts hi8 hown hK hP 0 rfl rfl 2 (by decide) (hts (.fieldLink RX8 13 "SandPlatesModel" "s" "[I") (List.mem_of_getElem? (i := 2) rfl)) (fun _ h9 => h9) rfl dX8_still_16 ?_
    refine lv_bipush (v := 6) hx hb dX8_still_19 (by decide) ?_
    refine vm_iald hx hb hK hP 1 0 rfl rfl (by decide +kernel) (j := 6) rfl dX8_still_21 ?_
    obtain ⟨height_4, speed_5, top_6, low_7, motion_8, hq_9, hf⟩ := ob5_some hf
    refine vm_cVv (isC := [0, 1, 2, 3, 4, 5, 6]) (wc := (wd_X8_runs Γ q0 q1 q2 q3 q4 q5 q6 d0 d1 d2 d3 d4 d5 d6 d7 d8 length undoMany zeroKept oneKept seen spot kind begin letters figures value plated driven rows periods leastPeriod sv height speed top low motion)) (w1 := (wd_X8_runs Γ q0 q1 q2 q3 q4 q5 q6 d0 d1 d2 d3 d4 d5 d6 d7 d8 length undoMany zeroKept oneKept seen spot kind begin letters figures value plated driven rows periods leastPeriod sv height_4 speed_5 top_6 low_7 motion_8)) (As := [.int (sv 6)]) (rest := []) ⟨hx, hb, hml, hown, hts⟩ hE hP hD hS hA rfl rfl rfl (c_X8_runs l Γ _ q0 q1 q2 q3 q4 q5 q6 d0 d1 d2 d3 d4 d5 d6 d7 d8 length undoMany zeroKept oneKept seen spot kind begin letters figures value plated driven rows periods leastPeriod sv height speed top low motion (sv 6) height_4 speed_5 top_6 low_7 motion_8 hq_9) (cwV 1 hts gX8_still_X8_runs rfl rfl rfl (by decide +kernel) ⟨Nat.le_of_ble_eq_true rfl, Nat.le_of_ble_eq_true rfl⟩) (va_recv (ci := 8) (q0 := 0) hK hP rfl rfl) rfl hl.1 rfl (Nat.le_of_ble_eq_true rfl) dX8_still_22 ⟨Nat.zero_le _, Nat.zero_le _⟩ (fun H locs hP hD hS => ?_)
    have hP : va_P Γ.1 vwCl (wd_X8_still Γ q0 q1 q2 q3 q4 q5 q6 d0 d1 d2 d3 d4 d5 d6 d7 d8 length undoMany zeroKept oneKept seen spot kind begin letters figures value plated driven rows periods leastPeriod sv height_4 speed_5 top_6 low_7 motion_8) H := hP
    have hD : va_D A (wd_X8_still Γ q0 q1 q2 q3 q4 q5 q6 d0 d1 d2 d3 d4 d5 d6 d7 d8 length undoMany zeroKept oneKept seen spot kind begin letters figures value plated driven rows periods leastPeriod sv height_4 speed_5 top_6 low_7 motion_8) := hD
    refine lv_iload_n hx hb dX8_still_25 rfl (lv_at hl 1 rfl) ?_
    refine lv_if_ne (tgt := 36) hx hb dX8_still_26 (by decide) (fun hc_10 => ?_) (fun hc_10 => ?_)
    · have hf := vm_neg hc_10 hf
      refine lv_iload_n hx hb dX8_still_36 rfl (lv_at hl 1 rfl) ?_
      refine lv_iconst (v := 1) hx hb dX8_still_37 (by decide) ?_
      refine lv_icmp_ne (tgt := 48) hx hb dX8_still_38 (by decide) (fun hc_11 => ?_) (fun hc_11 => ?_)
      · have hf := vm_neg hc_11 hf
        refine lv_aload_n hx hb dX8_still_48 rfl (lv_at hl 0 rfl) ?_
        obtain ⟨r_12, hq_13, hf⟩ := ob1_some hf
        refine vm_cVi (isC := [0, 1, 6]) (wc := (wd_X8_apart Γ q0 q1 q6 d0 d1 d2 d3 d4 d5 q2 q3 q4 q5 d6 d7 d8 length undoMany zeroKept oneKept seen spot kind begin letters figures value plated driven rows periods leastPeriod sv motion_8)) (w1 := (wd_X8_apart Γ q0 q1 q6 d0 d1 d2 d3 d4 d5 q2 q3 q4 q5 d6 d7 d8 length undoMany zeroKept oneKept seen spot kind begin letters figures value plated driven rows periods leastPeriod sv motion_8)) (As := []) (rest := []) ⟨hx, hb, hml, hown, hts⟩ hE hP hD hS hA rfl rfl rfl (c_X8_apart l Γ _ q0 q1 q6 d0 d1 d2 d3 d4 d5 q2 q3 q4 q5 d6 d7 d8 length undoMany zeroKept oneKept seen spot kind begin letters figures value plated driven rows periods leastPeriod sv motion_8 r_12 hq_13) (cwV 0 hts gX8_still_X8_apart rfl rfl rfl (by decide +kernel) ⟨Nat.le_of_ble_eq_true rfl, Nat.le_of_ble_eq_true rfl⟩) (va_recv (ci := 8) (q0 := 0) hK hP rfl rfl) rfl hl.1 rfl (Nat.le_of_ble_eq_true rfl) dX8_still_49 ⟨Nat.zero_le _, Nat.zero_le _⟩ (fun H locs hP hD hS => ?_)
        have hP : va_P Γ.1 vwCl (wd_X8_still Γ q0 q1 q2 q3 q4 q5 q6 d0 d1 d2 d3 d4 d5 d6 d7 d8 length undoMany zeroKept oneKept seen spot kind begin letters figures value plated driven rows periods leastPeriod sv height_4 speed_5 top_6 low_7 motion_8) H := hP
        have hD : va_D A (wd_X8_still Γ q0 q1 q2 q3 q4 q5 q6 d0 d1 d2 d3 d4 d5 d6 d7 d8 length undoMany zeroKept oneKept seen spot kind begin letters figures value plated driven rows periods leastPeriod sv height_4 speed_5 top_6 low_7 motion_8) := hD
        exact K_52 height_4 speed_5 top_6 low_7 motion_8 r_12 hP hD hS (lv_sub hl [] rfl) hf
      · have hf := vm_pos hc_11 hf
        refine lv_aload_n hx hb dX8_still_41 rfl (lv_at hl 0 rfl) ?_
        obtain ⟨r_14, hq_15, hf⟩ := ob1_some hf
        refine vm_cVi (isC := [0, 1, 6]) (wc := (wd_X8_likeness Γ q0 q1 q6 d0 d1 d2 d3 d4 d5 q2 q3 q4 q5 d6 d7 d8 length undoMany zeroKept oneKept seen spot kind begin letters figures value plated driven rows periods leastPeriod sv motion_8)) (w1 := (wd_X8_likeness Γ q0 q1 q6 d0 d1 d2 d3 d4 d5 q2 q3 q4 q5 d6 d7 d8 length undoMany zeroKept oneKept seen spot kind begin letters figures value plated driven rows periods leastPeriod sv motion_8)) (As := []) (rest := []) ⟨hx, hb, hml, hown, hts⟩ hE hP hD hS hA rfl rfl rfl (c_X8_likeness l Γ _ q0 q1 q6 d0 d1 d2 d3 d4 d5 q2 q3 q4 q5 d6 d7 d8 length undoMany zeroKept oneKept seen spot kind begin letters figures value plated driven rows periods leastPeriod sv motion_8 r_14 hq_15) (cwV 0 hts gX8_still_X8_likeness rfl rfl rfl (by decide +kernel) ⟨Nat.le_of_ble_eq_true rfl, Nat.le_of_ble_eq_true rfl⟩) (va_recv (ci := 8) (q0 := 0) hK hP rfl rfl) rfl hl.1 rfl (Nat.le_of_ble_eq_true rfl) dX8_still_42 ⟨Nat.zero_le _, Nat.zero_le _⟩ (fun H locs hP hD hS => ?_)
        have hP : va_P Γ.1 vwCl (wd_X8_still Γ q0 q1 q2 q3 q4 q5 q6 d0 d1 d2 d3 d4 d5 d6 d7 d8 length undoMany zeroKept oneKept seen spot kind begin letters figures value plated driven rows periods leastPeriod sv height_4 speed_5 top_6 low_7 motion_8) H := hP
        have hD : va_D A (wd_X8_still Γ q0 q1 q2 q3 q4 q5 q6 d0 d1 d2 d3 d4 d5 d6 d7 d8 length undoMany zeroKept oneKept seen spot kind begin letters figures value plated driven rows periods leastPeriod sv height_4 speed_5 top_6 low_7 motion_8) := hD
        refine lv_goto (tgt := 52) hx hb dX8_still_45 (by decide) ?_
        exact K_52 height_4 speed_5 top_6 low_7 motion_8 r_14 hP hD hS (lv_sub hl [] rfl) hf
    · have hf := vm_pos hc_10 hf
      refine lv_aload_n hx hb dX8_still_29 rfl (lv_at hl 0 rfl) ?_
      obtain ⟨r_16, hq_17, hf⟩ := ob1_some hf
      refine vm_cVi (isC := [0, 1, 6]) (wc := (wd_X8_stillMany Γ q0 q1 q6 d0 d1 d2 d3 d4 d5 q2 q3 q4 q5 d6 d7 d8 length undoMany zeroKept oneKept seen spot kind begin letters figures value plated driven rows periods leastPeriod sv motion_8)) (w1 := (wd_X8_stillMany Γ q0 q1 q6 d0 d1 d2 d3 d4 d5 q2 q3 q4 q5 d6 d7 d8 length undoMany zeroKept oneKept seen spot kind begin letters figures value plated driven rows periods leastPeriod sv motion_8)) (As := []) (rest := []) ⟨hx, hb, hml, hown, hts⟩ hE hP hD hS hA rfl rfl rfl (c_X8_stillMany l Γ _ q0 q1 q6 d0 d1 d2 d3 d4 d5 q2 q3 q4 q5 d6 d7 d8 length undoMany zeroKept oneKept seen spot kind begin letters figures value plated driven rows periods leastPeriod sv motion_8 r_16 hq_17) (cwV 0 hts gX8_still_X8_stillMany rfl rfl rfl (by decide +kernel) ⟨Nat.le_of_ble_eq_true rfl, Nat.le_of_ble_eq_true rfl⟩) (va_recv (ci := 8) (q0 := 0) hK hP rfl rfl) rfl hl.1 rfl (Nat.le_of_ble_eq_true rfl) dX8_still_30 ⟨Nat.zero_le _, Nat.zero_le _⟩ (fun H locs hP hD hS => ?_)
      have hP : va_P Γ.1 vwCl (wd_X8_still Γ q0 q1 q2 q3 q4 q5 q6 d0 d1 d2 d3 d4 d5 d6 d7 d8 length undoMany zeroKept oneKept seen spot kind begin letters figures value plated driven rows periods leastPeriod sv height_4 speed_5 top_6 low_7 motion_8) H := hP
      have hD : va_D A (wd_X8_still Γ q0 q1 q2 q3 q4 q5 q6 d0 d1 d2 d3 d4 d5 d6 d7 d8 length undoMany zeroKept oneKept seen spot kind begin letters figures value plated driven rows periods leastPeriod sv height_4 speed_5 top_6 low_7 motion_8) := hD
      refine lv_goto (tgt := 52) hx hb dX8_still_33 (by decide) ?_
      exact K_52 height_4 speed_5 top_6 low_7 motion_8 r_16 hP hD hS (lv_sub hl [] rfl) hf
  · have hf := vm_pos hc_3 hf
    refine lv_iconst (v := (-1)) hx hb dX8_still_12 (by decide) ?_
    subst hout; obtain ⟨rfl, rfl, rfl, rfl, rfl, rfl⟩ := rt6 hf
    subst hQQ
    exact W.iret hx hb hr (fun t ht hW => ⟨⟨_, (), rfl, rfl, by rw [ht]; exact hP, hD⟩, hS.F ht⟩) hS.2.2 dX8_still_13
def wd_X8_best (Γ : GE) (q0 q1 q2 q3 q4 q5 q6 d0 d1 d2 d3 d4 d5 d6 d7 d8 : Nat) (length : Int32) (undoMany : Int32) (zeroKept : Int32) (oneKept : Int32) (seen : Int32) (spot : Int32) (kind : Int32) (begin : Int32) (letters : Int64) (figures : Int32) (value : Int32) (plated : Int32) (driven : Int32) (rows : Int32) (periods : Int32) (leastPeriod : Int32) (sv : Nat → Int32) (height : Nat → Int32) (speed : Nat → Int32) (top : Nat → Int32) (low : Nat → Int32) (motion : Nat → Int32) : va_W := [(q0, .inr (8, [.int length, .ref d0, .ref q1, .ref d1, .ref d2, .int undoMany, .ref d3, .int zeroKept, .int oneKept, .ref d4, .ref d5, .int seen, .int spot, .int kind, .int begin, .long letters, .int figures, .int value, .int plated, .int driven, .int rows, .ref q2, .ref q3, .ref q4, .ref q5, .ref q6, .ref d6, .ref d7, .ref d8, .int periods, .int leastPeriod])), (q1, .inl (Γ.2.1 0, 81, .inl sv)), (q2, .inl (Γ.2.1 0, 36, .inl height)), (q3, .inl (Γ.2.1 0, 36, .inl speed)), (q4, .inl (Γ.2.1 0, 36, .inl top)), (q5, .inl (Γ.2.1 0, 36, .inl low)), (q6, .inl (Γ.2.1 0, 36, .inl motion))]
def f_X8_best_79 (height : Nat → Int32) (speed : Nat → Int32) (top : Nat → Int32) (low : Nat → Int32) (motion : Nat → Int32) (s0 : Int32) : Option (Int32 × (Nat → Int32) × (Nat → Int32) × (Nat → Int32) × (Nat → Int32) × (Nat → Int32)) := some (s0, height, speed, top, low, motion)
def f_X8_best_70 (height : Nat → Int32) (speed : Nat → Int32) (top : Nat → Int32) (low : Nat → Int32) (motion : Nat → Int32) (x1 : Int32) (x2 : Int32) (x3 : Int32) : Option (Int32 × (Nat → Int32) × (Nat → Int32) × (Nat → Int32) × (Nat → Int32) × (Nat → Int32)) := if x1 = 0 then (f_X8_best_79 height speed top low motion x2) else (f_X8_best_79 height speed top low motion x3)
def f_X8_best_63 (sv : Nat → Int32) (height : Nat → Int32) (speed : Nat → Int32) (top : Nat → Int32) (low : Nat → Int32) (motion : Nat → Int32) (x1 : Int32) (x2 : Int32) (x4 : Int32) (s0 : Int32) (k : (((Nat → Int32) × (Nat → Int32) × (Nat → Int32) × (Nat → Int32) × (Nat → Int32) × Int32 × Int32 × Int32) → Option ((Nat → Int32) × (Nat → Int32) × (Nat → Int32) × (Nat → Int32) × (Nat → Int32) × Int32 × Int32))) : Option ((Nat → Int32) × (Nat → Int32) × (Nat → Int32) × (Nat → Int32) × (Nat → Int32) × Int32 × Int32) := k (height, speed, top, low, motion, x2, s0, (x4 + 1))
def f_X8_best_50 (sv : Nat → Int32) (height : Nat → Int32) (speed : Nat → Int32) (top : Nat → Int32) (low : Nat → Int32) (motion : Nat → Int32) (x1 : Int32) (x3 : Int32) (x4 : Int32) (x5 : Int32) (s0 : Int32) (k : (((Nat → Int32) × (Nat → Int32) × (Nat → Int32) × (Nat → Int32) × (Nat → Int32) × Int32 × Int32 × Int32) → Option ((Nat → Int32) × (Nat → Int32) × (Nat → Int32) × (Nat → Int32) × (Nat → Int32) × Int32 × Int32))) : Option ((Nat → Int32) × (Nat → Int32) × (Nat → Int32) × (Nat → Int32) × (Nat → Int32) × Int32 × Int32) := if x5 ≤ x3 then (f_X8_best_63 sv height speed top low motion x1 s0 x4 x3 k) else (f_X8_best_63 sv height speed top low motion x1 s0 x4 x5 k)
def f_X8_best_19b (sv : Nat → Int32) (x1 : Int32) (height : Nat → Int32) (speed : Nat → Int32) (top : Nat → Int32) (low : Nat → Int32) (motion : Nat → Int32) (x2 : Int32) (x3 : Int32) (x4 : Int32) (k : (((Nat → Int32) × (Nat → Int32) × (Nat → Int32) × (Nat → Int32) × (Nat → Int32) × Int32 × Int32 × Int32) → Option ((Nat → Int32) × (Nat → Int32) × (Nat → Int32) × (Nat → Int32) × (Nat → Int32) × Int32 × Int32))) : Option ((Nat → Int32) × (Nat → Int32) × (Nat → Int32) × (Nat → Int32) × (Nat → Int32) × Int32 × Int32) := if 21 ≤ x4 then (some (height, speed, top, low, motion, x2, x3)) else (ob5 (f_X8_runs sv height speed top low motion x4) (fun height_4 speed_5 top_6 low_7 motion_8 => ob1 (f_X8_likeness sv motion_8) (fun r_10 => if r_10 ≤ x3 then (f_X8_best_50 sv height_4 speed_5 top_6 low_7 motion_8 x1 x3 x4 r_10 x2 k) else (f_X8_best_50 sv height_4 speed_5 top_6 low_7 motion_8 x1 x3 x4 r_10 x4 k))))
def f_X8_best_19s (sv : Nat → Int32) (x1 : Int32) : ((Nat → Int32) × (Nat → Int32) × (Nat → Int32) × (Nat → Int32) × (Nat → Int32) × Int32 × Int32 × Int32) → (((Nat → Int32) × (Nat → Int32) × (Nat → Int32) × (Nat → Int32) × (Nat → Int32) × Int32 × Int32 × Int32) → Option ((Nat → Int32) × (Nat → Int32) × (Nat → Int32) × (Nat → Int32) × (Nat → Int32) × Int32 × Int32)) → Option ((Nat → Int32) × (Nat → Int32) × (Nat → Int32) × (Nat → Int32) × (Nat → Int32) × Int32 × Int32) := fun t k => f_X8_best_19b sv x1 t.1 t.2.1 t.2.2.1 t.2.2.2.1 t.2.2.2.2.1 t.2.2.2.2.2.1 t.2.2.2.2.2.2.1 t.2.2.2.2.2.2.2 k
def f_X8_best_19 (sv : Nat → Int32) (height : Nat → Int32) (speed : Nat → Int32) (top : Nat → Int32) (low : Nat → Int32) (motion : Nat → Int32) (x1 : Int32) (x2 : Int32) (x3 : Int32) (x4 : Int32) : Option (Int32 × (Nat → Int32) × (Nat → Int32) × (Nat → Int32) × (Nat → Int32) × (Nat → Int32)) := obx (vm_it (f_X8_best_19s sv x1) FU (height, speed, top, low, motion, x2, x3, x4)) (un7 (fun height speed top low motion x2 x3 => f_X8_best_70 height speed top low motion x1 x2 x3))
def f_X8_best (sv : Nat → Int32) (height : Nat → Int32) (speed : Nat → Int32) (top : Nat → Int32) (low : Nat → Int32) (motion : Nat → Int32) (x1 : Int32) : Option (Int32 × (Nat → Int32) × (Nat → Int32) × (Nat → Int32) × (Nat → Int32) × (Nat → Int32)) := ob1 (f_X8_in ((x1).toInt64) 0 1) (fun r_13 => if r_13 = 0 then (some ((-1), height, speed, top, low, motion)) else (f_X8_best_19 sv height speed top low motion x1 0 (-1) 2))
set_option maxHeartbeats 4000000 in
set_option maxRecDepth 100000 in
theorem c_X8_best (l : Launch) (Γ : GE) (sz : Nat) (q0 q1 q2 q3 q4 q5 q6 d0 d1 d2 d3 d4 d5 d6 d7 d8 : Nat) (length : Int32) (undoMany : Int32) (zeroKept : Int32) (oneKept : Int32) (seen : Int32) (spot : Int32) (kind : Int32) (begin : Int32) (letters : Int64) (figures : Int32) (value : Int32) (plated : Int32) (driven : Int32) (rows : Int32) (periods : Int32) (leastPeriod : Int32) (sv : Nat → Int32) (height : Nat → Int32) (speed : Nat → Int32) (top : Nat → Int32) (low : Nat → Int32) (motion : Nat → Int32) (x1 : Int32) (ro : Int32) (o_height : Nat → Int32) (o_speed : Nat → Int32) (o_top : Nat → Int32) (o_low : Nat → Int32) (o_motion : Nat → Int32) (hf : f_X8_best sv height speed top low motion x1 = some (ro, o_height, o_speed, o_top, o_low, o_motion)) : MetI l yX8_best wsX8_best ({ frames := 5, cells := 0, slots := 0, locals := 123 } : Room) Γ [.ref q0, .int x1] (wd_X8_best Γ q0 q1 q2 q3 q4 q5 q6 d0 d1 d2 d3 d4 d5 d6 d7 d8 length undoMany zeroKept oneKept seen spot kind begin letters figures value plated driven rows periods leastPeriod sv height speed top low motion) (wd_X8_best Γ q0 q1 q2 q3 q4 q5 q6 d0 d1 d2 d3 d4 d5 d6 d7 d8 length undoMany zeroKept oneKept seen spot kind begin letters figures value plated driven rows periods leastPeriod sv o_height o_speed o_top o_low o_motion) sz ro := by
  refine Met.ofW (cc := cX8_best) (maxL := 6) (ret := (some .int)) (by decide) rfl ?_
  intro p e s m args below meth c s₁ B hml hv
  obtain ⟨rfl, hsz, hE, hP, hD⟩ := hv
  have hx := B.exec
  have hb := B.bytes
  have hr := B.returns
  have hts := atoms_spec (ws := wsX8_best) B.pre
  have hown : s.vm.findClass RX8 = some m.cls := findClass_of_methodNamed B.named
  have hlocks := B.notSynchronized
  subst hsz
  generalize hAe : va_A (wd_X8_best Γ q0 q1 q2 q3 q4 q5 q6 d0 d1 d2 d3 d4 d5 d6 d7 d8 length undoMany zeroKept oneKept seen spot kind begin letters figures value plated driven rows periods leastPeriod sv height speed top low motion) s.heap.size = A at hE hD ⊢
  have hA : ∀ q : Nat, s.heap.size ≤ q → A q := fun q h => by rw [← hAe]; exact Or.inr h
  clear hAe
  have hS : va_S A s.heap s.heap [] := va_S.rf
  have hK := hE.1
  have hl := lv_entry ([.ref q0, .int x1]) (n := 6) (Nat.le_of_ble_eq_true rfl)
  rw [lg_entry_eq]
  generalize (lg_sl ([.ref q0, .int x1]) ++ List.replicate (6 - (lg_sl ([.ref q0, .int x1])).length) Slot.unset).toArray = ls at hl ⊢
  have hl : lv_has ls 6 [(0, .ref q0), (1, .int x1)] := hl
  have hi8 : ∀ w ∈ u_ws RX8 TX8 31, w ∈ wsX8_best := fun w h => (List.mem_cons_of_mem _ (List.mem_append_right _ h))
  obtain ⟨out, hout⟩ : ∃ o, o = (ro, o_height, o_speed, o_top, o_low, o_motion) := ⟨_, rfl⟩
  rw [← hout] at hf
  obtain ⟨QQ, hQQ⟩ : ∃ Q, Q = MQ below (va_Qi (fun (r' : Int32) (_ : Unit) => r' = ro) (CQ Γ (wd_X8_best Γ q0 q1 q2 q3 q4 q5 q6 d0 d1 d2 d3 d4 d5 d6 d7 d8 length undoMany zeroKept oneKept seen spot kind begin letters figures value plated driven rows periods leastPeriod sv o_height o_speed o_top o_low o_motion) A) A) (([.ref q0, .int x1] : List Value).toArray) s 0 0 A := ⟨_, rfl⟩
  show W p l e ({ frames := 5, cells := 0, slots := 0, locals := 123 } : Room) s m (([.ref q0, .int x1] : List Value).toArray) below meth c s.heap [] 0 0 (MQ below _ (([.ref q0, .int x1] : List Value).toArray) s 0 0 A) (F0 m 0 ls [])
  rw [← hQQ]
  have K_79 : ∀ (height : Nat → Int32) (speed : Nat → Int32) (top : Nat → Int32) (low : Nat → Int32) (motion : Nat → Int32) (s0 : Int32) {H : Heap} {locs : List Loc} {ls : Array Slot}, va_P Γ.1 vwCl (wd_X8_best Γ q0 q1 q2 q3 q4 q5 q6 d0 d1 d2 d3 d4 d5 d6 d7 d8 length undoMany zeroKept oneKept seen spot kind begin letters figures value plated driven rows periods leastPeriod sv height speed top low motion) H → va_D A (wd_X8_best Γ q0 q1 q2 q3 q4 q5 q6 d0 d1 d2 d3 d4 d5 d6 d7 d8 length undoMany zeroKept oneKept seen spot kind begin letters figures value plated driven rows periods leastPeriod sv height speed top low motion) → va_S A s.heap H locs → lv_has ls 6 [] → f_X8_best_79 height speed top low motion s0 = some out → W p l e ({ frames := 5, cells := 0, slots := 0, locals := 123 } : Room) s m ([.ref q0, .int x1] : List Value).toArray below meth c H locs 0 0 QQ (F0 m 79 ls [.int s0]) := by
    intro height speed top low motion s0 H locs ls hP hD hS hl hf
    unfold f_X8_best_79 at hf
    subst hout; obtain ⟨rfl, rfl, rfl, rfl, rfl, rfl⟩ := rt6 hf
    subst hQQ
    exact W.iret hx hb hr (fun t ht hW => ⟨⟨_, (), rfl, rfl, by rw [ht]; exact hP, hD⟩, hS.F ht⟩) hS.2.2 dX8_best_79
  have K_70 : ∀ (height : Nat → Int32) (speed : Nat → Int32) (top : Nat → Int32) (low : Nat → Int32) (motion : Nat → Int32) (x2 : Int32) (x3 : Int32) {H : Heap} {locs : List Loc} {ls : Array Slot}, va_P Γ.1 vwCl (wd_X8_best Γ q0 q1 q2 q3 q4 q5 q6 d0 d1 d2 d3 d4 d5 d6 d7 d8 length undoMany zeroKept oneKept seen spot kind begin letters figures value plated driven rows periods leastPeriod sv height speed top low motion) H → va_D A (wd_X8_best Γ q0 q1 q2 q3 q4 q5 q6 d0 d1 d2 d3 d4 d5 d6 d7 d8 length undoMany zeroKept oneKept seen spot kind begin letters figures value plated driven rows periods leastPeriod sv height speed top low motion) → va_S A s.heap H locs → lv_has ls 6 [(1, .int x1), (2, .int x2), (3, .int x3)] → f_X8_best_70 height speed top low motion x1 x2 x3 = some out → W p l e ({ frames := 5, cells := 0, slots := 0, locals := 123 } : Room) s m ([.ref q0, .int x1] : List Value).toArray below meth c H locs 0 0 QQ (F0 m 70 ls []) := by
    intro height speed top low motion x2 x3 H locs ls hP hD hS hl hf
    unfold f_X8_best_70 at hf
    refine lv_iload_n hx hb dX8_best_70 rfl (lv_at hl 0 rfl) ?_
    refine lv_if_ne (tgt := 78) hx hb dX8_best_71 (by decide) (fun hc_1 => ?_) (fun hc_1 => ?_)
    · have hf := vm_neg hc_1 hf
      refine lv_iload_n hx hb dX8_best_78 rfl (lv_at hl 2 rfl) ?_
      exact K_79 height speed top low motion x3 hP hD hS (lv_sub hl [] rfl) hf
    · have hf := vm_pos hc_1 hf
      refine lv_iload_n hx hb dX8_best_74 rfl (lv_at hl 1 rfl) ?_
      refine lv_goto (tgt := 79) hx hb dX8_best_75 (by decide) ?_
      exact K_79 height speed top low motion x2 hP hD hS (lv_sub hl [] rfl) hf
  have K_19 : ∀ (height : Nat → Int32) (speed : Nat → Int32) (top : Nat → Int32) (low : Nat → Int32) (motion : Nat → Int32) (x2 : Int32) (x3 : Int32) (x4 : Int32) {H : Heap} {locs : List Loc} {ls : Array Slot}, va_P Γ.1 vwCl (wd_X8_best Γ q0 q1 q2 q3 q4 q5 q6 d0 d1 d2 d3 d4 d5 d6 d7 d8 length undoMany zeroKept oneKept seen spot kind begin letters figures value plated driven rows periods leastPeriod sv height speed top low motion) H → va_D A (wd_X8_best Γ q0 q1 q2 q3 q4 q5 q6 d0 d1 d2 d3 d4 d5 d6 d7 d8 length undoMany zeroKept oneKept seen spot kind begin letters figures value plated driven rows periods leastPeriod sv height speed top low motion) → va_S A s.heap H locs → lv_has ls 6 [(0, .ref q0), (1, .int x1), (2, .int x2), (3, .int x3), (4, .int x4)] → f_X8_best_19 sv height speed top low motion x1 x2 x3 x4 = some out → W p l e ({ frames := 5, cells := 0, slots := 0, locals := 123 } : Room) s m ([.ref q0, .int x1] : List Value).toArray below meth c H locs 0 0 QQ (F0 m 19 ls []) := by
    intro height speed top low motion x2 x3 x4 H locs ls hP hD hS hl hf
    unfold f_X8_best_19 at hf
    obtain ⟨ex19, h1, hX19⟩ := obx_some hf
    have LP : ∀ (n : Nat) (height : Nat → Int32) (speed : Nat → Int32) (top : Nat → Int32) (low : Nat → Int32) (motion : Nat → Int32) (x2 : Int32) (x3 : Int32) (x4 : Int32)  {H : Heap} {locs : List Loc} {ls : Array Slot}, va_P Γ.1 vwCl (wd_X8_best Γ q0 q1 q2 q3 q4 q5 q6 d0 d1 d2 d3 d4 d5 d6 d7 d8 length undoMany zeroKept oneKept seen spot kind begin letters figures value plated driven rows periods leastPeriod sv height speed top low motion) H → va_D A (wd_X8_best Γ q0 q1 q2 q3 q4 q5 q6 d0 d1 d2 d3 d4 d5 d6 d7 d8 length undoMany zeroKept oneKept seen spot kind begin letters figures value plated driven rows periods leastPeriod sv height speed top low motion) → va_S A s.heap H locs → lv_has ls 6 [(0, .ref q0), (1, .int x1), (2, .int x2), (3, .int x3), (4, .int x4)] → vm_it (f_X8_best_19s sv x1) n (height, speed, top, low, motion, x2, x3, x4) = some ex19 → W p l e ({ frames := 5, cells := 0, slots := 0, locals := 123 } : Room) s m ([.ref q0, .int x1] : List Value).toArray below meth c H locs 0 0 QQ (F0 m 19 ls []) := by
      clear hP hD hS hl hf h1
      intro n
      induction n with
      | zero => intro height speed top low motion x2 x3 x4 H locs ls hP hD hS hl hf; exact (vm_it_0 hf).elim
      | succ n ih =>
        intro height speed top low motion x2 x3 x4 H locs ls hP hD hS hl hf
        have hf : f_X8_best_19b sv x1 height speed top low motion x2 x3 x4 (vm_it (f_X8_best_19s sv x1) n) = some ex19 := hf
        have K_63 : ∀ (height : Nat → Int32) (speed : Nat → Int32) (top : Nat → Int32) (low : Nat → Int32) (motion : Nat → Int32) (x2 : Int32) (x4 : Int32) (s0 : Int32) {H : Heap} {locs : List Loc} {ls : Array Slot}, va_P Γ.1 vwCl (wd_X8_best Γ q0 q1 q2 q3 q4 q5 q6 d0 d1 d2 d3 d4 d5 d6 d7 d8 length undoMany zeroKept oneKept seen spot kind begin letters figures value plated driven rows periods leastPeriod sv height speed top low motion) H → va_D A (wd_X8_best Γ q0 q1 q2 q3 q4 q5 q6 d0 d1 d2 d3 d4 d5 d6 d7 d8 length undoMany zeroKept oneKept seen spot kind begin letters figures value plated driven rows periods leastPeriod sv height speed top low motion) → va_S A s.heap H locs → lv_has ls 6 [(0, .ref q0), (1, .int x1), (2, .int x2), (4, .int x4)] → f_X8_best_63 sv height speed top low motion x1 x2 x4 s0 (vm_it (f_X8_best_19s sv x1) n) = some ex19 → W p l e ({ frames := 5, cells := 0, slots := 0, locals := 123 } : Room) s m ([.ref q0, .int x1] : List Value).toArray below meth c H locs 0 0 QQ (F0 m 63 ls [.int s0]) := by
          intro height speed top low motion x2 x4 s0 H locs ls hP hD hS hl hf
          unfold f_X8_best_63 at hf
          refine lv_istore_n (lv' := [(3, .int s0), (0, .ref q0), (1, .int x1), (2, .int x2), (4, .int x4)]) hx hb dX8_best_63 rfl hl (by decide) rfl (fun ls hl => ?_)
          refine lv_iinc (v := (x4 + 1)) (lv' := [(4, .int (x4 + 1)), (3, .int s0), (0, .ref q0), (1, .int x1), (2, .int x2)]) hx hb dX8_best_64 hl (k := 4) rfl rfl (by decide) rfl (fun ls hl => ?_)
          refine lv_goto (tgt := 19) hx hb dX8_best_67 (by decide) ?_
          exact ih height speed top low motion x2 s0 (x4 + 1) hP hD hS (lv_sub hl [2, 3, 4, 1, 0] rfl) hf
        have K_50 : ∀ (height : Nat → Int32) (speed : Nat → Int32) (top : Nat → Int32) (low : Nat → Int32) (motion : Nat → Int32) (x3 : Int32) (x4 : Int32) (x5 : Int32) (s0 : Int32) {H : Heap} {locs : List Loc} {ls : Array Slot}, va_P Γ.1 vwCl (wd_X8_best Γ q0 q1 q2 q3 q4 q5 q6 d0 d1 d2 d3 d4 d5 d6 d7 d8 length undoMany zeroKept oneKept seen spot kind begin letters figures value plated driven rows periods leastPeriod sv height speed top low motion) H → va_D A (wd_X8_best Γ q0 q1 q2 q3 q4 q5 q6 d0 d1 d2 d3 d4 d5 d6 d7 d8 length undoMany zeroKept oneKept seen spot kind begin letters figures value plated driven rows periods leastPeriod sv height speed top low motion) → va_S A s.heap H locs → lv_has ls 6 [(0, .ref q0), (1, .int x1), (3, .int x3), (4, .int x4), (5, .int x5)] → f_X8_best_50 sv height speed top low motion x1 x3 x4 x5 s0 (vm_it (f_X8_best_19s sv x1) n) = some ex19 → W p l e ({ frames := 5, cells := 0, slots := 0, locals := 123 } : Room) s m ([.ref q0, .int x1] : List Value).toArray below meth c H locs 0 0 QQ (F0 m 50 ls [.int s0]) := by
          intro height speed top low motion x3 x4 x5 s0 H locs ls hP hD hS hl hf
          unfold f_X8_best_50 at hf
          refine lv_istore_n (lv' := [(2, .int s0), (0, .ref q0), (1, .int x1), (3, .int x3), (4, .int x4), (5, .int x5)]) hx hb dX8_best_50 rfl hl (by decide) rfl (fun ls hl => ?_)
          refine lv_iload hx hb dX8_best_51 (lv_at hl 5 rfl) ?_
          refine lv_iload_n hx hb dX8_best_53 rfl (lv_at hl 3 rfl) ?_
          refine lv_icmp_le (tgt := 62) hx hb dX8_best_54 (by decide) (fun hc_2 => ?_) (fun hc_2 => ?_)
          · have hf := vm_pos hc_2 hf
            refine lv_iload_n hx hb dX8_best_62 rfl (lv_at hl 3 rfl) ?_
            exact K_63 height speed top low motion s0 x4 x3 hP hD hS (lv_sub hl [1, 2, 0, 4] rfl) hf
          · have hf := vm_neg hc_2 hf
            refine lv_iload hx hb dX8_best_57 (lv_at hl 5 rfl) ?_
            refine lv_goto (tgt := 63) hx hb dX8_best_59 (by decide) ?_
            exact K_63 height speed top low motion s0 x4 x5 hP hD hS (lv_sub hl [1, 2, 0, 4] rfl) hf
        unfold f_X8_best_19b at hf
        refine lv_iload hx hb dX8_best_19 (lv_at hl 4 rfl) ?_
        refine lv_bipush (v := 21) hx hb dX8_best_21 (by decide) ?_
        refine lv_icmp_ge (tgt := 70) hx hb dX8_best_23 (by decide) (fun hc_3 => ?_) (fun hc_3 => ?_)
        · have hf := vm_pos hc_3 hf
          have hX := hX19
          rw [← Option.some.inj hf] at hX
          exact K_70 height speed top low motion x2 x3 hP hD hS (lv_sub hl [1, 2, 3] rfl) hX
        · have hf := vm_neg hc_3 hf
          refine lv_aload_n hx hb dX8_best_26 rfl (lv_at hl 0 rfl) ?_
          refine lv_iload hx hb dX8_best_27 (lv_at hl 4 rfl) ?_
          obtain ⟨height_4, speed_5, top_6, low_7, motion_8, hq_9, hf⟩ := ob5_some hf
          refine vm_cVv (isC := [0, 1, 2, 3, 4, 5, 6]) (wc := (wd_X8_runs Γ q0 q1 q2 q3 q4 q5 q6 d0 d1 d2 d3 d4 d5 d6 d7 d8 length undoMany zeroKept oneKept seen spot kind begin letters figures value plated driven rows periods leastPeriod sv height speed top low motion)) (w1 := (wd_X8_runs Γ q0 q1 q2 q3 q4 q5 q6 d0 d1 d2 d3 d4 d5 d6 d7 d8 length undoMany zeroKept oneKept seen spot kind begin letters figures value plated driven rows periods leastPeriod sv height_4 speed_5 top_6 low_7 motion_8)) (As := [.int x4]) (rest := []) ⟨hx, hb, hml, hown, hts⟩ hE hP hD hS hA rfl rfl rfl (c_X8_runs l Γ _ q0 q1 q2 q3 q4 q5 q6 d0 d1 d2 d3 d4 d5 d6 d7 d8 length undoMany zeroKept oneKept seen spot kind begin letters figures value plated driven rows periods leastPeriod sv height speed top low motion x4 height_4 speed_5 top_6 low_7 motion_8 hq_9) (cwV 1 hts gX8_best_X8_runs rfl rfl rfl (by decide +kernel) ⟨Nat.le_of_ble_eq_true rfl, Nat.le_of_ble_eq_true rfl⟩) (va_recv (ci := 8) (q0 := 0) hK hP rfl rfl) rfl hl.1 rfl (Nat.le_of_ble_eq_true rfl) dX8_best_29 ⟨Nat.zero_le _, Nat.zero_le _⟩ (fun H locs hP hD hS => ?_)
          have hP : va_P Γ.1 vwCl (wd_X8_best Γ q0 q1 q2 q3 q4 q5 q6 d0 d1 d2 d3 d4 d5 d6 d7 d8 length undoMany zeroKept oneKept seen spot kind begin letters figures value plated driven rows periods leastPeriod sv height_4 speed_5 top_6 low_7 motion_8) H := hP
          have hD : va_D A (wd_X8_best Γ q0 q1 q2 q3 q4 q5 q6 d0 d1 d2 d3 d4 d5 d6 d7 d8 length undoMany zeroKept oneKept seen spot kind begin letters figures value plated driven rows periods leastPeriod sv height_4 speed_5 top_6 low_7 motion_8) := hD
          refine lv_aload_n hx hb dX8_best_32 rfl (lv_at hl 0 rfl) ?_
          obtain ⟨r_10, hq_11, hf⟩ := ob1_some hf
          refine vm_cVi (isC := [0, 1, 6]) (wc := (wd_X8_likeness Γ q0 q1 q6 d0 d1 d2 d3 d4 d5 q2 q3 q4 q5 d6 d7 d8 length undoMany zeroKept oneKept seen spot kind begin letters figures value plated driven rows periods leastPeriod sv motion_8)) (w1 := (wd_X8_likeness Γ q0 q1 q6 d0 d1 d2 d3 d4 d5 q2 q3 q4 q5 d6 d7 d8 length undoMany zeroKept oneKept seen spot kind begin letters figures value plated driven rows periods leastPeriod sv motion_8)) (As := []) (rest := []) ⟨hx, hb, hml, hown, hts⟩ hE hP hD hS hA rfl rfl rfl (c_X8_likeness l Γ _ q0 q1 q6 d0 d1 d2 d3 d4 d5 q2 q3 q4 q5 d6 d7 d8 length undoMany zeroKept oneKept seen spot kind begin letters figures value plated driven rows periods leastPeriod sv motion_8 r_10 hq_11) (cwV 0 hts gX8_best_X8_likeness rfl rfl rfl (by decide +kernel) ⟨Nat.le_of_ble_eq_true rfl, Nat.le_of_ble_eq_true rfl⟩) (va_recv (ci := 8) (q0 := 0) hK hP rfl rfl) rfl hl.1 rfl (Nat.le_of_ble_eq_true rfl) dX8_best_33 ⟨Nat.zero_le _, Nat.zero_le _⟩ (fun H locs hP hD hS => ?_)
          have hP : va_P Γ.1 vwCl (wd_X8_best Γ q0 q1 q2 q3 q4 q5 q6 d0 d1 d2 d3 d4 d5 d6 d7 d8 length undoMany zeroKept oneKept seen spot kind begin letters figures value plated driven rows periods leastPeriod sv height_4 speed_5 top_6 low_7 motion_8) H := hP
          have hD : va_D A (wd_X8_best Γ q0 q1 q2 q3 q4 q5 q6 d0 d1 d2 d3 d4 d5 d6 d7 d8 length undoMany zeroKept oneKept seen spot kind begin letters figures value plated driven rows periods leastPeriod sv height_4 speed_5 top_6 low_7 motion_8) := hD
          refine lv_istore (lv' := [(5, .int r_10), (0, .ref q0), (1, .int x1), (2, .int x2), (3, .int x3), (4, .int x4)]) hx hb dX8_best_36 hl (by decide) rfl (fun ls hl => ?_)
          refine lv_iload hx hb dX8_best_38 (lv_at hl 0 rfl) ?_
          refine lv_iload_n hx hb dX8_best_40 rfl (lv_at hl 4 rfl) ?_
          refine lv_icmp_le (tgt := 49) hx hb dX8_best_41 (by decide) (fun hc_12 => ?_) (fun hc_12 => ?_)
          · have hf := vm_pos hc_12 hf
            refine lv_iload_n hx hb dX8_best_49 rfl (lv_at hl 3 rfl) ?_
            exact K_50 height_4 speed_5 top_6 low_7 motion_8 x3 x4 r_10 x2 hP hD hS (lv_sub hl [1, 2, 4, 5, 0] rfl) hf
          · have hf := vm_neg hc_12 hf
            refine lv_iload hx hb dX8_best_44 (lv_at hl 5 rfl) ?_
            refine lv_goto (tgt := 50) hx hb dX8_best_46 (by decide) ?_
            exact K_50 height_4 speed_5 top_6 low_7 motion_8 x3 x4 r_10 x4 hP hD hS (lv_sub hl [1, 2, 4, 5, 0] rfl) hf
    exact LP FU height speed top low motion x2 x3 x4 hP hD hS hl h1
  unfold f_X8_best at hf
  refine lv_iload_n hx hb dX8_best_0 rfl (lv_at hl 1 rfl) ?_
  refine lv_i2l hx hb dX8_best_1 rfl ?_
  refine lv_lconst (v := 0) hx hb dX8_best_2 (by decide) ?_
  refine lv_lconst (v := 1) hx hb dX8_best_3 (by decide) ?_
  obtain ⟨r_13, hq_14, hf⟩ := ob1_some hf
  refine vm_cSi (isC := []) (wc := (wd_X8_in Γ)) (w1 := (wd_X8_in Γ)) (As := [.long ((x1).toInt64), .long 0, .long 1]) (rest := []) ⟨hx, hb, hml, hown, hts⟩ hE hP hD hS hA rfl rfl rfl (c_X8_in l Γ _ ((x1).toInt64) 0 1 r_13 hq_14) (va_cwS 3 hts gX8_best_X8_in rfl rfl rfl (by decide +kernel) ⟨Nat.le_of_ble_eq_true rfl, Nat.le_of_ble_eq_true rfl⟩) rfl hl.1 rfl (Nat.le_of_ble_eq_true rfl) dX8_best_4 ⟨Nat.zero_le _, Nat.zero_le _⟩ (fun H locs hP hD hS => ?_)
  have hP : va_P Γ.1 vwCl (wd_X8_best Γ q0 q1 q2 q3 q4 q5 q6 d0 d1 d2 d3 d4 d5 d6 d7 d8 length undoMany zeroKept oneKept seen spot kind begin letters figures value plated driven rows periods leastPeriod sv height speed top low motion) H := hP
  have hD : va_D A (wd_X8_best Γ q0 q1 q2 q3 q4 q5 q6 d0 d1 d2 d3 d4 d5 d6 d7 d8 length undoMany zeroKept oneKept seen spot kind begin letters figures value plated driven rows periods leastPeriod sv height speed top low motion) := hD
  refine lv_if_ne (tgt := 12) hx hb dX8_best_7 (by decide) (fun hc_15 => ?_) (fun hc_15 => ?_)
  · have hf := vm_neg hc_15 hf
    refine lv_iconst (v := 0) hx hb dX8_best_12 (by decide) ?_
    refine lv_istore_n (lv' := [(2, .int 0), (0, .ref q0), (1, .int x1)]) hx hb dX8_best_13 rfl hl (by decide) rfl (fun ls hl => ?_)
    refine lv_iconst (v := (-1)) hx hb dX8_best_14 (by decide) ?_
    refine lv_istore_n (lv' := [(3, .int (-1)), (2, .int 0), (0, .ref q0), (1, .int x1)]) hx hb dX8_best_15 rfl hl (by decide) rfl (fun ls hl => ?_)
    refine lv_iconst (v := 2) hx hb dX8_best_16 (by decide) ?_
    refine lv_istore (lv' := [(4, .int 2), (3, .int (-1)), (2, .int 0), (0, .ref q0), (1, .int x1)]) hx hb dX8_best_17 hl (by decide) rfl (fun ls hl => ?_)
    exact K_19 height speed top low motion 0 (-1) 2 hP hD hS (lv_sub hl [3, 4, 2, 1, 0] rfl) hf
  · have hf := vm_pos hc_15 hf
    refine lv_iconst (v := (-1)) hx hb dX8_best_10 (by decide) ?_
    subst hout; obtain ⟨rfl, rfl, rfl, rfl, rfl, rfl⟩ := rt6 hf
    subst hQQ
    exact W.iret hx hb hr (fun t ht hW => ⟨⟨_, (), rfl, rfl, by rw [ht]; exact hP, hD⟩, hS.F ht⟩) hS.2.2 dX8_best_11
def wd_X8_lies (Γ : GE) (q0 q1 q2 q3 q4 q5 q6 q7 q8 d0 d1 d2 d3 d4 d5 d6 : Nat) (length : Int32) (undoMany : Int32) (zeroKept : Int32) (oneKept : Int32) (seen : Int32) (spot : Int32) (kind : Int32) (begin : Int32) (letters : Int64) (figures : Int32) (value : Int32) (plated : Int32) (driven : Int32) (rows : Int32) (periods : Int32) (leastPeriod : Int32) (sv : Nat → Int32) (height : Nat → Int32) (speed : Nat → Int32) (top : Nat → Int32) (low : Nat → Int32) (motion : Nat → Int32) (lie : Nat → Int32) (tried : Nat → Int32) : va_W := [(q0, .inr (8, [.int length, .ref d0, .ref q1, .ref d1, .ref d2, .int undoMany, .ref d3, .int zeroKept, .int oneKept, .ref d4, .ref d5, .int seen, .int spot, .int kind, .int begin, .long letters, .int figures, .int value, .int plated, .int driven, .int rows, .ref q2, .ref q3, .ref q4, .ref q5, .ref q6, .ref q7, .ref q8, .ref d6, .int periods, .int leastPeriod])), (q1, .inl (Γ.2.1 0, 81, .inl sv)), (q2, .inl (Γ.2.1 0, 36, .inl height)), (q3, .inl (Γ.2.1 0, 36, .inl speed)), (q4, .inl (Γ.2.1 0, 36, .inl top)), (q5, .inl (Γ.2.1 0, 36, .inl low)), (q6, .inl (Γ.2.1 0, 36, .inl motion)), (q7, .inl (Γ.2.1 0, 36, .inl lie)), (q8, .inl (Γ.2.1 0, 36, .inl tried))]
def f_X8_lies_32 (height : Nat → Int32) (speed : Nat → Int32) (top : Nat → Int32) (low : Nat → Int32) (motion : Nat → Int32) (lie : Nat → Int32) (tried : Nat → Int32) : Option (Int32 × (Nat → Int32) × (Nat → Int32) × (Nat → Int32) × (Nat → Int32) × (Nat → Int32) × (Nat → Int32) × (Nat → Int32)) := some ((-9), height, speed, top, low, motion, lie, tried)
def f_X8_lies_24 (height : Nat → Int32) (speed : Nat → Int32) (top : Nat → Int32) (low : Nat → Int32) (motion : Nat → Int32) (lie : Nat → Int32) (tried : Nat → Int32) (x1 : Int32) : Option (Int32 × (Nat → Int32) × (Nat → Int32) × (Nat → Int32) × (Nat → Int32) × (Nat → Int32) × (Nat → Int32) × (Nat → Int32)) := some (x1, height, speed, top, low, motion, lie, tried)
def f_X8_lies_6b (sv : Nat → Int32) (height : Nat → Int32) (speed : Nat → Int32) (top : Nat → Int32) (low : Nat → Int32) (motion : Nat → Int32) (lie : Nat → Int32) (tried : Nat → Int32) (x1 : Int32) (k : (((Nat → Int32) × (Nat → Int32) × Int32) → Option (((Nat → Int32) × (Nat → Int32)) ⊕ ((Nat → Int32) × (Nat → Int32) × Int32)))) : Option (((Nat → Int32) × (Nat → Int32)) ⊕ ((Nat → Int32) × (Nat → Int32) × Int32)) := if 100 ≤ x1 then (some (Sum.inl (lie, tried))) else (ob3 (f_X8_shakesOnce_t sv motion lie tried 0) (fun r_2 lie_3 tried_4 => if r_2 = 0 then (some (Sum.inr (lie_3, tried_4, x1))) else (k (lie_3, tried_4, (x1 + 1)))))
def f_X8_lies_6s (sv : Nat → Int32) (height : Nat → Int32) (speed : Nat → Int32) (top : Nat → Int32) (low : Nat → Int32) (motion : Nat → Int32) : ((Nat → Int32) × (Nat → Int32) × Int32) → (((Nat → Int32) × (Nat → Int32) × Int32) → Option (((Nat → Int32) × (Nat → Int32)) ⊕ ((Nat → Int32) × (Nat → Int32) × Int32))) → Option (((Nat → Int32) × (Nat → Int32)) ⊕ ((Nat → Int32) × (Nat → Int32) × Int32)) := fun t k => f_X8_lies_6b sv height speed top low motion t.1 t.2.1 t.2.2 k
def f_X8_lies_6 (sv : Nat → Int32) (height : Nat → Int32) (speed : Nat → Int32) (top : Nat → Int32) (low : Nat → Int32) (motion : Nat → Int32) (lie : Nat → Int32) (tried : Nat → Int32) (x1 : Int32) : Option (Int32 × (Nat → Int32) × (Nat → Int32) × (Nat → Int32) × (Nat → Int32) × (Nat → Int32) × (Nat → Int32) × (Nat → Int32)) := obx (vm_it (f_X8_lies_6s sv height speed top low motion) FU (lie, tried, x1)) (Sum.elim (un2 (fun lie tried => f_X8_lies_32 height speed top low motion lie tried)) (un3 (fun lie tried x1 => f_X8_lies_24 height speed top low motion lie tried x1)))
def f_X8_lies (sv : Nat → Int32) (height : Nat → Int32) (speed : Nat → Int32) (top : Nat → Int32) (low : Nat → Int32) (motion : Nat → Int32) (lie : Nat → Int32) (tried : Nat → Int32) : Option (Int32 × (Nat → Int32) × (Nat → Int32) × (Nat → Int32) × (Nat → Int32) × (Nat → Int32) × (Nat → Int32) × (Nat → Int32)) := ob6 (f_X8_tries sv height speed top low motion tried) (fun height_7 speed_8 top_9 low_10 motion_11 tried_12 => f_X8_lies_6 sv height_7 speed_8 top_9 low_10 motion_11 lie tried_12 0)
set_option maxHeartbeats 4000000 in
set_option maxRecDepth 100000 in
theorem c_X8_lies (l : Launch) (Γ : GE) (sz : Nat) (q0 q1 q2 q3 q4 q5 q6 q7 q8 d0 d1 d2 d3 d4 d5 d6 : Nat) (length : Int32) (undoMany : Int32) (zeroKept : Int32) (oneKept : Int32) (seen : Int32) (spot : Int32) (kind : Int32) (begin : Int32) (letters : Int64) (figures : Int32) (value : Int32) (plated : Int32) (driven : Int32) (rows : Int32) (periods : Int32) (leastPeriod : Int32) (sv : Nat → Int32) (height : Nat → Int32) (speed : Nat → Int32) (top : Nat → Int32) (low : Nat → Int32) (motion : Nat → Int32) (lie : Nat → Int32) (tried : Nat → Int32) (ro : Int32) (o_height : Nat → Int32) (o_speed : Nat → Int32) (o_top : Nat → Int32) (o_low : Nat → Int32) (o_motion : Nat → Int32) (o_lie : Nat → Int32) (o_tried : Nat → Int32) (hf : f_X8_lies sv height speed top low motion lie tried = some (ro, o_height, o_speed, o_top, o_low, o_motion, o_lie, o_tried)) : MetI l yX8_lies wsX8_lies ({ frames := 6, cells := 0, slots := 0, locals := 144 } : Room) Γ [.ref q0] (wd_X8_lies Γ q0 q1 q2 q3 q4 q5 q6 q7 q8 d0 d1 d2 d3 d4 d5 d6 length undoMany zeroKept oneKept seen spot kind begin letters figures value plated driven rows periods leastPeriod sv height speed top low motion lie tried) (wd_X8_lies Γ q0 q1 q2 q3 q4 q5 q6 q7 q8 d0 d1 d2 d3 d4 d5 d6 length undoMany zeroKept oneKept seen spot kind begin letters figures value plated driven rows periods leastPeriod sv o_height o_speed o_top o_low o_motion o_lie o_tried) sz ro := by
  refine Met.ofW (cc := cX8_lies) (maxL := 2) (ret := (some .int)) (by decide) rfl ?_
  intro p e s m args below meth c s₁ B hml hv
  obtain ⟨rfl, hsz, hE, hP, hD⟩ := hv
  have hx := B.exec
  have hb := B.bytes
  have hr := B.returns
  have hts := atoms_spec (ws := wsX8_lies) B.pre
  have hown : s.vm.findClass RX8 = some m.cls := findClass_of_methodNamed B.named
  have hlocks := B.notSynchronized
  subst hsz
  generalize hAe : va_A (wd_X8_lies Γ q0 q1 q2 q3 q4 q5 q6 q7 q8 d0 d1 d2 d3 d4 d5 d6 length undoMany zeroKept oneKept seen spot kind begin letters figures value plated driven rows periods leastPeriod sv height speed top low motion lie tried) s.heap.size = A at hE hD ⊢
  have hA : ∀ q : Nat, s.heap.size ≤ q → A q := fun q h => by rw [← hAe]; exact Or.inr h
  clear hAe
  have hS : va_S A s.heap s.heap [] := va_S.rf
  have hK := hE.1
  have hl := lv_entry ([.ref q0]) (n := 2) (Nat.le_of_ble_eq_true rfl)
  rw [lg_entry_eq]
  generalize (lg_sl ([.ref q0]) ++ List.replicate (2 - (lg_sl ([.ref q0])).length) Slot.unset).toArray = ls at hl ⊢
  have hl : lv_has ls 2 [(0, .ref q0)] := hl
  have hi8 : ∀ w ∈ u_ws RX8 TX8 31, w ∈ wsX8_lies := fun w h => (List.mem_cons_of_mem _ (List.mem_append_right _ h))
  obtain ⟨out, hout⟩ : ∃ o, o = (ro, o_height, o_speed, o_top, o_low, o_motion, o_lie, o_tried) := ⟨_, rfl⟩
  rw [← hout] at hf
  obtain ⟨QQ, hQQ⟩ : ∃ Q, Q = MQ below (va_Qi (fun (r' : Int32) (_ : Unit) => r' = ro) (CQ Γ (wd_X8_lies Γ q0 q1 q2 q3 q4 q5 q6 q7 q8 d0 d1 d2 d3 d4 d5 d6 length undoMany zeroKept oneKept seen spot kind begin letters figures value plated driven rows periods leastPeriod sv o_height o_speed o_top o_low o_motion o_lie o_tried) A) A) (([.ref q0] : List Value).toArray) s 0 0 A := ⟨_, rfl⟩
  show W p l e ({ frames := 6, cells := 0, slots := 0, locals := 144 } : Room) s m (([.ref q0] : List Value).toArray) below meth c s.heap [] 0 0 (MQ below _ (([.ref q0] : List Value).toArray) s 0 0 A) (F0 m 0 ls [])
  rw [← hQQ]
  have K_32 : ∀ (height : Nat → Int32) (speed : Nat → Int32) (top : Nat → Int32) (low : Nat → Int32) (motion : Nat → Int32) (lie : Nat → Int32) (tried : Nat → Int32) {H : Heap} {locs : List Loc} {ls : Array Slot}, va_P Γ.1 vwCl (wd_X8_lies Γ q0 q1 q2 q3 q4 q5 q6 q7 q8 d0 d1 d2 d3 d4 d5 d6 length undoMany zeroKept oneKept seen spot kind begin letters figures value plated driven rows periods leastPeriod sv height speed top low motion lie tried) H → va_D A (wd_X8_lies Γ q0 q1 q2 q3 q4 q5 q6 q7 q8 d0 d1 d2 d3 d4 d5 d6 length undoMany zeroKept oneKept seen spot kind begin letters figures value plated driven rows periods leastPeriod sv height speed top low motion lie tried) → va_S A s.heap H locs → lv_has ls 2 [] → f_X8_lies_32 height speed top low motion lie tried = some out → W p l e ({ frames := 6, cells := 0, slots := 0, locals := 144 } : Room) s m ([.ref q0] : List Value).toArray below meth c H locs 0 0 QQ (F0 m 32 ls []) := by
    intro height speed top low motion lie tried H locs ls hP hD hS hl hf
    unfold f_X8_lies_32 at hf
    refine lv_bipush (v := (-9)) hx hb dX8_lies_32 (by decide) ?_
    subst hout; obtain ⟨rfl, rfl, rfl, rfl, rfl, rfl, rfl, rfl⟩ := rt8 hf
    subst hQQ
    exact W.iret hx hb hr (fun t ht hW => ⟨⟨_, (), rfl, rfl, by rw [ht]; exact hP, hD⟩, hS.F ht⟩) hS.2.2 dX8_lies_34
  have K_24 : ∀ (height : Nat → Int32) (speed : Nat → Int32) (top : Nat → Int32) (low : Nat → Int32) (motion : Nat → Int32) (lie : Nat → Int32) (tried : Nat → Int32) (x1 : Int32) {H : Heap} {locs : List Loc} {ls : Array Slot}, va_P Γ.1 vwCl (wd_X8_lies Γ q0 q1 q2 q3 q4 q5 q6 q7 q8 d0 d1 d2 d3 d4 d5 d6 length undoMany zeroKept oneKept seen spot kind begin letters figures value plated driven rows periods leastPeriod sv height speed top low motion lie tried) H → va_D A (wd_X8_lies Γ q0 q1 q2 q3 q4 q5 q6 q7 q8 d0 d1 d2 d3 d4 d5 d6 length undoMany zeroKept oneKept seen spot kind begin letters figures value plated driven rows periods leastPeriod sv height speed top low motion lie tried) → va_S A s.heap H locs → lv_has ls 2 [(1, .int x1)] → f_X8_lies_24 height speed top low motion lie tried x1 = some out → W p l e ({ frames := 6, cells := 0, slots := 0, locals := 144 } : Room) s m ([.ref q0] : List Value).toArray below meth c H locs 0 0 QQ (F0 m 24 ls []) := by
    intro height speed top low motion lie tried x1 H locs ls hP hD hS hl hf
    unfold f_X8_lies_24 at hf
    refine lv_iload_n hx hb dX8_lies_24 rfl (lv_at hl 0 rfl) ?_
    subst hout; obtain ⟨rfl, rfl, rfl, rfl, rfl, rfl, rfl, rfl⟩ := rt8 hf
    subst hQQ
    exact W.iret hx hb hr (fun t ht hW => ⟨⟨_, (), rfl, rfl, by rw [ht]; exact hP, hD⟩, hS.F ht⟩) hS.2.2 dX8_lies_25
  have K_6 : ∀ (height : Nat → Int32) (speed : Nat → Int32) (top : Nat → Int32) (low : Nat → Int32) (motion : Nat → Int32) (lie : Nat → Int32) (tried : Nat → Int32) (x1 : Int32) {H : Heap} {locs : List Loc} {ls : Array Slot}, va_P Γ.1 vwCl (wd_X8_lies Γ q0 q1 q2 q3 q4 q5 q6 q7 q8 d0 d1 d2 d3 d4 d5 d6 length undoMany zeroKept oneKept seen spot kind begin letters figures value plated driven rows periods leastPeriod sv height speed top low motion lie tried) H → va_D A (wd_X8_lies Γ q0 q1 q2 q3 q4 q5 q6 q7 q8 d0 d1 d2 d3 d4 d5 d6 length undoMany zeroKept oneKept seen spot kind begin letters figures value plated driven rows periods leastPeriod sv height speed top low motion lie tried) → va_S A s.heap H locs → lv_has ls 2 [(0, .ref q0), (1, .int x1)] → f_X8_lies_6 sv height speed top low motion lie tried x1 = some out → W p l e ({ frames := 6, cells := 0, slots := 0, locals := 144 } : Room) s m ([.ref q0] : List Value).toArray below meth c H locs 0 0 QQ (F0 m 6 ls []) := by
    intro height speed top low motion lie tried x1 H locs ls hP hD hS hl hf
    unfold f_X8_lies_6 at hf
    obtain ⟨ex6, h1, hX6⟩ := obx_some hf
    have LP : ∀ (n : Nat) (lie : Nat → Int32) (tried : Nat → Int32) (x1 : Int32)  {H : Heap} {locs : List Loc} {ls : Array Slot}, va_P Γ.1 vwCl (wd_X8_lies Γ q0 q1 q2 q3 q4 q5 q6 q7 q8 d0 d1 d2 d3 d4 d5 d6 length undoMany zeroKept oneKept seen spot kind begin letters figures value plated driven rows periods leastPeriod sv height speed top low motion lie tried) H → va_D A (wd_X8_lies Γ q0 q1 q2 q3 q4 q5 q6 q7 q8 d0 d1 d2 d3 d4 d5 d6 length undoMany zeroKept oneKept seen spot kind begin letters figures value plated driven rows periods leastPeriod sv height speed top low motion lie tried) → va_S A s.heap H locs → lv_has ls 2 [(0, .ref q0), (1, .int x1)] → vm_it (f_X8_lies_6s sv height speed top low motion) n (lie, tried, x1) = some ex6 → W p l e ({ frames := 6, cells := 0, slots := 0, locals := 144 } : Room) s m ([.ref q0] : List Value).toArray below meth c H locs 0 0 QQ (F0 m 6 ls []) := by
      clear hP hD hS hl hf h1
      intro n
      induction n with
      | zero => intro lie tried x1 H locs ls hP hD hS hl hf; exact (vm_it_0 hf).elim
      | succ n ih =>
        intro lie tried x1 H locs ls hP hD hS hl hf
        have hf : f_X8_lies_6b sv height speed top low motion lie tried x1 (vm_it (f_X8_lies_6s sv height speed top low motion) n) = some ex6 := hf
        unfold f_X8_lies_6b at hf
        refine lv_iload_n hx hb dX8_lies_6 rfl (lv_at hl 1 rfl) ?_
        refine lv_bipush (v := 100) hx hb dX8_lies_7 (by decide) ?_
        refine lv_icmp_ge (tgt := 32) hx hb dX8_lies_9 (by decide) (fun hc_1 => ?_) (fun hc_1 => ?_)
        · have hf := vm_pos hc_1 hf
          have hX := hX6
          rw [← Option.some.inj hf] at hX
          exact K_32 height speed top low motion lie tried hP hD hS (lv_sub hl [] rfl) hX
        · have hf := vm_neg hc_1 hf
          refine lv_aload_n hx hb dX8_lies_12 rfl (lv_at hl 0 rfl) ?_
          refine lv_aload_n hx hb dX8_lies_13 rfl (lv_at hl 0 rfl) ?_
          refine va_get (D := Γ.1) (ci := 8) (v := .ref q8) (C := RX8) (T := TX8) (N := 31) hx hb hts hi8 hown hK hP 0 rfl rfl 27 (by decide) (hts (.fieldLink RX8 49 "SandPlatesModel" "tried" "[I") (List.mem_of_getElem? (i := 1) rfl)) (fun _ h9 => h9) rfl dX8_lies_14 ?_
          refine lv_iconst (v := 0) hx hb dX8_lies_17 (by decide) ?_
          obtain ⟨r_2, lie_3, tried_4, hq_5, hf⟩ := ob3_some hf
          refine vm_cVi (isC := [0, 1, 6, 7, 8]) (wc := (wd_X8_shakesOnce_t Γ q0 q1 q6 q7 q8 d0 d1 d2 d3 d4 d5 q2 q3 q4 q5 d6 length undoMany zeroKept oneKept seen spot kind begin letters figures value plated driven rows periods leastPeriod sv motion lie tried)) (w1 := (wd_X8_shakesOnce_t Γ q0 q1 q6 q7 q8 d0 d1 d2 d3 d4 d5 q2 q3 q4 q5 d6 length undoMany zeroKept oneKept seen spot kind begin letters figures value plated driven rows periods leastPeriod sv motion lie_3 tried_4)) (As := [.ref q8, .int 0]) (rest := []) ⟨hx, hb, hml, hown, hts⟩ hE hP hD hS hA rfl rfl rfl (c_X8_shakesOnce_t l Γ _ q0 q1 q6 q7 q8 d0 d1 d2 d3 d4 d5 q2 q3 q4 q5 d6 length undoMany zeroKept oneKept seen spot kind begin letters figures value plated driven rows periods leastPeriod sv motion lie tried 0 r_2 lie_3 tried_4 hq_5) (cwV 2 hts gX8_lies_X8_shakesOnce rfl rfl rfl (by decide +kernel) ⟨Nat.le_of_ble_eq_true rfl, Nat.le_of_ble_eq_true rfl⟩) (va_recv (ci := 8) (q0 := 0) hK hP rfl rfl) rfl hl.1 rfl (Nat.le_of_ble_eq_true rfl) dX8_lies_18 ⟨Nat.zero_le _, Nat.zero_le _⟩ (fun H locs hP hD hS => ?_)
          have hP : va_P Γ.1 vwCl (wd_X8_lies Γ q0 q1 q2 q3 q4 q5 q6 q7 q8 d0 d1 d2 d3 d4 d5 d6 length undoMany zeroKept oneKept seen spot kind begin letters figures value plated driven rows periods leastPeriod sv height speed top low motion lie_3 tried_4) H := hP
          have hD : va_D A (wd_X8_lies Γ q0 q1 q2 q3 q4 q5 q6 q7 q8 d0 d1 d2 d3 d4 d5 d6 length undoMany zeroKept oneKept seen spot kind begin letters figures value plated driven rows periods leastPeriod sv height speed top low motion lie_3 tried_4) := hD
          refine lv_if_ne (tgt := 26) hx hb dX8_lies_21 (by decide) (fun hc_6 => ?_) (fun hc_6 => ?_)
          · have hf := vm_neg hc_6 hf
            refine lv_iinc (v := (x1 + 1)) (lv' := [(1, .int (x1 + 1)), (0, .ref q0)]) hx hb dX8_lies_26 hl (k := 1) rfl rfl (by decide) rfl (fun ls hl => ?_)
            refine lv_goto (tgt := 6) hx hb dX8_lies_29 (by decide) ?_
            exact ih lie_3 tried_4 (x1 + 1) hP hD hS (lv_sub hl [1, 0] rfl) hf
          · have hf := vm_pos hc_6 hf
            have hX := hX6
            rw [← Option.some.inj hf] at hX
            exact K_24 height speed top low motion lie_3 tried_4 x1 hP hD hS (lv_sub hl [1] rfl) hX
    exact LP FU lie tried x1 hP hD hS hl h1
  unfold f_X8_lies at hf
  refine lv_aload_n hx hb dX8_lies_0 rfl (lv_at hl 0 rfl) ?_
  obtain ⟨height_7, speed_8, top_9, low_10, motion_11, tried_12, hq_13, hf⟩ := ob6_some hf
  refine vm_cVv (isC := [0, 1, 2, 3, 4, 5, 6, 8]) (wc := (wd_X8_tries Γ q0 q1 q2 q3 q4 q5 q6 q8 d0 d1 d2 d3 d4 d5 q7 d6 length undoMany zeroKept oneKept seen spot kind begin letters figures value plated driven rows periods leastPeriod sv height speed top low motion tried)) (w1 := (wd_X8_tries Γ q0 q1 q2 q3 q4 q5 q6 q8 d0 d1 d2 d3 d4 d5 q7 d6 length undoMany zeroKept oneKept seen spot kind begin letters figures value plated driven rows periods leastPeriod sv height_7 speed_8 top_9 low_10 motion_11 tried_12)) (As := []) (rest := []) ⟨hx, hb, hml, hown, hts⟩ hE hP hD hS hA rfl rfl rfl (c_X8_tries l Γ _ q0 q1 q2 q3 q4 q5 q6 q8 d0 d1 d2 d3 d4 d5 q7 d6 length undoMany zeroKept oneKept seen spot kind begin letters figures value plated driven rows periods leastPeriod sv height speed top low motion tried height_7 speed_8 top_9 low_10 motion_11 tried_12 hq_13) (cwV 0 hts gX8_lies_X8_tries rfl rfl rfl (by decide +kernel) ⟨Nat.le_of_ble_eq_true rfl, Nat.le_of_ble_eq_true rfl⟩) (va_recv (ci := 8) (q0 := 0) hK hP rfl rfl) rfl hl.1 rfl (Nat.le_of_ble_eq_true rfl) dX8_lies_1 ⟨Nat.zero_le _, Nat.zero_le _⟩ (fun H locs hP hD hS => ?_)
  have hP : va_P Γ.1 vwCl (wd_X8_lies Γ q0 q1 q2 q3 q4 q5 q6 q7 q8 d0 d1 d2 d3 d4 d5 d6 length undoMany zeroKept oneKept seen spot kind begin letters figures value plated driven rows periods leastPeriod sv height_7 speed_8 top_9 low_10 motion_11 lie tried_12) H := hP
  have hD : va_D A (wd_X8_lies Γ q0 q1 q2 q3 q4 q5 q6 q7 q8 d0 d1 d2 d3 d4 d5 d6 length undoMany zeroKept oneKept seen spot kind begin letters figures value plated driven rows periods leastPeriod sv height_7 speed_8 top_9 low_10 motion_11 lie tried_12) := hD
  refine lv_iconst (v := 0) hx hb dX8_lies_4 (by decide) ?_
  refine lv_istore_n (lv' := [(1, .int 0), (0, .ref q0)]) hx hb dX8_lies_5 rfl hl (by decide) rfl (fun ls hl => ?_)
  exact K_6 height_7 speed_8 top_9 low_10 motion_11 lie tried_12 0 hP hD hS (lv_sub hl [1, 0] rfl) hf
def wd_X8_sees (Γ : GE) (q0 q1 q2 d0 d1 d2 d3 d4 d5 d6 d7 d8 d9 d10 d11 d12 : Nat) (length : Int32) (undoMany : Int32) (zeroKept : Int32) (oneKept : Int32) (seen : Int32) (spot : Int32) (kind : Int32) (begin : Int32) (letters : Int64) (figures : Int32) (value : Int32) (plated : Int32) (driven : Int32) (rows : Int32) (periods : Int32) (leastPeriod : Int32) (seenCell : Nat → Int32) (seenIs : Nat → Int32) : va_W := [(q0, .inr (8, [.int length, .ref d0, .ref d1, .ref d2, .ref d3, .int undoMany, .ref d4, .int zeroKept, .int oneKept, .ref q1, .ref q2, .int seen, .int spot, .int kind, .int begin, .long letters, .int figures, .int value, .int plated, .int driven, .int rows, .ref d5, .ref d6, .ref d7, .ref d8, .ref d9, .ref d10, .ref d11, .ref d12, .int periods, .int leastPeriod])), (q1, .inl (Γ.2.1 0, 6, .inl seenCell)), (q2, .inl (Γ.2.1 0, 6, .inl seenIs))]
def f_X8_sees_22 (seen : Int32) (seenCell : Nat → Int32) (seenIs : Nat → Int32) : Option (Int32 × Int32 × (Nat → Int32) × (Nat → Int32)) := some ((-1), seen, seenCell, seenIs)
def f_X8_sees (seen : Int32) (seenCell : Nat → Int32) (seenIs : Nat → Int32) (x1 : Int32) (x2 : Int32) : Option (Int32 × Int32 × (Nat → Int32) × (Nat → Int32)) := ob1 (f_X8_in ((x1).toInt64) 0 35) (fun r_1 => if r_1 = 0 then (f_X8_sees_22 seen seenCell seenIs) else (ob1 (f_X8_in ((x2).toInt64) 0 1) (fun r_4 => if r_4 = 0 then (f_X8_sees_22 seen seenCell seenIs) else (if seen = 6 then (some ((-3), seen, seenCell, seenIs)) else (if inb seen 6 = true then if inb seen 6 = true then some ((seen + 1), (seen + 1), (upd seenCell (seen.toNatClampNeg) x1), (upd seenIs (seen.toNatClampNeg) x2)) else none else none)))))
set_option maxHeartbeats 4000000 in
set_option maxRecDepth 100000 in
theorem c_X8_sees (l : Launch) (Γ : GE) (sz : Nat) (q0 q1 q2 d0 d1 d2 d3 d4 d5 d6 d7 d8 d9 d10 d11 d12 : Nat) (length : Int32) (undoMany : Int32) (zeroKept : Int32) (oneKept : Int32) (seen : Int32) (spot : Int32) (kind : Int32) (begin : Int32) (letters : Int64) (figures : Int32) (value : Int32) (plated : Int32) (driven : Int32) (rows : Int32) (periods : Int32) (leastPeriod : Int32) (seenCell : Nat → Int32) (seenIs : Nat → Int32) (x1 : Int32) (x2 : Int32) (ro : Int32) (o_seen : Int32) (o_seenCell : Nat → Int32) (o_seenIs : Nat → Int32) (hf : f_X8_sees seen seenCell seenIs x1 x2 = some (ro, o_seen, o_seenCell, o_seenIs)) : MetI l yX8_sees wsX8_sees ({ frames := 1, cells := 0, slots := 0, locals := 25 } : Room) Γ [.ref q0, .int x1, .int x2] (wd_X8_sees Γ q0 q1 q2 d0 d1 d2 d3 d4 d5 d6 d7 d8 d9 d10 d11 d12 length undoMany zeroKept oneKept seen spot kind begin letters figures value plated driven rows periods leastPeriod seenCell seenIs) (wd_X8_sees Γ q0 q1 q2 d0 d1 d2 d3 d4 d5 d6 d7 d8 d9 d10 d11 d12 length undoMany zeroKept oneKept o_seen spot kind begin letters figures value plated driven rows periods leastPeriod o_seenCell o_seenIs) sz ro := by
  refine Met.ofW (cc := cX8_sees) (maxL := 3) (ret := (some .int)) (by decide) rfl ?_
  intro p e s m args below meth c s₁ B hml hv
  obtain ⟨rfl, hsz, hE, hP, hD⟩ := hv
  have hx := B.exec
  have hb := B.bytes
  have hr := B.returns
  have hts := atoms_spec (ws := wsX8_sees) B.pre
  have hown : s.vm.findClass RX8 = some m.cls := findClass_of_methodNamed B.named
  have hlocks := B.notSynchronized
  subst hsz
  generalize hAe : va_A (wd_X8_sees Γ q0 q1 q2 d0 d1 d2 d3 d4 d5 d6 d7 d8 d9 d10 d11 d12 length undoMany zeroKept oneKept seen spot kind begin letters figures value plated driven rows periods leastPeriod seenCell seenIs) s.heap.size = A at hE hD ⊢
  have hA : ∀ q : Nat, s.heap.size ≤ q → A q := fun q h => by rw [← hAe]; exact Or.inr h
  clear hAe
  have hS : va_S A s.heap s.heap [] := va_S.rf
  have hK := hE.1
  have hl := lv_entry ([.ref q0, .int x1, .int x2]) (n := 3) (Nat.le_of_ble_eq_true rfl)
  rw [lg_entry_eq]
  generalize (lg_sl ([.ref q0, .int x1, .int x2]) ++ List.replicate (3 - (lg_sl ([.ref q0, .int x1, .int x2])).length) Slot.unset).toArray = ls at hl ⊢
  have hl : lv_has ls 3 [(0, .ref q0), (1, .int x1), (2, .int x2)] := hl
  have hi8 : ∀ w ∈ u_ws RX8 TX8 31, w ∈ wsX8_sees := fun w h => (List.mem_cons_of_mem _ (List.mem_append_right _ h))
  obtain ⟨out, hout⟩ : ∃ o, o = (ro, o_seen, o_seenCell, o_seenIs) := ⟨_, rfl⟩
  rw [← hout] at hf
  obtain ⟨QQ, hQQ⟩ : ∃ Q, Q = MQ below (va_Qi (fun (r' : Int32) (_ : Unit) => r' = ro) (CQ Γ (wd_X8_sees Γ q0 q1 q2 d0 d1 d2 d3 d4 d5 d6 d7 d8 d9 d10 d11 d12 length undoMany zeroKept oneKept o_seen spot kind begin letters figures value plated driven rows periods leastPeriod o_seenCell o_seenIs) A) A) (([.ref q0, .int x1, .int x2] : List Value).toArray) s 0 0 A := ⟨_, rfl⟩
  show W p l e ({ frames := 1, cells := 0, slots := 0, locals := 25 } : Room) s m (([.ref q0, .int x1, .int x2] : List Value).toArray) below meth c s.heap [] 0 0 (MQ below _ (([.ref q0, .int x1, .int x2] : List Value).toArray) s 0 0 A) (F0 m 0 ls [])
  rw [← hQQ]
  have K_22 : ∀ (seen : Int32) (seenCell : Nat → Int32) (seenIs : Nat → Int32) {H : Heap} {locs : List Loc} {ls : Array Slot}, va_P Γ.1 vwCl (wd_X8_sees Γ q0 q1 q2 d0 d1 d2 d3 d4 d5 d6 d7 d8 d9 d10 d11 d12 length undoMany zeroKept oneKept seen spot kind begin letters figures value plated driven rows periods leastPeriod seenCell seenIs) H → va_D A (wd_X8_sees Γ q0 q1 q2 d0 d1 d2 d3 d4 d5 d6 d7 d8 d9 d10 d11 d12 length undoMany zeroKept oneKept seen spot kind begin letters figures value plated driven rows periods leastPeriod seenCell seenIs) → va_S A s.heap H locs → lv_has ls 3 [] → f_X8_sees_22 seen seenCell seenIs = some out → W p l e ({ frames := 1, cells := 0, slots := 0, locals := 25 } : Room) s m ([.ref q0, .int x1, .int x2] : List Value).toArray below meth c H locs 0 0 QQ (F0 m 22 ls []) := by
    intro seen seenCell seenIs H locs ls hP hD hS hl hf
    unfold f_X8_sees_22 at hf
    refine lv_iconst (v := (-1)) hx hb dX8_sees_22 (by decide) ?_
    subst hout; obtain ⟨rfl, rfl, rfl, rfl⟩ := rt4 hf
    subst hQQ
    exact W.iret hx hb hr (fun t ht hW => ⟨⟨_, (), rfl, rfl, by rw [ht]; exact hP, hD⟩, hS.F ht⟩) hS.2.2 dX8_sees_23
  unfold f_X8_sees at hf
  refine lv_iload_n hx hb dX8_sees_0 rfl (lv_at hl 1 rfl) ?_
  refine lv_i2l hx hb dX8_sees_1 rfl ?_
  refine lv_lconst (v := 0) hx hb dX8_sees_2 (by decide) ?_
  refine lv_ldc2 hx hb hown (hts (.constantLong RX8 228 (35)) (List.mem_of_getElem? (i := 1) rfl)) dX8_sees_3 ?_
  obtain ⟨r_1, hq_2, hf⟩ := ob1_some hf
  refine vm_cSi (isC := []) (wc := (wd_X8_in Γ)) (w1 := (wd_X8_in Γ)) (As := [.long ((x1).toInt64), .long 0, .long 35]) (rest := []) ⟨hx, hb, hml, hown, hts⟩ hE hP hD hS hA rfl rfl rfl (c_X8_in l Γ _ ((x1).toInt64) 0 35 r_1 hq_2) (va_cwS 3 hts gX8_sees_X8_in rfl rfl rfl (by decide +kernel) ⟨Nat.le_of_ble_eq_true rfl, Nat.le_of_ble_eq_true rfl⟩) rfl hl.1 rfl (Nat.le_of_ble_eq_true rfl) dX8_sees_6 ⟨Nat.zero_le _, Nat.zero_le _⟩ (fun H locs hP hD hS => ?_)
  have hP : va_P Γ.1 vwCl (wd_X8_sees Γ q0 q1 q2 d0 d1 d2 d3 d4 d5 d6 d7 d8 d9 d10 d11 d12 length undoMany zeroKept oneKept seen spot kind begin letters figures value plated driven rows periods leastPeriod seenCell seenIs) H := hP
  have hD : va_D A (wd_X8_sees Γ q0 q1 q2 d0 d1 d2 d3 d4 d5 d6 d7 d8 d9 d10 d11 d12 length undoMany zeroKept oneKept seen spot kind begin letters figures value plated driven rows periods leastPeriod seenCell seenIs) := hD
  refine lv_if_eq (tgt := 22) hx hb dX8_sees_9 (by decide) (fun hc_3 => ?_) (fun hc_3 => ?_)
  · have hf := vm_pos hc_3 hf
    exact K_22 seen seenCell seenIs hP hD hS (lv_sub hl [] rfl) hf
  · have hf := vm_neg hc_3 hf
    refine lv_iload_n hx hb dX8_sees_12 rfl (lv_at hl 2 rfl) ?_
    refine lv_i2l hx hb dX8_sees_13 rfl ?_
    refine lv_lconst (v := 0) hx hb dX8_sees_14 (by decide) ?_
    refine lv_lconst (v := 1) hx hb dX8_sees_15 (by decide) ?_
    obtain ⟨r_4, hq_5, hf⟩ := ob1_some hf
    refine vm_cSi (isC := []) (wc := (wd_X8_in Γ)) (w1 := (wd_X8_in Γ)) (As := [.long ((x2).toInt64), .long 0, .long 1]) (rest := []) ⟨hx, hb, hml, hown, hts⟩ hE hP hD hS hA rfl rfl rfl (c_X8_in l Γ _ ((x2).toInt64) 0 1 r_4 hq_5) (va_cwS 3 hts gX8_sees_X8_in rfl rfl rfl (by decide +kernel) ⟨Nat.le_of_ble_eq_true rfl, Nat.le_of_ble_eq_true rfl⟩) rfl hl.1 rfl (Nat.le_of_ble_eq_true rfl) dX8_sees_16 ⟨Nat.zero_le _, Nat.zero_le _⟩ (fun H locs hP hD hS => ?_)
    have hP : va_P Γ.1 vwCl (wd_X8_sees Γ q0 q1 q2 d0 d1 d2 d3 d4 d5 d6 d7 d8 d9 d10 d11 d12 length undoMany zeroKept oneKept seen spot kind begin letters figures value plated driven rows periods leastPeriod seenCell seenIs) H := hP
    have hD : va_D A (wd_X8_sees Γ q0 q1 q2 d0 d1 d2 d3 d4 d5 d6 d7 d8 d9 d10 d11 d12 length undoMany zeroKept oneKept seen spot kind begin letters figures value plated driven rows periods leastPeriod seenCell seenIs) := hD
    refine lv_if_ne (tgt := 24) hx hb dX8_sees_19 (by decide) (fun hc_6 => ?_) (fun hc_6 => ?_)
    · have hf := vm_neg hc_6 hf
      refine lv_aload_n hx hb dX8_sees_24 rfl (lv_at hl 0 rfl) ?_
      refine va_get (D := Γ.1) (ci := 8) (v := .int seen) (C := RX8) (T := TX8) (N := 31) hx hb hts hi8 hown hK hP 0 rfl rfl 11 (by decide) (hts (.fieldLink RX8 230 "SandPlatesModel" "seen" "I") (List.mem_of_getElem? (i := 2) rfl)) (fun _ h9 => h9) rfl dX8_sees_25 ?_
      refine lv_bipush (v := 6) hx hb dX8_sees_28 (by decide) ?_
      refine lv_icmp_ne (tgt := 36) hx hb dX8_sees_30 (by decide) (fun hc_7 => ?_) (fun hc_7 => ?_)
      · have hf := vm_neg hc_7 hf
        refine lv_aload_n hx hb dX8_sees_36 rfl (lv_at hl 0 rfl) ?_
        refine va_get (D := Γ.1) (ci := 8) (v := .ref q1) (C := RX8) (T := TX8) (N := 31) hx hb hts hi8 hown hK hP 0 rfl rfl 9 (by decide) (hts (.fieldLink RX8 25 "SandPlatesModel" "seenCell" "[I") (List.mem_of_getElem? (i := 3) rfl)) (fun _ h9 => h9) rfl dX8_sees_37 ?_
        refine lv_aload_n hx hb dX8_sees_40 rfl (lv_at hl 0 rfl) ?_
        refine va_get (D := Γ.1) (ci := 8) (v := .int seen) (C := RX8) (T := TX8) (N := 31) hx hb hts hi8 hown hK hP 0 rfl rfl 11 (by decide) (hts (.fieldLink RX8 230 "SandPlatesModel" "seen" "I") (List.mem_of_getElem? (i := 2) rfl)) (fun _ h9 => h9) rfl dX8_sees_41 ?_
        refine lv_iload_n hx hb dX8_sees_44 rfl (lv_at hl 1 rfl) ?_
        obtain ⟨hc_8, hf⟩ := vm_ck hf
        refine vm_iast hx hb hK hP hD hS 1 0 rfl rfl hc_8 (j := (seen.toNatClampNeg)) rfl dX8_sees_45 (fun H locs hP hD hS => ?_)
        have hP : va_P Γ.1 vwCl (wd_X8_sees Γ q0 q1 q2 d0 d1 d2 d3 d4 d5 d6 d7 d8 d9 d10 d11 d12 length undoMany zeroKept oneKept seen spot kind begin letters figures value plated driven rows periods leastPeriod (upd seenCell (seen.toNatClampNeg) x1) seenIs) H := hP
        have hD : va_D A (wd_X8_sees Γ q0 q1 q2 d0 d1 d2 d3 d4 d5 d6 d7 d8 d9 d10 d11 d12 length undoMany zeroKept oneKept seen spot kind begin letters figures value plated driven rows periods leastPeriod (upd seenCell (seen.toNatClampNeg) x1) seenIs) := hD
        refine lv_aload_n hx hb dX8_sees_46 rfl (lv_at hl 0 rfl) ?_
        refine va_get (D := Γ.1) (ci := 8) (v := .ref q2) (C := RX8) (T := TX8) (N := 31) hx hb hts hi8 hown hK hP 0 rfl rfl 10 (by decide) (hts (.fieldLink RX8 28 "SandPlatesModel" "seenIs" "[I") (List.mem_of_getElem? (i := 4) rfl)) (fun _ h9 => h9) rfl dX8_sees_47 ?_
        refine lv_aload_n hx hb dX8_sees_50 rfl (lv_at hl 0 rfl) ?_
        refine va_get (D := Γ.1) (ci := 8) (v := .int seen) (C := RX8) (T := TX8) (N := 31) hx hb hts hi8 hown hK hP 0 rfl rfl 11 (by decide) (hts (.fieldLink RX8 230 "SandPlatesModel" "seen" "I") (List.mem_of_getElem? (i := 2) rfl)) (fun _ h9 => h9) rfl dX8_sees_51 ?_
        refine lv_iload_n hx hb dX8_sees_54 rfl (lv_at hl 2 rfl) ?_
        obtain ⟨hc_9, hf⟩ := vm_ck hf
        refine vm_iast hx hb hK hP hD hS 2 0 rfl rfl hc_9 (j := (seen.toNatClampNeg)) rfl dX8_sees_55 (fun H locs hP hD hS => ?_)
        have hP : va_P Γ.1 vwCl (wd_X8_sees Γ q0 q1 q2 d0 d1 d2 d3 d4 d5 d6 d7 d8 d9 d10 d11 d12 length undoMany zeroKept oneKept seen spot kind begin letters figures value plated driven rows periods leastPeriod (upd seenCell (seen.toNatClampNeg) x1) (upd seenIs (seen.toNatClampNeg) x2)) H := hP
        have hD : va_D A (wd_X8_sees Γ q0 q1 q2 d0 d1 d2 d3 d4 d5 d6 d7 d8 d9 d10 d11 d12 length undoMany zeroKept oneKept seen spot kind begin letters figures value plated driven rows periods leastPeriod (upd seenCell (seen.toNatClampNeg) x1) (upd seenIs (seen.toNatClampNeg) x2)) := hD
        refine lv_aload_n hx hb dX8_sees_56 rfl (lv_at hl 0 rfl) ?_
        refine lv_dup hx hb dX8_sees_57 rfl ?_
        refine va_get (D := Γ.1) (ci := 8) (v := .int seen) (C := RX8) (T := TX8) (N := 31) hx hb hts hi8 hown hK hP 0 rfl rfl 11 (by decide) (hts (.fieldLink RX8 230 "SandPlatesModel" "seen" "I") (List.mem_of_getElem? (i := 2) rfl)) (fun _ h9 => h9) rfl dX8_sees_58 ?_
        refine lv_iconst (v := 1) hx hb dX8_sees_61 (by decide) ?_
        refine lv_iadd hx hb dX8_sees_62 ?_
        refine va_put (D := Γ.1) (ci := 8) (v := .int (seen + 1)) (ty := .int) (C := RX8) (T := TX8) (N := 31) hx hb hts hi8 tyX8 tyX8_ok nmX8 hown hK hP hD hS 0 rfl rfl 11 (by decide) (hts (.fieldLink RX8 230 "SandPlatesModel" "seen" "I") (List.mem_of_getElem? (i := 2) rfl)) (fun _ h9 => h9) rfl (by decide +kernel) rfl rfl (Nat.le_of_ble_eq_true rfl) dX8_sees_63 (fun H locs hP hD hS => ?_)
        have hP : va_P Γ.1 vwCl (wd_X8_sees Γ q0 q1 q2 d0 d1 d2 d3 d4 d5 d6 d7 d8 d9 d10 d11 d12 length undoMany zeroKept oneKept (seen + 1) spot kind begin letters figures value plated driven rows periods leastPeriod (upd seenCell (seen.toNatClampNeg) x1) (upd seenIs (seen.toNatClampNeg) x2)) H := hP
        have hD : va_D A (wd_X8_sees Γ q0 q1 q2 d0 d1 d2 d3 d4 d5 d6 d7 d8 d9 d10 d11 d12 length undoMany zeroKept oneKept (seen + 1) spot kind begin letters figures value plated driven rows periods leastPeriod (upd seenCell (seen.toNatClampNeg) x1) (upd seenIs (seen.toNatClampNeg) x2)) := hD
        refine lv_aload_n hx hb dX8_sees_66 rfl (lv_at hl 0 rfl) ?_
        refine va_get (D := Γ.1) (ci := 8) (v := .int (seen + 1)) (C := RX8) (T := TX8) (N := 31) hx hb hts hi8 hown hK hP 0 rfl rfl 11 (by decide) (hts (.fieldLink RX8 230 "SandPlatesModel" "seen" "I") (List.mem_of_getElem? (i := 2) rfl)) (fun _ h9 => h9) rfl dX8_sees_67 ?_
        subst hout; obtain ⟨rfl, rfl, rfl, rfl⟩ := rt4 hf
        subst hQQ
        exact W.iret hx hb hr (fun t ht hW => ⟨⟨_, (), rfl, rfl, by rw [ht]; exact hP, hD⟩, hS.F ht⟩) hS.2.2 dX8_sees_70
      · have hf := vm_pos hc_7 hf
        refine lv_bipush (v := (-3)) hx hb dX8_sees_33 (by decide) ?_
        subst hout; obtain ⟨rfl, rfl, rfl, rfl⟩ := rt4 hf
        subst hQQ
        exact W.iret hx hb hr (fun t ht hW => ⟨⟨_, (), rfl, rfl, by rw [ht]; exact hP, hD⟩, hS.F ht⟩) hS.2.2 dX8_sees_35
    · have hf := vm_pos hc_6 hf
      exact K_22 seen seenCell seenIs hP hD hS (lv_sub hl [] rfl) hf
def wd_X8_forget (Γ : GE) (q0 d0 d1 d2 d3 d4 d5 d6 d7 d8 d9 d10 d11 d12 d13 d14 : Nat) (length : Int32) (undoMany : Int32) (zeroKept : Int32) (oneKept : Int32) (seen : Int32) (spot : Int32) (kind : Int32) (begin : Int32) (letters : Int64) (figures : Int32) (value : Int32) (plated : Int32) (driven : Int32) (rows : Int32) (periods : Int32) (leastPeriod : Int32) : va_W := [(q0, .inr (8, [.int length, .ref d0, .ref d1, .ref d2, .ref d3, .int undoMany, .ref d4, .int zeroKept, .int oneKept, .ref d5, .ref d6, .int seen, .int spot, .int kind, .int begin, .long letters, .int figures, .int value, .int plated, .int driven, .int rows, .ref d7, .ref d8, .ref d9, .ref d10, .ref d11, .ref d12, .ref d13, .ref d14, .int periods, .int leastPeriod]))]
def f_X8_forget (seen : Int32) : Option (Int32 × Int32) := some (seen, 0)
set_option maxHeartbeats 4000000 in
set_option maxRecDepth 100000 in
theorem c_X8_forget (l : Launch) (Γ : GE) (sz : Nat) (q0 d0 d1 d2 d3 d4 d5 d6 d7 d8 d9 d10 d11 d12 d13 d14 : Nat) (length : Int32) (undoMany : Int32) (zeroKept : Int32) (oneKept : Int32) (seen : Int32) (spot : Int32) (kind : Int32) (begin : Int32) (letters : Int64) (figures : Int32) (value : Int32) (plated : Int32) (driven : Int32) (rows : Int32) (periods : Int32) (leastPeriod : Int32) (ro : Int32) (o_seen : Int32) (hf : f_X8_forget seen = some (ro, o_seen)) : MetI l yX8_forget wsX8_forget ({ frames := 0, cells := 0, slots := 0, locals := 0 } : Room) Γ [.ref q0] (wd_X8_forget Γ q0 d0 d1 d2 d3 d4 d5 d6 d7 d8 d9 d10 d11 d12 d13 d14 length undoMany zeroKept oneKept seen spot kind begin letters figures value plated driven rows periods leastPeriod) (wd_X8_forget Γ q0 d0 d1 d2 d3 d4 d5 d6 d7 d8 d9 d10 d11 d12 d13 d14 length undoMany zeroKept oneKept o_seen spot kind begin letters figures value plated driven rows periods leastPeriod) sz ro := by
  refine Met.ofW (cc := cX8_forget) (maxL := 2) (ret := (some .int)) (by decide) rfl ?_
  intro p e s m args below meth c s₁ B hml hv
  obtain ⟨rfl, hsz, hE, hP, hD⟩ := hv
  have hx := B.exec
  have hb := B.bytes
  have hr := B.returns
  have hts := atoms_spec (ws := wsX8_forget) B.pre
  have hown : s.vm.findClass RX8 = some m.cls := findClass_of_methodNamed B.named
  have hlocks := B.notSynchronized
  subst hsz
  generalize hAe : va_A (wd_X8_forget Γ q0 d0 d1 d2 d3 d4 d5 d6 d7 d8 d9 d10 d11 d12 d13 d14 length undoMany zeroKept oneKept seen spot kind begin letters figures value plated driven rows periods leastPeriod) s.heap.size = A at hE hD ⊢
  have hA : ∀ q : Nat, s.heap.size ≤ q → A q := fun q h => by rw [← hAe]; exact Or.inr h
  clear hAe
  have hS : va_S A s.heap s.heap [] := va_S.rf
  have hK := hE.1
  have hl := lv_entry ([.ref q0]) (n := 2) (Nat.le_of_ble_eq_true rfl)
  rw [lg_entry_eq]
  generalize (lg_sl ([.ref q0]) ++ List.replicate (2 - (lg_sl ([.ref q0])).length) Slot.unset).toArray = ls at hl ⊢
  have hl : lv_has ls 2 [(0, .ref q0)] := hl
  have hi8 : ∀ w ∈ u_ws RX8 TX8 31, w ∈ wsX8_forget := fun w h => (List.mem_cons_of_mem _ (List.mem_append_right _ h))
  obtain ⟨out, hout⟩ : ∃ o, o = (ro, o_seen) := ⟨_, rfl⟩
  rw [← hout] at hf
  obtain ⟨QQ, hQQ⟩ : ∃ Q, Q = MQ below (va_Qi (fun (r' : Int32) (_ : Unit) => r' = ro) (CQ Γ (wd_X8_forget Γ q0 d0 d1 d2 d3 d4 d5 d6 d7 d8 d9 d10 d11 d12 d13 d14 length undoMany zeroKept oneKept o_seen spot kind begin letters figures value plated driven rows periods leastPeriod) A) A) (([.ref q0] : List Value).toArray) s 0 0 A := ⟨_, rfl⟩
  show W p l e ({ frames := 0, cells := 0, slots := 0, locals := 0 } : Room) s m (([.ref q0] : List Value).toArray) below meth c s.heap [] 0 0 (MQ below _ (([.ref q0] : List Value).toArray) s 0 0 A) (F0 m 0 ls [])
  rw [← hQQ]
  unfold f_X8_forget at hf
  refine lv_aload_n hx hb dX8_forget_0 rfl (lv_at hl 0 rfl) ?_
  refine va_get (D := Γ.1) (ci := 8) (v := .int seen) (C := RX8) (T := TX8) (N := 31) hx hb hts hi8 hown hK hP 0 rfl rfl 11 (by decide) (hts (.fieldLink RX8 230 "SandPlatesModel" "seen" "I") (List.mem_of_getElem? (i := 1) rfl)) (fun _ h9 => h9) rfl dX8_forget_1 ?_
  refine lv_istore_n (lv' := [(1, .int seen), (0, .ref q0)]) hx hb dX8_forget_4 rfl hl (by decide) rfl (fun ls hl => ?_)
  refine lv_aload_n hx hb dX8_forget_5 rfl (lv_at hl 1 rfl) ?_
  refine lv_iconst (v := 0) hx hb dX8_forget_6 (by decide) ?_
  refine va_put (D := Γ.1) (ci := 8) (v := .int 0) (ty := .int) (C := RX8) (T := TX8) (N := 31) hx hb hts hi8 tyX8 tyX8_ok nmX8 hown hK hP hD hS 0 rfl rfl 11 (by decide) (hts (.fieldLink RX8 230 "SandPlatesModel" "seen" "I") (List.mem_of_getElem? (i := 1) rfl)) (fun _ h9 => h9) rfl (by decide +kernel) rfl rfl (Nat.le_of_ble_eq_true rfl) dX8_forget_7 (fun H locs hP hD hS => ?_)
  have hP : va_P Γ.1 vwCl (wd_X8_forget Γ q0 d0 d1 d2 d3 d4 d5 d6 d7 d8 d9 d10 d11 d12 d13 d14 length undoMany zeroKept oneKept 0 spot kind begin letters figures value plated driven rows periods leastPeriod) H := hP
  have hD : va_D A (wd_X8_forget Γ q0 d0 d1 d2 d3 d4 d5 d6 d7 d8 d9 d10 d11 d12 d13 d14 length undoMany zeroKept oneKept 0 spot kind begin letters figures value plated driven rows periods leastPeriod) := hD
  refine lv_iload_n hx hb dX8_forget_10 rfl (lv_at hl 0 rfl) ?_
  subst hout; obtain ⟨rfl, rfl⟩ := rt2 hf
  subst hQQ
  exact W.iret hx hb hr (fun t ht hW => ⟨⟨_, (), rfl, rfl, by rw [ht]; exact hP, hD⟩, hS.F ht⟩) hS.2.2 dX8_forget_11
def wd_X8_finds (Γ : GE) (q0 q1 q2 q3 q4 q5 q6 q7 q8 q9 d0 d1 d2 d3 d4 d5 : Nat) (length : Int32) (undoMany : Int32) (zeroKept : Int32) (oneKept : Int32) (seen : Int32) (spot : Int32) (kind : Int32) (begin : Int32) (letters : Int64) (figures : Int32) (value : Int32) (plated : Int32) (driven : Int32) (rows : Int32) (periods : Int32) (leastPeriod : Int32) (sv : Nat → Int32) (seenCell : Nat → Int32) (seenIs : Nat → Int32) (height : Nat → Int32) (speed : Nat → Int32) (top : Nat → Int32) (low : Nat → Int32) (motion : Nat → Int32) (often : Nat → Int32) : va_W := [(q0, .inr (8, [.int length, .ref d0, .ref q1, .ref d1, .ref d2, .int undoMany, .ref d3, .int zeroKept, .int oneKept, .ref q2, .ref q3, .int seen, .int spot, .int kind, .int begin, .long letters, .int figures, .int value, .int plated, .int driven, .int rows, .ref q4, .ref q5, .ref q6, .ref q7, .ref q8, .ref d4, .ref d5, .ref q9, .int periods, .int leastPeriod])), (q1, .inl (Γ.2.1 0, 81, .inl sv)), (q2, .inl (Γ.2.1 0, 6, .inl seenCell)), (q3, .inl (Γ.2.1 0, 6, .inl seenIs)), (q4, .inl (Γ.2.1 0, 36, .inl height)), (q5, .inl (Γ.2.1 0, 36, .inl speed)), (q6, .inl (Γ.2.1 0, 36, .inl top)), (q7, .inl (Γ.2.1 0, 36, .inl low)), (q8, .inl (Γ.2.1 0, 36, .inl motion)), (q9, .inl (Γ.2.1 0, 36, .inl often))]
def f_X8_finds_205 (periods : Int32) (leastPeriod : Int32) (height : Nat → Int32) (speed : Nat → Int32) (top : Nat → Int32) (low : Nat → Int32) (motion : Nat → Int32) (often : Nat → Int32) : Option (Int32 × Int32 × (Nat → Int32) × (Nat → Int32) × (Nat → Int32) × (Nat → Int32) × (Nat → Int32) × (Nat → Int32)) := some (periods, leastPeriod, height, speed, top, low, motion, often)
def f_X8_finds_199 (seen : Int32) (periods : Int32) (leastPeriod : Int32) (sv : Nat → Int32) (seenCell : Nat → Int32) (seenIs : Nat → Int32) (height : Nat → Int32) (speed : Nat → Int32) (top : Nat → Int32) (low : Nat → Int32) (motion : Nat → Int32) (often : Nat → Int32) (x1 : Int32) (k : ((Int32 × Int32 × (Nat → Int32) × (Nat → Int32) × (Nat → Int32) × (Nat → Int32) × (Nat → Int32) × (Nat → Int32) × Int32) → Option (Int32 × Int32 × (Nat → Int32) × (Nat → Int32) × (Nat → Int32) × (Nat → Int32) × (Nat → Int32) × (Nat → Int32)))) : Option (Int32 × Int32 × (Nat → Int32) × (Nat → Int32) × (Nat → Int32) × (Nat → Int32) × (Nat → Int32) × (Nat → Int32)) := k (periods, leastPeriod, height, speed, top, low, motion, often, (x1 + 1))
def f_X8_finds_191 (seen : Int32) (periods : Int32) (leastPeriod : Int32) (sv : Nat → Int32) (seenCell : Nat → Int32) (seenIs : Nat → Int32) (height : Nat → Int32) (speed : Nat → Int32) (top : Nat → Int32) (low : Nat → Int32) (motion : Nat → Int32) (often : Nat → Int32) (x1 : Int32) (x2 : Int32) (x3 : Int32) (s1 : Int32) (s2 : Int32) (s3 : Int32) (k : (((Nat → Int32) × Int32) → Option (Nat → Int32))) : Option (Nat → Int32) := if inb s1 36 = true then k ((upd often (s1.toNatClampNeg) (s2 + s3)), (x3 + 1)) else none
def f_X8_finds_159b (seen : Int32) (periods : Int32) (leastPeriod : Int32) (sv : Nat → Int32) (seenCell : Nat → Int32) (seenIs : Nat → Int32) (height : Nat → Int32) (speed : Nat → Int32) (top : Nat → Int32) (low : Nat → Int32) (motion : Nat → Int32) (x1 : Int32) (x2 : Int32) (often : Nat → Int32) (x3 : Int32) (k : (((Nat → Int32) × Int32) → Option (Nat → Int32))) : Option (Nat → Int32) := ob1 (f_X8_cells sv) (fun r_2 => if r_2 ≤ x3 then (some often) else (if x2 = 0 then (some often) else (if inb x3 36 = true then ob1 (f_X8_isStill sv motion x3) (fun r_7 => if r_7 = 0 then (f_X8_finds_191 seen periods leastPeriod sv seenCell seenIs height speed top low motion often x1 x2 x3 x3 (often (x3.toNatClampNeg)) 0 k) else (f_X8_finds_191 seen periods leastPeriod sv seenCell seenIs height speed top low motion often x1 x2 x3 x3 (often (x3.toNatClampNeg)) 1 k)) else none)))
def f_X8_finds_159s (seen : Int32) (periods : Int32) (leastPeriod : Int32) (sv : Nat → Int32) (seenCell : Nat → Int32) (seenIs : Nat → Int32) (height : Nat → Int32) (speed : Nat → Int32) (top : Nat → Int32) (low : Nat → Int32) (motion : Nat → Int32) (x1 : Int32) (x2 : Int32) : ((Nat → Int32) × Int32) → (((Nat → Int32) × Int32) → Option (Nat → Int32)) → Option (Nat → Int32) := fun t k => f_X8_finds_159b seen periods leastPeriod sv seenCell seenIs height speed top low motion x1 x2 t.1 t.2 k
def f_X8_finds_159 (seen : Int32) (periods : Int32) (leastPeriod : Int32) (sv : Nat → Int32) (seenCell : Nat → Int32) (seenIs : Nat → Int32) (height : Nat → Int32) (speed : Nat → Int32) (top : Nat → Int32) (low : Nat → Int32) (motion : Nat → Int32) (often : Nat → Int32) (x1 : Int32) (x2 : Int32) (x3 : Int32) (k : ((Int32 × Int32 × (Nat → Int32) × (Nat → Int32) × (Nat → Int32) × (Nat → Int32) × (Nat → Int32) × (Nat → Int32) × Int32) → Option (Int32 × Int32 × (Nat → Int32) × (Nat → Int32) × (Nat → Int32) × (Nat → Int32) × (Nat → Int32) × (Nat → Int32)))) : Option (Int32 × Int32 × (Nat → Int32) × (Nat → Int32) × (Nat → Int32) × (Nat → Int32) × (Nat → Int32) × (Nat → Int32)) := obx (vm_it (f_X8_finds_159s seen periods leastPeriod sv seenCell seenIs height speed top low motion x1 x2) FU (often, x3)) (fun often => f_X8_finds_199 seen periods leastPeriod sv seenCell seenIs height speed top low motion often x1 k)
def f_X8_finds_154 (seen : Int32) (periods : Int32) (sv : Nat → Int32) (seenCell : Nat → Int32) (seenIs : Nat → Int32) (height : Nat → Int32) (speed : Nat → Int32) (top : Nat → Int32) (low : Nat → Int32) (motion : Nat → Int32) (often : Nat → Int32) (x1 : Int32) (x2 : Int32) (s1 : Int32) (k : ((Int32 × Int32 × (Nat → Int32) × (Nat → Int32) × (Nat → Int32) × (Nat → Int32) × (Nat → Int32) × (Nat → Int32) × Int32) → Option (Int32 × Int32 × (Nat → Int32) × (Nat → Int32) × (Nat → Int32) × (Nat → Int32) × (Nat → Int32) × (Nat → Int32)))) : Option (Int32 × Int32 × (Nat → Int32) × (Nat → Int32) × (Nat → Int32) × (Nat → Int32) × (Nat → Int32) × (Nat → Int32)) := f_X8_finds_159 seen periods s1 sv seenCell seenIs height speed top low motion often x1 x2 0 k
def f_X8_finds_150 (seen : Int32) (periods : Int32) (leastPeriod : Int32) (sv : Nat → Int32) (seenCell : Nat → Int32) (seenIs : Nat → Int32) (height : Nat → Int32) (speed : Nat → Int32) (top : Nat → Int32) (low : Nat → Int32) (motion : Nat → Int32) (often : Nat → Int32) (x1 : Int32) (x2 : Int32) (k : ((Int32 × Int32 × (Nat → Int32) × (Nat → Int32) × (Nat → Int32) × (Nat → Int32) × (Nat → Int32) × (Nat → Int32) × Int32) → Option (Int32 × Int32 × (Nat → Int32) × (Nat → Int32) × (Nat → Int32) × (Nat → Int32) × (Nat → Int32) × (Nat → Int32)))) : Option (Int32 × Int32 × (Nat → Int32) × (Nat → Int32) × (Nat → Int32) × (Nat → Int32) × (Nat → Int32) × (Nat → Int32)) := f_X8_finds_154 seen periods sv seenCell seenIs height speed top low motion often x1 x2 leastPeriod k
def f_X8_finds_128 (seen : Int32) (leastPeriod : Int32) (sv : Nat → Int32) (seenCell : Nat → Int32) (seenIs : Nat → Int32) (height : Nat → Int32) (speed : Nat → Int32) (top : Nat → Int32) (low : Nat → Int32) (motion : Nat → Int32) (often : Nat → Int32) (x1 : Int32) (x2 : Int32) (s1 : Int32) (s2 : Int32) (k : ((Int32 × Int32 × (Nat → Int32) × (Nat → Int32) × (Nat → Int32) × (Nat → Int32) × (Nat → Int32) × (Nat → Int32) × Int32) → Option (Int32 × Int32 × (Nat → Int32) × (Nat → Int32) × (Nat → Int32) × (Nat → Int32) × (Nat → Int32) × (Nat → Int32)))) : Option (Int32 × Int32 × (Nat → Int32) × (Nat → Int32) × (Nat → Int32) × (Nat → Int32) × (Nat → Int32) × (Nat → Int32)) := if x2 = 0 then (f_X8_finds_150 seen (s1 + s2) leastPeriod sv seenCell seenIs height speed top low motion often x1 x2 k) else (if leastPeriod = (-9) then (f_X8_finds_154 seen (s1 + s2) sv seenCell seenIs height speed top low motion often x1 x2 x1 k) else (f_X8_finds_150 seen (s1 + s2) leastPeriod sv seenCell seenIs height speed top low motion often x1 x2 k))
def f_X8_finds_114 (seen : Int32) (periods : Int32) (leastPeriod : Int32) (sv : Nat → Int32) (seenCell : Nat → Int32) (seenIs : Nat → Int32) (height : Nat → Int32) (speed : Nat → Int32) (top : Nat → Int32) (low : Nat → Int32) (motion : Nat → Int32) (often : Nat → Int32) (x1 : Int32) (x2 : Int32) (k : ((Int32 × Int32 × (Nat → Int32) × (Nat → Int32) × (Nat → Int32) × (Nat → Int32) × (Nat → Int32) × (Nat → Int32) × Int32) → Option (Int32 × Int32 × (Nat → Int32) × (Nat → Int32) × (Nat → Int32) × (Nat → Int32) × (Nat → Int32) × (Nat → Int32)))) : Option (Int32 × Int32 × (Nat → Int32) × (Nat → Int32) × (Nat → Int32) × (Nat → Int32) × (Nat → Int32) × (Nat → Int32)) := if x2 = 0 then (f_X8_finds_128 seen leastPeriod sv seenCell seenIs height speed top low motion often x1 x2 periods 0 k) else (f_X8_finds_128 seen leastPeriod sv seenCell seenIs height speed top low motion often x1 x2 periods 1 k)
def f_X8_finds_107 (seen : Int32) (periods : Int32) (leastPeriod : Int32) (sv : Nat → Int32) (seenCell : Nat → Int32) (seenIs : Nat → Int32) (height : Nat → Int32) (speed : Nat → Int32) (top : Nat → Int32) (low : Nat → Int32) (motion : Nat → Int32) (often : Nat → Int32) (x1 : Int32) (x3 : Int32) (s0 : Int32) (k : ((Int32 × Int32) → Option Int32)) : Option Int32 := k (s0, (x3 + 1))
def f_X8_finds_106 (seen : Int32) (periods : Int32) (leastPeriod : Int32) (sv : Nat → Int32) (seenCell : Nat → Int32) (seenIs : Nat → Int32) (height : Nat → Int32) (speed : Nat → Int32) (top : Nat → Int32) (low : Nat → Int32) (motion : Nat → Int32) (often : Nat → Int32) (x1 : Int32) (x3 : Int32) (k : ((Int32 × Int32) → Option Int32)) : Option Int32 := f_X8_finds_107 seen periods leastPeriod sv seenCell seenIs height speed top low motion often x1 x3 0 k
def f_X8_finds_99 (seen : Int32) (periods : Int32) (leastPeriod : Int32) (sv : Nat → Int32) (seenCell : Nat → Int32) (seenIs : Nat → Int32) (height : Nat → Int32) (speed : Nat → Int32) (top : Nat → Int32) (low : Nat → Int32) (motion : Nat → Int32) (often : Nat → Int32) (x1 : Int32) (x3 : Int32) (s0 : Int32) (s1 : Int32) (k : ((Int32 × Int32) → Option Int32)) : Option Int32 := if s0 = s1 then (f_X8_finds_107 seen periods leastPeriod sv seenCell seenIs height speed top low motion often x1 x3 1 k) else (f_X8_finds_106 seen periods leastPeriod sv seenCell seenIs height speed top low motion often x1 x3 k)
def f_X8_finds_49b (seen : Int32) (periods : Int32) (leastPeriod : Int32) (sv : Nat → Int32) (seenCell : Nat → Int32) (seenIs : Nat → Int32) (height : Nat → Int32) (speed : Nat → Int32) (top : Nat → Int32) (low : Nat → Int32) (motion : Nat → Int32) (often : Nat → Int32) (x1 : Int32) (x2 : Int32) (x3 : Int32) (k : ((Int32 × Int32) → Option Int32)) : Option Int32 := if seen ≤ x3 then (some x2) else (if x2 = 0 then (some x2) else (if inb x3 6 = true then ob1 (f_X8_cells sv) (fun r_17 => if r_17 ≤ (seenCell (x3.toNatClampNeg)) then (f_X8_finds_106 seen periods leastPeriod sv seenCell seenIs height speed top low motion often x1 x3 k) else (if inb x3 6 = true then ob1 (f_X8_isStill sv motion (seenCell (x3.toNatClampNeg))) (fun r_21 => if inb x3 6 = true then if (seenIs (x3.toNatClampNeg)) = 1 then (f_X8_finds_99 seen periods leastPeriod sv seenCell seenIs height speed top low motion often x1 x3 r_21 1 k) else (f_X8_finds_99 seen periods leastPeriod sv seenCell seenIs height speed top low motion often x1 x3 r_21 0 k) else none) else none)) else none))
def f_X8_finds_49s (seen : Int32) (periods : Int32) (leastPeriod : Int32) (sv : Nat → Int32) (seenCell : Nat → Int32) (seenIs : Nat → Int32) (height : Nat → Int32) (speed : Nat → Int32) (top : Nat → Int32) (low : Nat → Int32) (motion : Nat → Int32) (often : Nat → Int32) (x1 : Int32) : (Int32 × Int32) → ((Int32 × Int32) → Option Int32) → Option Int32 := fun t k => f_X8_finds_49b seen periods leastPeriod sv seenCell seenIs height speed top low motion often x1 t.1 t.2 k
def f_X8_finds_49 (seen : Int32) (periods : Int32) (leastPeriod : Int32) (sv : Nat → Int32) (seenCell : Nat → Int32) (seenIs : Nat → Int32) (height : Nat → Int32) (speed : Nat → Int32) (top : Nat → Int32) (low : Nat → Int32) (motion : Nat → Int32) (often : Nat → Int32) (x1 : Int32) (x2 : Int32) (x3 : Int32) (k : ((Int32 × Int32 × (Nat → Int32) × (Nat → Int32) × (Nat → Int32) × (Nat → Int32) × (Nat → Int32) × (Nat → Int32) × Int32) → Option (Int32 × Int32 × (Nat → Int32) × (Nat → Int32) × (Nat → Int32) × (Nat → Int32) × (Nat → Int32) × (Nat → Int32)))) : Option (Int32 × Int32 × (Nat → Int32) × (Nat → Int32) × (Nat → Int32) × (Nat → Int32) × (Nat → Int32) × (Nat → Int32)) := obx (vm_it (f_X8_finds_49s seen periods leastPeriod sv seenCell seenIs height speed top low motion often x1) FU (x2, x3)) (fun x2 => f_X8_finds_114 seen periods leastPeriod sv seenCell seenIs height speed top low motion often x1 x2 k)
def f_X8_finds_34b (seen : Int32) (sv : Nat → Int32) (seenCell : Nat → Int32) (seenIs : Nat → Int32) (periods : Int32) (leastPeriod : Int32) (height : Nat → Int32) (speed : Nat → Int32) (top : Nat → Int32) (low : Nat → Int32) (motion : Nat → Int32) (often : Nat → Int32) (x1 : Int32) (k : ((Int32 × Int32 × (Nat → Int32) × (Nat → Int32) × (Nat → Int32) × (Nat → Int32) × (Nat → Int32) × (Nat → Int32) × Int32) → Option (Int32 × Int32 × (Nat → Int32) × (Nat → Int32) × (Nat → Int32) × (Nat → Int32) × (Nat → Int32) × (Nat → Int32)))) : Option (Int32 × Int32 × (Nat → Int32) × (Nat → Int32) × (Nat → Int32) × (Nat → Int32) × (Nat → Int32) × (Nat → Int32)) := if 21 ≤ x1 then (some (periods, leastPeriod, height, speed, top, low, motion, often)) else (ob5 (f_X8_runs sv height speed top low motion x1) (fun height_26 speed_27 top_28 low_29 motion_30 => f_X8_finds_49 seen periods leastPeriod sv seenCell seenIs height_26 speed_27 top_28 low_29 motion_30 often x1 1 0 k))
def f_X8_finds_34s (seen : Int32) (sv : Nat → Int32) (seenCell : Nat → Int32) (seenIs : Nat → Int32) : (Int32 × Int32 × (Nat → Int32) × (Nat → Int32) × (Nat → Int32) × (Nat → Int32) × (Nat → Int32) × (Nat → Int32) × Int32) → ((Int32 × Int32 × (Nat → Int32) × (Nat → Int32) × (Nat → Int32) × (Nat → Int32) × (Nat → Int32) × (Nat → Int32) × Int32) → Option (Int32 × Int32 × (Nat → Int32) × (Nat → Int32) × (Nat → Int32) × (Nat → Int32) × (Nat → Int32) × (Nat → Int32))) → Option (Int32 × Int32 × (Nat → Int32) × (Nat → Int32) × (Nat → Int32) × (Nat → Int32) × (Nat → Int32) × (Nat → Int32)) := fun t k => f_X8_finds_34b seen sv seenCell seenIs t.1 t.2.1 t.2.2.1 t.2.2.2.1 t.2.2.2.2.1 t.2.2.2.2.2.1 t.2.2.2.2.2.2.1 t.2.2.2.2.2.2.2.1 t.2.2.2.2.2.2.2.2 k
def f_X8_finds_34 (seen : Int32) (periods : Int32) (leastPeriod : Int32) (sv : Nat → Int32) (seenCell : Nat → Int32) (seenIs : Nat → Int32) (height : Nat → Int32) (speed : Nat → Int32) (top : Nat → Int32) (low : Nat → Int32) (motion : Nat → Int32) (often : Nat → Int32) (x1 : Int32) : Option (Int32 × Int32 × (Nat → Int32) × (Nat → Int32) × (Nat → Int32) × (Nat → Int32) × (Nat → Int32) × (Nat → Int32)) := obx (vm_it (f_X8_finds_34s seen sv seenCell seenIs) FU (periods, leastPeriod, height, speed, top, low, motion, often, x1)) (un8 (fun periods leastPeriod height speed top low motion often => f_X8_finds_205 periods leastPeriod height speed top low motion often))
def f_X8_finds_32 (seen : Int32) (periods : Int32) (leastPeriod : Int32) (sv : Nat → Int32) (seenCell : Nat → Int32) (seenIs : Nat → Int32) (height : Nat → Int32) (speed : Nat → Int32) (top : Nat → Int32) (low : Nat → Int32) (motion : Nat → Int32) (often : Nat → Int32) : Option (Int32 × Int32 × (Nat → Int32) × (Nat → Int32) × (Nat → Int32) × (Nat → Int32) × (Nat → Int32) × (Nat → Int32)) := f_X8_finds_34 seen periods leastPeriod sv seenCell seenIs height speed top low motion often 2
def f_X8_finds_13b (seen : Int32) (periods : Int32) (leastPeriod : Int32) (sv : Nat → Int32) (seenCell : Nat → Int32) (seenIs : Nat → Int32) (height : Nat → Int32) (speed : Nat → Int32) (top : Nat → Int32) (low : Nat → Int32) (motion : Nat → Int32) (often : Nat → Int32) (x1 : Int32) (k : (((Nat → Int32) × Int32) → Option (Nat → Int32))) : Option (Nat → Int32) := if 36 ≤ x1 then (some often) else (if inb x1 36 = true then k ((upd often (x1.toNatClampNeg) 0), (x1 + 1)) else none)
def f_X8_finds_13s (seen : Int32) (periods : Int32) (leastPeriod : Int32) (sv : Nat → Int32) (seenCell : Nat → Int32) (seenIs : Nat → Int32) (height : Nat → Int32) (speed : Nat → Int32) (top : Nat → Int32) (low : Nat → Int32) (motion : Nat → Int32) : ((Nat → Int32) × Int32) → (((Nat → Int32) × Int32) → Option (Nat → Int32)) → Option (Nat → Int32) := fun t k => f_X8_finds_13b seen periods leastPeriod sv seenCell seenIs height speed top low motion t.1 t.2 k
def f_X8_finds_13 (seen : Int32) (periods : Int32) (leastPeriod : Int32) (sv : Nat → Int32) (seenCell : Nat → Int32) (seenIs : Nat → Int32) (height : Nat → Int32) (speed : Nat → Int32) (top : Nat → Int32) (low : Nat → Int32) (motion : Nat → Int32) (often : Nat → Int32) (x1 : Int32) : Option (Int32 × Int32 × (Nat → Int32) × (Nat → Int32) × (Nat → Int32) × (Nat → Int32) × (Nat → Int32) × (Nat → Int32)) := obx (vm_it (f_X8_finds_13s seen periods leastPeriod sv seenCell seenIs height speed top low motion) FU (often, x1)) (fun often => f_X8_finds_32 seen periods leastPeriod sv seenCell seenIs height speed top low motion often)
def f_X8_finds (seen : Int32) (sv : Nat → Int32) (seenCell : Nat → Int32) (seenIs : Nat → Int32) (height : Nat → Int32) (speed : Nat → Int32) (top : Nat → Int32) (low : Nat → Int32) (motion : Nat → Int32) (often : Nat → Int32) : Option (Int32 × Int32 × (Nat → Int32) × (Nat → Int32) × (Nat → Int32) × (Nat → Int32) × (Nat → Int32) × (Nat → Int32)) := f_X8_finds_13 seen 0 (-9) sv seenCell seenIs height speed top low motion often 0
set_option maxHeartbeats 4000000 in
set_option maxRecDepth 100000 in
theorem c_X8_finds (l : Launch) (Γ : GE) (sz : Nat) (q0 q1 q2 q3 q4 q5 q6 q7 q8 q9 d0 d1 d2 d3 d4 d5 : Nat) (length : Int32) (undoMany : Int32) (zeroKept : Int32) (oneKept : Int32) (seen : Int32) (spot : Int32) (kind : Int32) (begin : Int32) (letters : Int64) (figures : Int32) (value : Int32) (plated : Int32) (driven : Int32) (rows : Int32) (periods : Int32) (leastPeriod : Int32) (sv : Nat → Int32) (seenCell : Nat → Int32) (seenIs : Nat → Int32) (height : Nat → Int32) (speed : Nat → Int32) (top : Nat → Int32) (low : Nat → Int32) (motion : Nat → Int32) (often : Nat → Int32) (o_periods : Int32) (o_leastPeriod : Int32) (o_height : Nat → Int32) (o_speed : Nat → Int32) (o_top : Nat → Int32) (o_low : Nat → Int32) (o_motion : Nat → Int32) (o_often : Nat → Int32) (hf : f_X8_finds seen sv seenCell seenIs height speed top low motion often = some (o_periods, o_leastPeriod, o_height, o_speed, o_top, o_low, o_motion, o_often)) : MetV l yX8_finds wsX8_finds ({ frames := 5, cells := 0, slots := 0, locals := 123 } : Room) Γ [.ref q0] (wd_X8_finds Γ q0 q1 q2 q3 q4 q5 q6 q7 q8 q9 d0 d1 d2 d3 d4 d5 length undoMany zeroKept oneKept seen spot kind begin letters figures value plated driven rows periods leastPeriod sv seenCell seenIs height speed top low motion often) (wd_X8_finds Γ q0 q1 q2 q3 q4 q5 q6 q7 q8 q9 d0 d1 d2 d3 d4 d5 length undoMany zeroKept oneKept seen spot kind begin letters figures value plated driven rows o_periods o_leastPeriod sv seenCell seenIs o_height o_speed o_top o_low o_motion o_often) sz := by
  refine Met.ofW (cc := cX8_finds) (maxL := 4) (ret := none) (by decide) rfl ?_
  intro p e s m args below meth c s₁ B hml hv
  obtain ⟨rfl, hsz, hE, hP, hD⟩ := hv
  have hx := B.exec
  have hb := B.bytes
  have hr := B.returns
  have hts := atoms_spec (ws := wsX8_finds) B.pre
  have hown : s.vm.findClass RX8 = some m.cls := findClass_of_methodNamed B.named
  have hlocks := B.notSynchronized
  subst hsz
  generalize hAe : va_A (wd_X8_finds Γ q0 q1 q2 q3 q4 q5 q6 q7 q8 q9 d0 d1 d2 d3 d4 d5 length undoMany zeroKept oneKept seen spot kind begin letters figures value plated driven rows periods leastPeriod sv seenCell seenIs height speed top low motion often) s.heap.size = A at hE hD ⊢
  have hA : ∀ q : Nat, s.heap.size ≤ q → A q := fun q h => by rw [← hAe]; exact Or.inr h
  clear hAe
  have hS : va_S A s.heap s.heap [] := va_S.rf
  have hK := hE.1
  have hl := lv_entry ([.ref q0]) (n := 4) (Nat.le_of_ble_eq_true rfl)
  rw [lg_entry_eq]
  generalize (lg_sl ([.ref q0]) ++ List.replicate (4 - (lg_sl ([.ref q0])).length) Slot.unset).toArray = ls at hl ⊢
  have hl : lv_has ls 4 [(0, .ref q0)] := hl
  have hi8 : ∀ w ∈ u_ws RX8 TX8 31, w ∈ wsX8_finds := fun w h => (List.mem_cons_of_mem _ (List.mem_append_right _ h))
  obtain ⟨out, hout⟩ : ∃ o, o = (o_periods, o_leastPeriod, o_height, o_speed, o_top, o_low, o_motion, o_often) := ⟨_, rfl⟩
  rw [← hout] at hf
  obtain ⟨QQ, hQQ⟩ : ∃ Q, Q = MQ below (va_Qv (fun _ : Unit => True) (CQ Γ (wd_X8_finds Γ q0 q1 q2 q3 q4 q5 q6 q7 q8 q9 d0 d1 d2 d3 d4 d5 length undoMany zeroKept oneKept seen spot kind begin letters figures value plated driven rows o_periods o_leastPeriod sv seenCell seenIs o_height o_speed o_top o_low o_motion o_often) A) A) (([.ref q0] : List Value).toArray) s 0 0 A := ⟨_, rfl⟩
  show W p l e ({ frames := 5, cells := 0, slots := 0, locals := 123 } : Room) s m (([.ref q0] : List Value).toArray) below meth c s.heap [] 0 0 (MQ below _ (([.ref q0] : List Value).toArray) s 0 0 A) (F0 m 0 ls [])
  rw [← hQQ]
  have K_205 : ∀ (periods : Int32) (leastPeriod : Int32) (height : Nat → Int32) (speed : Nat → Int32) (top : Nat → Int32) (low : Nat → Int32) (motion : Nat → Int32) (often : Nat → Int32) {H : Heap} {locs : List Loc} {ls : Array Slot}, va_P Γ.1 vwCl (wd_X8_finds Γ q0 q1 q2 q3 q4 q5 q6 q7 q8 q9 d0 d1 d2 d3 d4 d5 length undoMany zeroKept oneKept seen spot kind begin letters figures value plated driven rows periods leastPeriod sv seenCell seenIs height speed top low motion often) H → va_D A (wd_X8_finds Γ q0 q1 q2 q3 q4 q5 q6 q7 q8 q9 d0 d1 d2 d3 d4 d5 length undoMany zeroKept oneKept seen spot kind begin letters figures value plated driven rows periods leastPeriod sv seenCell seenIs height speed top low motion often) → va_S A s.heap H locs → lv_has ls 4 [] → f_X8_finds_205 periods leastPeriod height speed top low motion often = some out → W p l e ({ frames := 5, cells := 0, slots := 0, locals := 123 } : Room) s m ([.ref q0] : List Value).toArray below meth c H locs 0 0 QQ (F0 m 205 ls []) := by
    intro periods leastPeriod height speed top low motion often H locs ls hP hD hS hl hf
    unfold f_X8_finds_205 at hf
    subst hout; obtain ⟨rfl, rfl, rfl, rfl, rfl, rfl, rfl, rfl⟩ := rt8 hf
    subst hQQ
    exact W.vret hx hb hr (fun t ht hW => ⟨⟨(), rfl, trivial, by rw [ht]; exact hP, hD⟩, hS.F ht⟩) hS.2.2 dX8_finds_205
  have K_34 : ∀ (periods : Int32) (leastPeriod : Int32) (height : Nat → Int32) (speed : Nat → Int32) (top : Nat → Int32) (low : Nat → Int32) (motion : Nat → Int32) (often : Nat → Int32) (x1 : Int32) {H : Heap} {locs : List Loc} {ls : Array Slot}, va_P Γ.1 vwCl (wd_X8_finds Γ q0 q1 q2 q3 q4 q5 q6 q7 q8 q9 d0 d1 d2 d3 d4 d5 length undoMany zeroKept oneKept seen spot kind begin letters figures value plated driven rows periods leastPeriod sv seenCell seenIs height speed top low motion often) H → va_D A (wd_X8_finds Γ q0 q1 q2 q3 q4 q5 q6 q7 q8 q9 d0 d1 d2 d3 d4 d5 length undoMany zeroKept oneKept seen spot kind begin letters figures value plated driven rows periods leastPeriod sv seenCell seenIs height speed top low motion often) → va_S A s.heap H locs → lv_has ls 4 [(0, .ref q0), (1, .int x1)] → f_X8_finds_34 seen periods leastPeriod sv seenCell seenIs height speed top low motion often x1 = some out → W p l e ({ frames := 5, cells := 0, slots := 0, locals := 123 } : Room) s m ([.ref q0] : List Value).toArray below meth c H locs 0 0 QQ (F0 m 34 ls []) := by
    intro periods leastPeriod height speed top low motion often x1 H locs ls hP hD hS hl hf
    unfold f_X8_finds_34 at hf
    obtain ⟨ex34, h1, hX34⟩ := obx_some hf
    have LP : ∀ (n : Nat) (periods : Int32) (leastPeriod : Int32) (height : Nat → Int32) (speed : Nat → Int32) (top : Nat → Int32) (low : Nat → Int32) (motion : Nat → Int32) (often : Nat → Int32) (x1 : Int32)  {H : Heap} {locs : List Loc} {ls : Array Slot}, va_P Γ.1 vwCl (wd_X8_finds Γ q0 q1 q2 q3 q4 q5 q6 q7 q8 q9 d0 d1 d2 d3 d4 d5 length undoMany zeroKept oneKept seen spot kind begin letters figures value plated driven rows periods leastPeriod sv seenCell seenIs height speed top low motion often) H → va_D A (wd_X8_finds Γ q0 q1 q2 q3 q4 q5 q6 q7 q8 q9 d0 d1 d2 d3 d4 d5 length undoMany zeroKept oneKept seen spot kind begin letters figures value plated driven rows periods leastPeriod sv seenCell seenIs height speed top low motion often) → va_S A s.heap H locs → lv_has ls 4 [(0, .ref q0), (1, .int x1)] → vm_it (f_X8_finds_34s seen sv seenCell seenIs) n (periods, leastPeriod, height, speed, top, low, motion, often, x1) = some ex34 → W p l e ({ frames := 5, cells := 0, slots := 0, locals := 123 } : Room) s m ([.ref q0] : List Value).toArray below meth c H locs 0 0 QQ (F0 m 34 ls []) := by
      clear hP hD hS hl hf h1
      intro n
      induction n with
      | zero => intro periods leastPeriod height speed top low motion often x1 H locs ls hP hD hS hl hf; exact (vm_it_0 hf).elim
      | succ n ih =>
        intro periods leastPeriod height speed top low motion often x1 H locs ls hP hD hS hl hf
        have hf : f_X8_finds_34b seen sv seenCell seenIs periods leastPeriod height speed top low motion often x1 (vm_it (f_X8_finds_34s seen sv seenCell seenIs) n) = some ex34 := hf
        have K_199 : ∀ (periods : Int32) (leastPeriod : Int32) (height : Nat → Int32) (speed : Nat → Int32) (top : Nat → Int32) (low : Nat → Int32) (motion : Nat → Int32) (often : Nat → Int32) (x1 : Int32) {H : Heap} {locs : List Loc} {ls : Array Slot}, va_P Γ.1 vwCl (wd_X8_finds Γ q0 q1 q2 q3 q4 q5 q6 q7 q8 q9 d0 d1 d2 d3 d4 d5 length undoMany zeroKept oneKept seen spot kind begin letters figures value plated driven rows periods leastPeriod sv seenCell seenIs height speed top low motion often) H → va_D A (wd_X8_finds Γ q0 q1 q2 q3 q4 q5 q6 q7 q8 q9 d0 d1 d2 d3 d4 d5 length undoMany zeroKept oneKept seen spot kind begin letters figures value plated driven rows periods leastPeriod sv seenCell seenIs height speed top low motion often) → va_S A s.heap H locs → lv_has ls 4 [(0, .ref q0), (1, .int x1)] → f_X8_finds_199 seen periods leastPeriod sv seenCell seenIs height speed top low motion often x1 (vm_it (f_X8_finds_34s seen sv seenCell seenIs) n) = some ex34 → W p l e ({ frames := 5, cells := 0, slots := 0, locals := 123 } : Room) s m ([.ref q0] : List Value).toArray below meth c H locs 0 0 QQ (F0 m 199 ls []) := by
          intro periods leastPeriod height speed top low motion often x1 H locs ls hP hD hS hl hf
          unfold f_X8_finds_199 at hf
          refine lv_iinc (v := (x1 + 1)) (lv' := [(1, .int (x1 + 1)), (0, .ref q0)]) hx hb dX8_finds_199 hl (k := 1) rfl rfl (by decide) rfl (fun ls hl => ?_)
          refine lv_goto (tgt := 34) hx hb dX8_finds_202 (by decide) ?_
          exact ih periods leastPeriod height speed top low motion often (x1 + 1) hP hD hS (lv_sub hl [1, 0] rfl) hf
        have K_159 : ∀ (periods : Int32) (leastPeriod : Int32) (height : Nat → Int32) (speed : Nat → Int32) (top : Nat → Int32) (low : Nat → Int32) (motion : Nat → Int32) (often : Nat → Int32) (x1 : Int32) (x2 : Int32) (x3 : Int32) {H : Heap} {locs : List Loc} {ls : Array Slot}, va_P Γ.1 vwCl (wd_X8_finds Γ q0 q1 q2 q3 q4 q5 q6 q7 q8 q9 d0 d1 d2 d3 d4 d5 length undoMany zeroKept oneKept seen spot kind begin letters figures value plated driven rows periods leastPeriod sv seenCell seenIs height speed top low motion often) H → va_D A (wd_X8_finds Γ q0 q1 q2 q3 q4 q5 q6 q7 q8 q9 d0 d1 d2 d3 d4 d5 length undoMany zeroKept oneKept seen spot kind begin letters figures value plated driven rows periods leastPeriod sv seenCell seenIs height speed top low motion often) → va_S A s.heap H locs → lv_has ls 4 [(0, .ref q0), (1, .int x1), (2, .int x2), (3, .int x3)] → f_X8_finds_159 seen periods leastPeriod sv seenCell seenIs height speed top low motion often x1 x2 x3 (vm_it (f_X8_finds_34s seen sv seenCell seenIs) n) = some ex34 → W p l e ({ frames := 5, cells := 0, slots := 0, locals := 123 } : Room) s m ([.ref q0] : List Value).toArray below meth c H locs 0 0 QQ (F0 m 159 ls []) := by
          intro periods leastPeriod height speed top low motion often x1 x2 x3 H locs ls hP hD hS hl hf
          unfold f_X8_finds_159 at hf
          obtain ⟨ex159, h1, hX159⟩ := obx_some hf
          have LP : ∀ (n : Nat) (often : Nat → Int32) (x3 : Int32)  {H : Heap} {locs : List Loc} {ls : Array Slot}, va_P Γ.1 vwCl (wd_X8_finds Γ q0 q1 q2 q3 q4 q5 q6 q7 q8 q9 d0 d1 d2 d3 d4 d5 length undoMany zeroKept oneKept seen spot kind begin letters figures value plated driven rows periods leastPeriod sv seenCell seenIs height speed top low motion often) H → va_D A (wd_X8_finds Γ q0 q1 q2 q3 q4 q5 q6 q7 q8 q9 d0 d1 d2 d3 d4 d5 length undoMany zeroKept oneKept seen spot kind begin letters figures value plated driven rows periods leastPeriod sv seenCell seenIs height speed top low motion often) → va_S A s.heap H locs → lv_has ls 4 [(0, .ref q0), (1, .int x1), (2, .int x2), (3, .int x3)] → vm_it (f_X8_finds_159s seen periods leastPeriod sv seenCell seenIs height speed top low motion x1 x2) n (often, x3) = some ex159 → W p l e ({ frames := 5, cells := 0, slots := 0, locals := 123 } : Room) s m ([.ref q0] : List Value).toArray below meth c H locs 0 0 QQ (F0 m 159 ls []) := by
            clear hP hD hS hl hf h1
            intro n
            induction n with
            | zero => intro often x3 H locs ls hP hD hS hl hf; exact (vm_it_0 hf).elim
            | succ n ih =>
              intro often x3 H locs ls hP hD hS hl hf
              have hf : f_X8_finds_159b seen periods leastPeriod sv seenCell seenIs height speed top low motion x1 x2 often x3 (vm_it (f_X8_finds_159s seen periods leastPeriod sv seenCell seenIs height speed top low motion x1 x2) n) = some ex159 := hf
              have K_191 : ∀ (often : Nat → Int32) (x3 : Int32) (s1 : Int32) (s2 : Int32) (s3 : Int32) {H : Heap} {locs : List Loc} {ls : Array Slot}, va_P Γ.1 vwCl (wd_X8_finds Γ q0 q1 q2 q3 q4 q5 q6 q7 q8 q9 d0 d1 d2 d3 d4 d5 length undoMany zeroKept oneKept seen spot kind begin letters figures value plated driven rows periods leastPeriod sv seenCell seenIs height speed top low motion often) H → va_D A (wd_X8_finds Γ q0 q1 q2 q3 q4 q5 q6 q7 q8 q9 d0 d1 d2 d3 d4 d5 length undoMany zeroKept oneKept seen spot kind begin letters figures value plated driven rows periods leastPeriod sv seenCell seenIs height speed top low motion often) → va_S A s.heap H locs → lv_has ls 4 [(0, .ref q0), (1, .int x1), (2, .int x2), (3, .int x3)] → f_X8_finds_191 seen periods leastPeriod sv seenCell seenIs height speed top low motion often x1 x2 x3 s1 s2 s3 (vm_it (f_X8_finds_159s seen periods leastPeriod sv seenCell seenIs height speed top low motion x1 x2) n) = some ex159 → W p l e ({ frames := 5, cells := 0, slots := 0, locals := 123 } : Room) s m ([.ref q0] : List Value).toArray below meth c H locs 0 0 QQ (F0 m 191 ls [.int s3, .int s2, .int s1, .ref q9]) := by
                intro often x3 s1 s2 s3 H locs ls hP hD hS hl hf
                unfold f_X8_finds_191 at hf
                refine lv_iadd hx hb dX8_finds_191 ?_
                obtain ⟨hc_1, hf⟩ := vm_ck hf
                refine vm_iast hx hb hK hP hD hS 9 0 rfl rfl hc_1 (j := (s1.toNatClampNeg)) rfl dX8_finds_192 (fun H locs hP hD hS => ?_)
                have hP : va_P Γ.1 vwCl (wd_X8_finds Γ q0 q1 q2 q3 q4 q5 q6 q7 q8 q9 d0 d1 d2 d3 d4 d5 length undoMany zeroKept oneKept seen spot kind begin letters figures value plated driven rows periods leastPeriod sv seenCell seenIs height speed top low motion (upd often (s1.toNatClampNeg) (s2 + s3))) H := hP
                have hD : va_D A (wd_X8_finds Γ q0 q1 q2 q3 q4 q5 q6 q7 q8 q9 d0 d1 d2 d3 d4 d5 length undoMany zeroKept oneKept seen spot kind begin letters figures value plated driven rows periods leastPeriod sv seenCell seenIs height speed top low motion (upd often (s1.toNatClampNeg) (s2 + s3))) := hD
                refine lv_iinc (v := (x3 + 1)) (lv' := [(3, .int (x3 + 1)), (0, .ref q0), (1, .int x1), (2, .int x2)]) hx hb dX8_finds_193 hl (k := 3) rfl rfl (by decide) rfl (fun ls hl => ?_)
                refine lv_goto (tgt := 159) hx hb dX8_finds_196 (by decide) ?_
                exact ih (upd often (s1.toNatClampNeg) (s2 + s3)) (x3 + 1) hP hD hS (lv_sub hl [1, 2, 3, 0] rfl) hf
              unfold f_X8_finds_159b at hf
              refine lv_iload_n hx hb dX8_finds_159 rfl (lv_at hl 3 rfl) ?_
              refine lv_aload_n hx hb dX8_finds_160 rfl (lv_at hl 0 rfl) ?_
              obtain ⟨r_2, hq_3, hf⟩ := ob1_some hf
              refine vm_cVi (isC := [0, 1]) (wc := (wd_X8_cells Γ q0 q1 d0 d1 d2 d3 q2 q3 q4 q5 q6 q7 q8 d4 d5 q9 length undoMany zeroKept oneKept seen spot kind begin letters figures value plated driven rows periods leastPeriod sv)) (w1 := (wd_X8_cells Γ q0 q1 d0 d1 d2 d3 q2 q3 q4 q5 q6 q7 q8 d4 d5 q9 length undoMany zeroKept oneKept seen spot kind begin letters figures value plated driven rows periods leastPeriod sv)) (As := []) (rest := [.int x3]) ⟨hx, hb, hml, hown, hts⟩ hE hP hD hS hA rfl rfl rfl (c_X8_cells l Γ _ q0 q1 d0 d1 d2 d3 q2 q3 q4 q5 q6 q7 q8 d4 d5 q9 length undoMany zeroKept oneKept seen spot kind begin letters figures value plated driven rows periods leastPeriod sv r_2 hq_3) (cwV 0 hts gX8_finds_X8_cells rfl rfl rfl (by decide +kernel) ⟨Nat.le_of_ble_eq_true rfl, Nat.le_of_ble_eq_true rfl⟩) (va_recv (ci := 8) (q0 := 0) hK hP rfl rfl) rfl hl.1 rfl (Nat.le_of_ble_eq_true rfl) dX8_finds_161 ⟨Nat.zero_le _, Nat.zero_le _⟩ (fun H locs hP hD hS => ?_)
              have hP : va_P Γ.1 vwCl (wd_X8_finds Γ q0 q1 q2 q3 q4 q5 q6 q7 q8 q9 d0 d1 d2 d3 d4 d5 length undoMany zeroKept oneKept seen spot kind begin letters figures value plated driven rows periods leastPeriod sv seenCell seenIs height speed top low motion often) H := hP
              have hD : va_D A (wd_X8_finds Γ q0 q1 q2 q3 q4 q5 q6 q7 q8 q9 d0 d1 d2 d3 d4 d5 length undoMany zeroKept oneKept seen spot kind begin letters figures value plated driven rows periods leastPeriod sv seenCell seenIs height speed top low motion often) := hD
              refine lv_icmp_ge (tgt := 199) hx hb dX8_finds_164 (by decide) (fun hc_4 => ?_) (fun hc_4 => ?_)
              · have hf := vm_pos hc_4 hf
                have hX := hX159
                rw [← Option.some.inj hf] at hX
                exact K_199 periods leastPeriod height speed top low motion often x1 hP hD hS (lv_sub hl [0, 1] rfl) hX
              · have hf := vm_neg hc_4 hf
                refine lv_iload_n hx hb dX8_finds_167 rfl (lv_at hl 2 rfl) ?_
                refine lv_if_eq (tgt := 199) hx hb dX8_finds_168 (by decide) (fun hc_5 => ?_) (fun hc_5 => ?_)
                · have hf := vm_pos hc_5 hf
                  have hX := hX159
                  rw [← Option.some.inj hf] at hX
                  exact K_199 periods leastPeriod height speed top low motion often x1 hP hD hS (lv_sub hl [0, 1] rfl) hX
                · have hf := vm_neg hc_5 hf
                  refine lv_aload_n hx hb dX8_finds_171 rfl (lv_at hl 0 rfl) ?_
                  refine va_get (D := Γ.1) (ci := 8) (v := .ref q9) (C := RX8) (T := TX8) (N := 31) hx hb hts hi8 hown hK hP 0 rfl rfl 28 (by decide) (hts (.fieldLink RX8 52 "SandPlatesModel" "often" "[I") (List.mem_of_getElem? (i := 3) rfl)) (fun _ h9 => h9) rfl dX8_finds_172 ?_
                  refine lv_iload_n hx hb dX8_finds_175 rfl (lv_at hl 3 rfl) ?_
                  refine lv_dup2_11 hx hb dX8_finds_176 rfl rfl ?_
                  obtain ⟨hc_6, hf⟩ := vm_ck hf
                  refine vm_iald hx hb hK hP 9 0 rfl rfl hc_6 (j := x3.toNatClampNeg) rfl dX8_finds_177 ?_
                  refine lv_aload_n hx hb dX8_finds_178 rfl (lv_at hl 0 rfl) ?_
                  refine lv_iload_n hx hb dX8_finds_179 rfl (lv_at hl 3 rfl) ?_
                  obtain ⟨r_7, hq_8, hf⟩ := ob1_some hf
                  refine vm_cVi (isC := [0, 1, 8]) (wc := (wd_X8_isStill Γ q0 q1 q8 d0 d1 d2 d3 q2 q3 q4 q5 q6 q7 d4 d5 q9 length undoMany zeroKept oneKept seen spot kind begin letters figures value plated driven rows periods leastPeriod sv motion)) (w1 := (wd_X8_isStill Γ q0 q1 q8 d0 d1 d2 d3 q2 q3 q4 q5 q6 q7 d4 d5 q9 length undoMany zeroKept oneKept seen spot kind begin letters figures value plated driven rows periods leastPeriod sv motion)) (As := [.int x3]) (rest := [.int (often (x3.toNatClampNeg)), .int x3, .ref q9]) ⟨hx, hb, hml, hown, hts⟩ hE hP hD hS hA rfl rfl rfl (c_X8_isStill l Γ _ q0 q1 q8 d0 d1 d2 d3 q2 q3 q4 q5 q6 q7 d4 d5 q9 length undoMany zeroKept oneKept seen spot kind begin letters figures value plated driven rows periods leastPeriod sv motion x3 r_7 hq_8) (cwV 1 hts gX8_finds_X8_isStill rfl rfl rfl (by decide +kernel) ⟨Nat.le_of_ble_eq_true rfl, Nat.le_of_ble_eq_true rfl⟩) (va_recv (ci := 8) (q0 := 0) hK hP rfl rfl) rfl hl.1 rfl (Nat.le_of_ble_eq_true rfl) dX8_finds_180 ⟨Nat.zero_le _, Nat.zero_le _⟩ (fun H locs hP hD hS => ?_)
                  have hP : va_P Γ.1 vwCl (wd_X8_finds Γ q0 q1 q2 q3 q4 q5 q6 q7 q8 q9 d0 d1 d2 d3 d4 d5 length undoMany zeroKept oneKept seen spot kind begin letters figures value plated driven rows periods leastPeriod sv seenCell seenIs height speed top low motion often) H := hP
                  have hD : va_D A (wd_X8_finds Γ q0 q1 q2 q3 q4 q5 q6 q7 q8 q9 d0 d1 d2 d3 d4 d5 length undoMany zeroKept oneKept seen spot kind begin letters figures value plated driven rows periods leastPeriod sv seenCell seenIs height speed top low motion often) := hD
                  refine lv_if_eq (tgt := 190) hx hb dX8_finds_183 (by decide) (fun hc_9 => ?_) (fun hc_9 => ?_)
                  · have hf := vm_pos hc_9 hf
                    refine lv_iconst (v := 0) hx hb dX8_finds_190 (by decide) ?_
                    exact K_191 often x3 x3 (often (x3.toNatClampNeg)) 0 hP hD hS (lv_sub hl [0, 1, 2, 3] rfl) hf
                  · have hf := vm_neg hc_9 hf
                    refine lv_iconst (v := 1) hx hb dX8_finds_186 (by decide) ?_
                    refine lv_goto (tgt := 191) hx hb dX8_finds_187 (by decide) ?_
                    exact K_191 often x3 x3 (often (x3.toNatClampNeg)) 1 hP hD hS (lv_sub hl [0, 1, 2, 3] rfl) hf
          exact LP FU often x3 hP hD hS hl h1
        have K_154 : ∀ (periods : Int32) (height : Nat → Int32) (speed : Nat → Int32) (top : Nat → Int32) (low : Nat → Int32) (motion : Nat → Int32) (often : Nat → Int32) (x1 : Int32) (x2 : Int32) (s1 : Int32) {leastPeriod : Int32} {H : Heap} {locs : List Loc} {ls : Array Slot}, va_P Γ.1 vwCl (wd_X8_finds Γ q0 q1 q2 q3 q4 q5 q6 q7 q8 q9 d0 d1 d2 d3 d4 d5 length undoMany zeroKept oneKept seen spot kind begin letters figures value plated driven rows periods leastPeriod sv seenCell seenIs height speed top low motion often) H → va_D A (wd_X8_finds Γ q0 q1 q2 q3 q4 q5 q6 q7 q8 q9 d0 d1 d2 d3 d4 d5 length undoMany zeroKept oneKept seen spot kind begin letters figures value plated driven rows periods leastPeriod sv seenCell seenIs height speed top low motion often) → va_S A s.heap H locs → lv_has ls 4 [(0, .ref q0), (1, .int x1), (2, .int x2)] → f_X8_finds_154 seen periods sv seenCell seenIs height speed top low motion often x1 x2 s1 (vm_it (f_X8_finds_34s seen sv seenCell seenIs) n) = some ex34 → W p l e ({ frames := 5, cells := 0, slots := 0, locals := 123 } : Room) s m ([.ref q0] : List Value).toArray below meth c H locs 0 0 QQ (F0 m 154 ls [.int s1, .ref q0]) := by
          intro periods height speed top low motion often x1 x2 s1 leastPeriod H locs ls hP hD hS hl hf
          unfold f_X8_finds_154 at hf
          refine va_put (D := Γ.1) (ci := 8) (v := .int s1) (ty := .int) (C := RX8) (T := TX8) (N := 31) hx hb hts hi8 tyX8 tyX8_ok nmX8 hown hK hP hD hS 0 rfl rfl 30 (by decide) (hts (.fieldLink RX8 236 "SandPlatesModel" "leastPeriod" "I") (List.mem_of_getElem? (i := 2) rfl)) (fun _ h9 => h9) rfl (by decide +kernel) rfl rfl (Nat.le_of_ble_eq_true rfl) dX8_finds_154 (fun H locs hP hD hS => ?_)
          have hP : va_P Γ.1 vwCl (wd_X8_finds Γ q0 q1 q2 q3 q4 q5 q6 q7 q8 q9 d0 d1 d2 d3 d4 d5 length undoMany zeroKept oneKept seen spot kind begin letters figures value plated driven rows periods s1 sv seenCell seenIs height speed top low motion often) H := hP
          have hD : va_D A (wd_X8_finds Γ q0 q1 q2 q3 q4 q5 q6 q7 q8 q9 d0 d1 d2 d3 d4 d5 length undoMany zeroKept oneKept seen spot kind begin letters figures value plated driven rows periods s1 sv seenCell seenIs height speed top low motion often) := hD
          refine lv_iconst (v := 0) hx hb dX8_finds_157 (by decide) ?_
          refine lv_istore_n (lv' := [(3, .int 0), (0, .ref q0), (1, .int x1), (2, .int x2)]) hx hb dX8_finds_158 rfl hl (by decide) rfl (fun ls hl => ?_)
          exact K_159 periods s1 height speed top low motion often x1 x2 0 hP hD hS (lv_sub hl [1, 2, 3, 0] rfl) hf
        have K_150 : ∀ (periods : Int32) (leastPeriod : Int32) (height : Nat → Int32) (speed : Nat → Int32) (top : Nat → Int32) (low : Nat → Int32) (motion : Nat → Int32) (often : Nat → Int32) (x1 : Int32) (x2 : Int32) {H : Heap} {locs : List Loc} {ls : Array Slot}, va_P Γ.1 vwCl (wd_X8_finds Γ q0 q1 q2 q3 q4 q5 q6 q7 q8 q9 d0 d1 d2 d3 d4 d5 length undoMany zeroKept oneKept seen spot kind begin letters figures value plated driven rows periods leastPeriod sv seenCell seenIs height speed top low motion often) H → va_D A (wd_X8_finds Γ q0 q1 q2 q3 q4 q5 q6 q7 q8 q9 d0 d1 d2 d3 d4 d5 length undoMany zeroKept oneKept seen spot kind begin letters figures value plated driven rows periods leastPeriod sv seenCell seenIs height speed top low motion often) → va_S A s.heap H locs → lv_has ls 4 [(0, .ref q0), (1, .int x1), (2, .int x2)] → f_X8_finds_150 seen periods leastPeriod sv seenCell seenIs height speed top low motion often x1 x2 (vm_it (f_X8_finds_34s seen sv seenCell seenIs) n) = some ex34 → W p l e ({ frames := 5, cells := 0, slots := 0, locals := 123 } : Room) s m ([.ref q0] : List Value).toArray below meth c H locs 0 0 QQ (F0 m 150 ls [.ref q0]) := by
          intro periods leastPeriod height speed top low motion often x1 x2 H locs ls hP hD hS hl hf
          unfold f_X8_finds_150 at hf
          refine lv_aload_n hx hb dX8_finds_150 rfl (lv_at hl 0 rfl) ?_
          refine va_get (D := Γ.1) (ci := 8) (v := .int leastPeriod) (C := RX8) (T := TX8) (N := 31) hx hb hts hi8 hown hK hP 0 rfl rfl 30 (by decide) (hts (.fieldLink RX8 236 "SandPlatesModel" "leastPeriod" "I") (List.mem_of_getElem? (i := 2) rfl)) (fun _ h9 => h9) rfl dX8_finds_151 ?_
          exact K_154 periods height speed top low motion often x1 x2 leastPeriod hP hD hS (lv_sub hl [0, 1, 2] rfl) hf
        have K_128 : ∀ (leastPeriod : Int32) (height : Nat → Int32) (speed : Nat → Int32) (top : Nat → Int32) (low : Nat → Int32) (motion : Nat → Int32) (often : Nat → Int32) (x1 : Int32) (x2 : Int32) (s1 : Int32) (s2 : Int32) {periods : Int32} {H : Heap} {locs : List Loc} {ls : Array Slot}, va_P Γ.1 vwCl (wd_X8_finds Γ q0 q1 q2 q3 q4 q5 q6 q7 q8 q9 d0 d1 d2 d3 d4 d5 length undoMany zeroKept oneKept seen spot kind begin letters figures value plated driven rows periods leastPeriod sv seenCell seenIs height speed top low motion often) H → va_D A (wd_X8_finds Γ q0 q1 q2 q3 q4 q5 q6 q7 q8 q9 d0 d1 d2 d3 d4 d5 length undoMany zeroKept oneKept seen spot kind begin letters figures value plated driven rows periods leastPeriod sv seenCell seenIs height speed top low motion often) → va_S A s.heap H locs → lv_has ls 4 [(0, .ref q0), (1, .int x1), (2, .int x2)] → f_X8_finds_128 seen leastPeriod sv seenCell seenIs height speed top low motion often x1 x2 s1 s2 (vm_it (f_X8_finds_34s seen sv seenCell seenIs) n) = some ex34 → W p l e ({ frames := 5, cells := 0, slots := 0, locals := 123 } : Room) s m ([.ref q0] : List Value).toArray below meth c H locs 0 0 QQ (F0 m 128 ls [.int s2, .int s1, .ref q0]) := by
          intro leastPeriod height speed top low motion often x1 x2 s1 s2 periods H locs ls hP hD hS hl hf
          unfold f_X8_finds_128 at hf
          refine lv_iadd hx hb dX8_finds_128 ?_
          refine va_put (D := Γ.1) (ci := 8) (v := .int (s1 + s2)) (ty := .int) (C := RX8) (T := TX8) (N := 31) hx hb hts hi8 tyX8 tyX8_ok nmX8 hown hK hP hD hS 0 rfl rfl 29 (by decide) (hts (.fieldLink RX8 233 "SandPlatesModel" "periods" "I") (List.mem_of_getElem? (i := 1) rfl)) (fun _ h9 => h9) rfl (by decide +kernel) rfl rfl (Nat.le_of_ble_eq_true rfl) dX8_finds_129 (fun H locs hP hD hS => ?_)
          have hP : va_P Γ.1 vwCl (wd_X8_finds Γ q0 q1 q2 q3 q4 q5 q6 q7 q8 q9 d0 d1 d2 d3 d4 d5 length undoMany zeroKept oneKept seen spot kind begin letters figures value plated driven rows (s1 + s2) leastPeriod sv seenCell seenIs height speed top low motion often) H := hP
          have hD : va_D A (wd_X8_finds Γ q0 q1 q2 q3 q4 q5 q6 q7 q8 q9 d0 d1 d2 d3 d4 d5 length undoMany zeroKept oneKept seen spot kind begin letters figures value plated driven rows (s1 + s2) leastPeriod sv seenCell seenIs height speed top low motion often) := hD
          refine lv_aload_n hx hb dX8_finds_132 rfl (lv_at hl 0 rfl) ?_
          refine lv_iload_n hx hb dX8_finds_133 rfl (lv_at hl 2 rfl) ?_
          refine lv_if_eq (tgt := 150) hx hb dX8_finds_134 (by decide) (fun hc_10 => ?_) (fun hc_10 => ?_)
          · have hf := vm_pos hc_10 hf
            exact K_150 (s1 + s2) leastPeriod height speed top low motion often x1 x2 hP hD hS (lv_sub hl [0, 1, 2] rfl) hf
          · have hf := vm_neg hc_10 hf
            refine lv_aload_n hx hb dX8_finds_137 rfl (lv_at hl 0 rfl) ?_
            refine va_get (D := Γ.1) (ci := 8) (v := .int leastPeriod) (C := RX8) (T := TX8) (N := 31) hx hb hts hi8 hown hK hP 0 rfl rfl 30 (by decide) (hts (.fieldLink RX8 236 "SandPlatesModel" "leastPeriod" "I") (List.mem_of_getElem? (i := 2) rfl)) (fun _ h9 => h9) rfl dX8_finds_138 ?_
            refine lv_bipush (v := (-9)) hx hb dX8_finds_141 (by decide) ?_
            refine lv_icmp_ne (tgt := 150) hx hb dX8_finds_143 (by decide) (fun hc_11 => ?_) (fun hc_11 => ?_)
            · have hf := vm_neg hc_11 hf
              exact K_150 (s1 + s2) leastPeriod height speed top low motion often x1 x2 hP hD hS (lv_sub hl [0, 1, 2] rfl) hf
            · have hf := vm_pos hc_11 hf
              refine lv_iload_n hx hb dX8_finds_146 rfl (lv_at hl 1 rfl) ?_
              refine lv_goto (tgt := 154) hx hb dX8_finds_147 (by decide) ?_
              exact K_154 (s1 + s2) height speed top low motion often x1 x2 x1 hP hD hS (lv_sub hl [0, 1, 2] rfl) hf
        have K_114 : ∀ (periods : Int32) (leastPeriod : Int32) (height : Nat → Int32) (speed : Nat → Int32) (top : Nat → Int32) (low : Nat → Int32) (motion : Nat → Int32) (often : Nat → Int32) (x1 : Int32) (x2 : Int32) {H : Heap} {locs : List Loc} {ls : Array Slot}, va_P Γ.1 vwCl (wd_X8_finds Γ q0 q1 q2 q3 q4 q5 q6 q7 q8 q9 d0 d1 d2 d3 d4 d5 length undoMany zeroKept oneKept seen spot kind begin letters figures value plated driven rows periods leastPeriod sv seenCell seenIs height speed top low motion often) H → va_D A (wd_X8_finds Γ q0 q1 q2 q3 q4 q5 q6 q7 q8 q9 d0 d1 d2 d3 d4 d5 length undoMany zeroKept oneKept seen spot kind begin letters figures value plated driven rows periods leastPeriod sv seenCell seenIs height speed top low motion often) → va_S A s.heap H locs → lv_has ls 4 [(0, .ref q0), (1, .int x1), (2, .int x2)] → f_X8_finds_114 seen periods leastPeriod sv seenCell seenIs height speed top low motion often x1 x2 (vm_it (f_X8_finds_34s seen sv seenCell seenIs) n) = some ex34 → W p l e ({ frames := 5, cells := 0, slots := 0, locals := 123 } : Room) s m ([.ref q0] : List Value).toArray below meth c H locs 0 0 QQ (F0 m 114 ls []) := by
          intro periods leastPeriod height speed top low motion often x1 x2 H locs ls hP hD hS hl hf
          unfold f_X8_finds_114 at hf
          refine lv_aload_n hx hb dX8_finds_114 rfl (lv_at hl 0 rfl) ?_
          refine lv_dup hx hb dX8_finds_115 rfl ?_
          refine va_get (D := Γ.1) (ci := 8) (v := .int periods) (C := RX8) (T := TX8) (N := 31) hx hb hts hi8 hown hK hP 0 rfl rfl 29 (by decide) (hts (.fieldLink RX8 233 "SandPlatesModel" "periods" "I") (List.mem_of_getElem? (i := 1) rfl)) (fun _ h9 => h9) rfl dX8_finds_116 ?_
          refine lv_iload_n hx hb dX8_finds_119 rfl (lv_at hl 2 rfl) ?_
          refine lv_if_eq (tgt := 127) hx hb dX8_finds_120 (by decide) (fun hc_12 => ?_) (fun hc_12 => ?_)
          · have hf := vm_pos hc_12 hf
            refine lv_iconst (v := 0) hx hb dX8_finds_127 (by decide) ?_
            exact K_128 leastPeriod height speed top low motion often x1 x2 periods 0 hP hD hS (lv_sub hl [0, 1, 2] rfl) hf
          · have hf := vm_neg hc_12 hf
            refine lv_iconst (v := 1) hx hb dX8_finds_123 (by decide) ?_
            refine lv_goto (tgt := 128) hx hb dX8_finds_124 (by decide) ?_
            exact K_128 leastPeriod height speed top low motion often x1 x2 periods 1 hP hD hS (lv_sub hl [0, 1, 2] rfl) hf
        have K_49 : ∀ (periods : Int32) (leastPeriod : Int32) (height : Nat → Int32) (speed : Nat → Int32) (top : Nat → Int32) (low : Nat → Int32) (motion : Nat → Int32) (often : Nat → Int32) (x1 : Int32) (x2 : Int32) (x3 : Int32) {H : Heap} {locs : List Loc} {ls : Array Slot}, va_P Γ.1 vwCl (wd_X8_finds Γ q0 q1 q2 q3 q4 q5 q6 q7 q8 q9 d0 d1 d2 d3 d4 d5 length undoMany zeroKept oneKept seen spot kind begin letters figures value plated driven rows periods leastPeriod sv seenCell seenIs height speed top low motion often) H → va_D A (wd_X8_finds Γ q0 q1 q2 q3 q4 q5 q6 q7 q8 q9 d0 d1 d2 d3 d4 d5 length undoMany zeroKept oneKept seen spot kind begin letters figures value plated driven rows periods leastPeriod sv seenCell seenIs height speed top low motion often) → va_S A s.heap H locs → lv_has ls 4 [(0, .ref q0), (1, .int x1), (2, .int x2), (3, .int x3)] → f_X8_finds_49 seen periods leastPeriod sv seenCell seenIs height speed top low motion often x1 x2 x3 (vm_it (f_X8_finds_34s seen sv seenCell seenIs) n) = some ex34 → W p l e ({ frames := 5, cells := 0, slots := 0, locals := 123 } : Room) s m ([.ref q0] : List Value).toArray below meth c H locs 0 0 QQ (F0 m 49 ls []) := by
          intro periods leastPeriod height speed top low motion often x1 x2 x3 H locs ls hP hD hS hl hf
          unfold f_X8_finds_49 at hf
          obtain ⟨ex49, h1, hX49⟩ := obx_some hf
          have LP : ∀ (n : Nat) (x2 : Int32) (x3 : Int32)  {H : Heap} {locs : List Loc} {ls : Array Slot}, va_P Γ.1 vwCl (wd_X8_finds Γ q0 q1 q2 q3 q4 q5 q6 q7 q8 q9 d0 d1 d2 d3 d4 d5 length undoMany zeroKept oneKept seen spot kind begin letters figures value plated driven rows periods leastPeriod sv seenCell seenIs height speed top low motion often) H → va_D A (wd_X8_finds Γ q0 q1 q2 q3 q4 q5 q6 q7 q8 q9 d0 d1 d2 d3 d4 d5 length undoMany zeroKept oneKept seen spot kind begin letters figures value plated driven rows periods leastPeriod sv seenCell seenIs height speed top low motion often) → va_S A s.heap H locs → lv_has ls 4 [(0, .ref q0), (1, .int x1), (2, .int x2), (3, .int x3)] → vm_it (f_X8_finds_49s seen periods leastPeriod sv seenCell seenIs height speed top low motion often x1) n (x2, x3) = some ex49 → W p l e ({ frames := 5, cells := 0, slots := 0, locals := 123 } : Room) s m ([.ref q0] : List Value).toArray below meth c H locs 0 0 QQ (F0 m 49 ls []) := by
            clear hP hD hS hl hf h1
            intro n
            induction n with
            | zero => intro x2 x3 H locs ls hP hD hS hl hf; exact (vm_it_0 hf).elim
            | succ n ih =>
              intro x2 x3 H locs ls hP hD hS hl hf
              have hf : f_X8_finds_49b seen periods leastPeriod sv seenCell seenIs height speed top low motion often x1 x2 x3 (vm_it (f_X8_finds_49s seen periods leastPeriod sv seenCell seenIs height speed top low motion often x1) n) = some ex49 := hf
              have K_107 : ∀ (x3 : Int32) (s0 : Int32) {H : Heap} {locs : List Loc} {ls : Array Slot}, va_P Γ.1 vwCl (wd_X8_finds Γ q0 q1 q2 q3 q4 q5 q6 q7 q8 q9 d0 d1 d2 d3 d4 d5 length undoMany zeroKept oneKept seen spot kind begin letters figures value plated driven rows periods leastPeriod sv seenCell seenIs height speed top low motion often) H → va_D A (wd_X8_finds Γ q0 q1 q2 q3 q4 q5 q6 q7 q8 q9 d0 d1 d2 d3 d4 d5 length undoMany zeroKept oneKept seen spot kind begin letters figures value plated driven rows periods leastPeriod sv seenCell seenIs height speed top low motion often) → va_S A s.heap H locs → lv_has ls 4 [(0, .ref q0), (1, .int x1), (3, .int x3)] → f_X8_finds_107 seen periods leastPeriod sv seenCell seenIs height speed top low motion often x1 x3 s0 (vm_it (f_X8_finds_49s seen periods leastPeriod sv seenCell seenIs height speed top low motion often x1) n) = some ex49 → W p l e ({ frames := 5, cells := 0, slots := 0, locals := 123 } : Room) s m ([.ref q0] : List Value).toArray below meth c H locs 0 0 QQ (F0 m 107 ls [.int s0]) := by
                intro x3 s0 H locs ls hP hD hS hl hf
                unfold f_X8_finds_107 at hf
                refine lv_istore_n (lv' := [(2, .int s0), (0, .ref q0), (1, .int x1), (3, .int x3)]) hx hb dX8_finds_107 rfl hl (by decide) rfl (fun ls hl => ?_)
                refine lv_iinc (v := (x3 + 1)) (lv' := [(3, .int (x3 + 1)), (2, .int s0), (0, .ref q0), (1, .int x1)]) hx hb dX8_finds_108 hl (k := 3) rfl rfl (by decide) rfl (fun ls hl => ?_)
                refine lv_goto (tgt := 49) hx hb dX8_finds_111 (by decide) ?_
                exact ih s0 (x3 + 1) hP hD hS (lv_sub hl [2, 3, 1, 0] rfl) hf
              have K_106 : ∀ (x3 : Int32) {H : Heap} {locs : List Loc} {ls : Array Slot}, va_P Γ.1 vwCl (wd_X8_finds Γ q0 q1 q2 q3 q4 q5 q6 q7 q8 q9 d0 d1 d2 d3 d4 d5 length undoMany zeroKept oneKept seen spot kind begin letters figures value plated driven rows periods leastPeriod sv seenCell seenIs height speed top low motion often) H → va_D A (wd_X8_finds Γ q0 q1 q2 q3 q4 q5 q6 q7 q8 q9 d0 d1 d2 d3 d4 d5 length undoMany zeroKept oneKept seen spot kind begin letters figures value plated driven rows periods leastPeriod sv seenCell seenIs height speed top low motion often) → va_S A s.heap H locs → lv_has ls 4 [(0, .ref q0), (1, .int x1), (3, .int x3)] → f_X8_finds_106 seen periods leastPeriod sv seenCell seenIs height speed top low motion often x1 x3 (vm_it (f_X8_finds_49s seen periods leastPeriod sv seenCell seenIs height speed top low motion often x1) n) = some ex49 → W p l e ({ frames := 5, cells := 0, slots := 0, locals := 123 } : Room) s m ([.ref q0] : List Value).toArray below meth c H locs 0 0 QQ (F0 m 106 ls []) := by
                intro x3 H locs ls hP hD hS hl hf
                unfold f_X8_finds_106 at hf
                refine lv_iconst (v := 0) hx hb dX8_finds_106 (by decide) ?_
                exact K_107 x3 0 hP hD hS (lv_sub hl [0, 1, 2] rfl) hf
              have K_99 : ∀ (x3 : Int32) (s0 : Int32) (s1 : Int32) {H : Heap} {locs : List Loc} {ls : Array Slot}, va_P Γ.1 vwCl (wd_X8_finds Γ q0 q1 q2 q3 q4 q5 q6 q7 q8 q9 d0 d1 d2 d3 d4 d5 length undoMany zeroKept oneKept seen spot kind begin letters figures value plated driven rows periods leastPeriod sv seenCell seenIs height speed top low motion often) H → va_D A (wd_X8_finds Γ q0 q1 q2 q3 q4 q5 q6 q7 q8 q9 d0 d1 d2 d3 d4 d5 length undoMany zeroKept oneKept seen spot kind begin letters figures value plated driven rows periods leastPeriod sv seenCell seenIs height speed top low motion often) → va_S A s.heap H locs → lv_has ls 4 [(0, .ref q0), (1, .int x1), (3, .int x3)] → f_X8_finds_99 seen periods leastPeriod sv seenCell seenIs height speed top low motion often x1 x3 s0 s1 (vm_it (f_X8_finds_49s seen periods leastPeriod sv seenCell seenIs height speed top low motion often x1) n) = some ex49 → W p l e ({ frames := 5, cells := 0, slots := 0, locals := 123 } : Room) s m ([.ref q0] : List Value).toArray below meth c H locs 0 0 QQ (F0 m 99 ls [.int s1, .int s0]) := by
                intro x3 s0 s1 H locs ls hP hD hS hl hf
                unfold f_X8_finds_99 at hf
                refine lv_icmp_ne (tgt := 106) hx hb dX8_finds_99 (by decide) (fun hc_13 => ?_) (fun hc_13 => ?_)
                · have hf := vm_neg hc_13 hf
                  exact K_106 x3 hP hD hS (lv_sub hl [0, 1, 2] rfl) hf
                · have hf := vm_pos hc_13 hf
                  refine lv_iconst (v := 1) hx hb dX8_finds_102 (by decide) ?_
                  refine lv_goto (tgt := 107) hx hb dX8_finds_103 (by decide) ?_
                  exact K_107 x3 1 hP hD hS (lv_sub hl [0, 1, 2] rfl) hf
              unfold f_X8_finds_49b at hf
              refine lv_iload_n hx hb dX8_finds_49 rfl (lv_at hl 3 rfl) ?_
              refine lv_aload_n hx hb dX8_finds_50 rfl (lv_at hl 0 rfl) ?_
              refine va_get (D := Γ.1) (ci := 8) (v := .int seen) (C := RX8) (T := TX8) (N := 31) hx hb hts hi8 hown hK hP 0 rfl rfl 11 (by decide) (hts (.fieldLink RX8 230 "SandPlatesModel" "seen" "I") (List.mem_of_getElem? (i := 4) rfl)) (fun _ h9 => h9) rfl dX8_finds_51 ?_
              refine lv_icmp_ge (tgt := 114) hx hb dX8_finds_54 (by decide) (fun hc_14 => ?_) (fun hc_14 => ?_)
              · have hf := vm_pos hc_14 hf
                have hX := hX49
                rw [← Option.some.inj hf] at hX
                exact K_114 periods leastPeriod height speed top low motion often x1 x2 hP hD hS (lv_sub hl [0, 1, 2] rfl) hX
              · have hf := vm_neg hc_14 hf
                refine lv_iload_n hx hb dX8_finds_57 rfl (lv_at hl 2 rfl) ?_
                refine lv_if_eq (tgt := 114) hx hb dX8_finds_58 (by decide) (fun hc_15 => ?_) (fun hc_15 => ?_)
                · have hf := vm_pos hc_15 hf
                  have hX := hX49
                  rw [← Option.some.inj hf] at hX
                  exact K_114 periods leastPeriod height speed top low motion often x1 x2 hP hD hS (lv_sub hl [0, 1, 2] rfl) hX
                · have hf := vm_neg hc_15 hf
                  refine lv_aload_n hx hb dX8_finds_61 rfl (lv_at hl 0 rfl) ?_
                  refine va_get (D := Γ.1) (ci := 8) (v := .ref q2) (C := RX8) (T := TX8) (N := 31) hx hb hts hi8 hown hK hP 0 rfl rfl 9 (by decide) (hts (.fieldLink RX8 25 "SandPlatesModel" "seenCell" "[I") (List.mem_of_getElem? (i := 5) rfl)) (fun _ h9 => h9) rfl dX8_finds_62 ?_
                  refine lv_iload_n hx hb dX8_finds_65 rfl (lv_at hl 3 rfl) ?_
                  obtain ⟨hc_16, hf⟩ := vm_ck hf
                  refine vm_iald hx hb hK hP 2 0 rfl rfl hc_16 (j := x3.toNatClampNeg) rfl dX8_finds_66 ?_
                  refine lv_aload_n hx hb dX8_finds_67 rfl (lv_at hl 0 rfl) ?_
                  obtain ⟨r_17, hq_18, hf⟩ := ob1_some hf
                  refine vm_cVi (isC := [0, 1]) (wc := (wd_X8_cells Γ q0 q1 d0 d1 d2 d3 q2 q3 q4 q5 q6 q7 q8 d4 d5 q9 length undoMany zeroKept oneKept seen spot kind begin letters figures value plated driven rows periods leastPeriod sv)) (w1 := (wd_X8_cells Γ q0 q1 d0 d1 d2 d3 q2 q3 q4 q5 q6 q7 q8 d4 d5 q9 length undoMany zeroKept oneKept seen spot kind begin letters figures value plated driven rows periods leastPeriod sv)) (As := []) (rest := [.int (seenCell (x3.toNatClampNeg))]) ⟨hx, hb, hml, hown, hts⟩ hE hP hD hS hA rfl rfl rfl (c_X8_cells l Γ _ q0 q1 d0 d1 d2 d3 q2 q3 q4 q5 q6 q7 q8 d4 d5 q9 length undoMany zeroKept oneKept seen spot kind begin letters figures value plated driven rows periods leastPeriod sv r_17 hq_18) (cwV 0 hts gX8_finds_X8_cells rfl rfl rfl (by decide +kernel) ⟨Nat.le_of_ble_eq_true rfl, Nat.le_of_ble_eq_true rfl⟩) (va_recv (ci := 8) (q0 := 0) hK hP rfl rfl) rfl hl.1 rfl (Nat.le_of_ble_eq_true rfl) dX8_finds_68 ⟨Nat.zero_le _, Nat.zero_le _⟩ (fun H locs hP hD hS => ?_)
                  have hP : va_P Γ.1 vwCl (wd_X8_finds Γ q0 q1 q2 q3 q4 q5 q6 q7 q8 q9 d0 d1 d2 d3 d4 d5 length undoMany zeroKept oneKept seen spot kind begin letters figures value plated driven rows periods leastPeriod sv seenCell seenIs height speed top low motion often) H := hP
                  have hD : va_D A (wd_X8_finds Γ q0 q1 q2 q3 q4 q5 q6 q7 q8 q9 d0 d1 d2 d3 d4 d5 length undoMany zeroKept oneKept seen spot kind begin letters figures value plated driven rows periods leastPeriod sv seenCell seenIs height speed top low motion often) := hD
                  refine lv_icmp_ge (tgt := 106) hx hb dX8_finds_71 (by decide) (fun hc_19 => ?_) (fun hc_19 => ?_)
                  · have hf := vm_pos hc_19 hf
                    exact K_106 x3 hP hD hS (lv_sub hl [0, 1, 3] rfl) hf
                  · have hf := vm_neg hc_19 hf
                    refine lv_aload_n hx hb dX8_finds_74 rfl (lv_at hl 0 rfl) ?_
                    refine lv_aload_n hx hb dX8_finds_75 rfl (lv_at hl 0 rfl) ?_
                    refine va_get (D := Γ.1) (ci := 8) (v := .ref q2) (C := RX8) (T := TX8) (N := 31) hx hb hts hi8 hown hK hP 0 rfl rfl 9 (by decide) (hts (.fieldLink RX8 25 "SandPlatesModel" "seenCell" "[I") (List.mem_of_getElem? (i := 5) rfl)) (fun _ h9 => h9) rfl dX8_finds_76 ?_
                    refine lv_iload_n hx hb dX8_finds_79 rfl (lv_at hl 3 rfl) ?_
                    obtain ⟨hc_20, hf⟩ := vm_ck hf
                    refine vm_iald hx hb hK hP 2 0 rfl rfl hc_20 (j := x3.toNatClampNeg) rfl dX8_finds_80 ?_
                    obtain ⟨r_21, hq_22, hf⟩ := ob1_some hf
                    refine vm_cVi (isC := [0, 1, 8]) (wc := (wd_X8_isStill Γ q0 q1 q8 d0 d1 d2 d3 q2 q3 q4 q5 q6 q7 d4 d5 q9 length undoMany zeroKept oneKept seen spot kind begin letters figures value plated driven rows periods leastPeriod sv motion)) (w1 := (wd_X8_isStill Γ q0 q1 q8 d0 d1 d2 d3 q2 q3 q4 q5 q6 q7 d4 d5 q9 length undoMany zeroKept oneKept seen spot kind begin letters figures value plated driven rows periods leastPeriod sv motion)) (As := [.int (seenCell (x3.toNatClampNeg))]) (rest := []) ⟨hx, hb, hml, hown, hts⟩ hE hP hD hS hA rfl rfl rfl (c_X8_isStill l Γ _ q0 q1 q8 d0 d1 d2 d3 q2 q3 q4 q5 q6 q7 d4 d5 q9 length undoMany zeroKept oneKept seen spot kind begin letters figures value plated driven rows periods leastPeriod sv motion (seenCell (x3.toNatClampNeg)) r_21 hq_22) (cwV 1 hts gX8_finds_X8_isStill rfl rfl rfl (by decide +kernel) ⟨Nat.le_of_ble_eq_true rfl, Nat.le_of_ble_eq_true rfl⟩) (va_recv (ci := 8) (q0 := 0) hK hP rfl rfl) rfl hl.1 rfl (Nat.le_of_ble_eq_true rfl) dX8_finds_81 ⟨Nat.zero_le _, Nat.zero_le _⟩ (fun H locs hP hD hS => ?_)
                    have hP : va_P Γ.1 vwCl (wd_X8_finds Γ q0 q1 q2 q3 q4 q5 q6 q7 q8 q9 d0 d1 d2 d3 d4 d5 length undoMany zeroKept oneKept seen spot kind begin letters figures value plated driven rows periods leastPeriod sv seenCell seenIs height speed top low motion often) H := hP
                    have hD : va_D A (wd_X8_finds Γ q0 q1 q2 q3 q4 q5 q6 q7 q8 q9 d0 d1 d2 d3 d4 d5 length undoMany zeroKept oneKept seen spot kind begin letters figures value plated driven rows periods leastPeriod sv seenCell seenIs height speed top low motion often) := hD
                    refine lv_aload_n hx hb dX8_finds_84 rfl (lv_at hl 0 rfl) ?_
                    refine va_get (D := Γ.1) (ci := 8) (v := .ref q3) (C := RX8) (T := TX8) (N := 31) hx hb hts hi8 hown hK hP 0 rfl rfl 10 (by decide) (hts (.fieldLink RX8 28 "SandPlatesModel" "seenIs" "[I") (List.mem_of_getElem? (i := 6) rfl)) (fun _ h9 => h9) rfl dX8_finds_85 ?_
                    refine lv_iload_n hx hb dX8_finds_88 rfl (lv_at hl 3 rfl) ?_
                    obtain ⟨hc_23, hf⟩ := vm_ck hf
                    refine vm_iald hx hb hK hP 3 0 rfl rfl hc_23 (j := x3.toNatClampNeg) rfl dX8_finds_89 ?_
                    refine lv_iconst (v := 1) hx hb dX8_finds_90 (by decide) ?_
                    refine lv_icmp_ne (tgt := 98) hx hb dX8_finds_91 (by decide) (fun hc_24 => ?_) (fun hc_24 => ?_)
                    · have hf := vm_neg hc_24 hf
                      refine lv_iconst (v := 0) hx hb dX8_finds_98 (by decide) ?_
                      exact K_99 x3 r_21 0 hP hD hS (lv_sub hl [0, 1, 3] rfl) hf
                    · have hf := vm_pos hc_24 hf
                      refine lv_iconst (v := 1) hx hb dX8_finds_94 (by decide) ?_
                      refine lv_goto (tgt := 99) hx hb dX8_finds_95 (by decide) ?_
                      exact K_99 x3 r_21 1 hP hD hS (lv_sub hl [0, 1, 3] rfl) hf
          exact LP FU x2 x3 hP hD hS hl h1
        unfold f_X8_finds_34b at hf
        refine lv_iload_n hx hb dX8_finds_34 rfl (lv_at hl 1 rfl) ?_
        refine lv_bipush (v := 21) hx hb dX8_finds_35 (by decide) ?_
        refine lv_icmp_ge (tgt := 205) hx hb dX8_finds_37 (by decide) (fun hc_25 => ?_) (fun hc_25 => ?_)
        · have hf := vm_pos hc_25 hf
          have hX := hX34
          rw [← Option.some.inj hf] at hX
          exact K_205 periods leastPeriod height speed top low motion often hP hD hS (lv_sub hl [] rfl) hX
        · have hf := vm_neg hc_25 hf
          refine lv_aload_n hx hb dX8_finds_40 rfl (lv_at hl 0 rfl) ?_
          refine lv_iload_n hx hb dX8_finds_41 rfl (lv_at hl 1 rfl) ?_
          obtain ⟨height_26, speed_27, top_28, low_29, motion_30, hq_31, hf⟩ := ob5_some hf
          refine vm_cVv (isC := [0, 1, 4, 5, 6, 7, 8]) (wc := (wd_X8_runs Γ q0 q1 q4 q5 q6 q7 q8 d0 d1 d2 d3 q2 q3 d4 d5 q9 length undoMany zeroKept oneKept seen spot kind begin letters figures value plated driven rows periods leastPeriod sv height speed top low motion)) (w1 := (wd_X8_runs Γ q0 q1 q4 q5 q6 q7 q8 d0 d1 d2 d3 q2 q3 d4 d5 q9 length undoMany zeroKept oneKept seen spot kind begin letters figures value plated driven rows periods leastPeriod sv height_26 speed_27 top_28 low_29 motion_30)) (As := [.int x1]) (rest := []) ⟨hx, hb, hml, hown, hts⟩ hE hP hD hS hA rfl rfl rfl (c_X8_runs l Γ _ q0 q1 q4 q5 q6 q7 q8 d0 d1 d2 d3 q2 q3 d4 d5 q9 length undoMany zeroKept oneKept seen spot kind begin letters figures value plated driven rows periods leastPeriod sv height speed top low motion x1 height_26 speed_27 top_28 low_29 motion_30 hq_31) (cwV 1 hts gX8_finds_X8_runs rfl rfl rfl (by decide +kernel) ⟨Nat.le_of_ble_eq_true rfl, Nat.le_of_ble_eq_true rfl⟩) (va_recv (ci := 8) (q0 := 0) hK hP rfl rfl) rfl hl.1 rfl (Nat.le_of_ble_eq_true rfl) dX8_finds_42 ⟨Nat.zero_le _, Nat.zero_le _⟩ (fun H locs hP hD hS => ?_)
          have hP : va_P Γ.1 vwCl (wd_X8_finds Γ q0 q1 q2 q3 q4 q5 q6 q7 q8 q9 d0 d1 d2 d3 d4 d5 length undoMany zeroKept oneKept seen spot kind begin letters figures value plated driven rows periods leastPeriod sv seenCell seenIs height_26 speed_27 top_28 low_29 motion_30 often) H := hP
          have hD : va_D A (wd_X8_finds Γ q0 q1 q2 q3 q4 q5 q6 q7 q8 q9 d0 d1 d2 d3 d4 d5 length undoMany zeroKept oneKept seen spot kind begin letters figures value plated driven rows periods leastPeriod sv seenCell seenIs height_26 speed_27 top_28 low_29 motion_30 often) := hD
          refine lv_iconst (v := 1) hx hb dX8_finds_45 (by decide) ?_
          refine lv_istore_n (lv' := [(2, .int 1), (0, .ref q0), (1, .int x1)]) hx hb dX8_finds_46 rfl hl (by decide) rfl (fun ls hl => ?_)
          refine lv_iconst (v := 0) hx hb dX8_finds_47 (by decide) ?_
          refine lv_istore_n (lv' := [(3, .int 0), (2, .int 1), (0, .ref q0), (1, .int x1)]) hx hb dX8_finds_48 rfl hl (by decide) rfl (fun ls hl => ?_)
          exact K_49 periods leastPeriod height_26 speed_27 top_28 low_29 motion_30 often x1 1 0 hP hD hS (lv_sub hl [2, 3, 1, 0] rfl) hf
    exact LP FU periods leastPeriod height speed top low motion often x1 hP hD hS hl h1
  have K_32 : ∀ (periods : Int32) (leastPeriod : Int32) (height : Nat → Int32) (speed : Nat → Int32) (top : Nat → Int32) (low : Nat → Int32) (motion : Nat → Int32) (often : Nat → Int32) {H : Heap} {locs : List Loc} {ls : Array Slot}, va_P Γ.1 vwCl (wd_X8_finds Γ q0 q1 q2 q3 q4 q5 q6 q7 q8 q9 d0 d1 d2 d3 d4 d5 length undoMany zeroKept oneKept seen spot kind begin letters figures value plated driven rows periods leastPeriod sv seenCell seenIs height speed top low motion often) H → va_D A (wd_X8_finds Γ q0 q1 q2 q3 q4 q5 q6 q7 q8 q9 d0 d1 d2 d3 d4 d5 length undoMany zeroKept oneKept seen spot kind begin letters figures value plated driven rows periods leastPeriod sv seenCell seenIs height speed top low motion often) → va_S A s.heap H locs → lv_has ls 4 [(0, .ref q0)] → f_X8_finds_32 seen periods leastPeriod sv seenCell seenIs height speed top low motion often = some out → W p l e ({ frames := 5, cells := 0, slots := 0, locals := 123 } : Room) s m ([.ref q0] : List Value).toArray below meth c H locs 0 0 QQ (F0 m 32 ls []) := by
    intro periods leastPeriod height speed top low motion often H locs ls hP hD hS hl hf
    unfold f_X8_finds_32 at hf
    refine lv_iconst (v := 2) hx hb dX8_finds_32 (by decide) ?_
    refine lv_istore_n (lv' := [(1, .int 2), (0, .ref q0)]) hx hb dX8_finds_33 rfl hl (by decide) rfl (fun ls hl => ?_)
    exact K_34 periods leastPeriod height speed top low motion often 2 hP hD hS (lv_sub hl [1, 0] rfl) hf
  have K_13 : ∀ (periods : Int32) (leastPeriod : Int32) (height : Nat → Int32) (speed : Nat → Int32) (top : Nat → Int32) (low : Nat → Int32) (motion : Nat → Int32) (often : Nat → Int32) (x1 : Int32) {H : Heap} {locs : List Loc} {ls : Array Slot}, va_P Γ.1 vwCl (wd_X8_finds Γ q0 q1 q2 q3 q4 q5 q6 q7 q8 q9 d0 d1 d2 d3 d4 d5 length undoMany zeroKept oneKept seen spot kind begin letters figures value plated driven rows periods leastPeriod sv seenCell seenIs height speed top low motion often) H → va_D A (wd_X8_finds Γ q0 q1 q2 q3 q4 q5 q6 q7 q8 q9 d0 d1 d2 d3 d4 d5 length undoMany zeroKept oneKept seen spot kind begin letters figures value plated driven rows periods leastPeriod sv seenCell seenIs height speed top low motion often) → va_S A s.heap H locs → lv_has ls 4 [(0, .ref q0), (1, .int x1)] → f_X8_finds_13 seen periods leastPeriod sv seenCell seenIs height speed top low motion often x1 = some out → W p l e ({ frames := 5, cells := 0, slots := 0, locals := 123 } : Room) s m ([.ref q0] : List Value).toArray below meth c H locs 0 0 QQ (F0 m 13 ls []) := by
    intro periods leastPeriod height speed top low motion often x1 H locs ls hP hD hS hl hf
    unfold f_X8_finds_13 at hf
    obtain ⟨ex13, h1, hX13⟩ := obx_some hf
    have LP : ∀ (n : Nat) (often : Nat → Int32) (x1 : Int32)  {H : Heap} {locs : List Loc} {ls : Array Slot}, va_P Γ.1 vwCl (wd_X8_finds Γ q0 q1 q2 q3 q4 q5 q6 q7 q8 q9 d0 d1 d2 d3 d4 d5 length undoMany zeroKept oneKept seen spot kind begin letters figures value plated driven rows periods leastPeriod sv seenCell seenIs height speed top low motion often) H → va_D A (wd_X8_finds Γ q0 q1 q2 q3 q4 q5 q6 q7 q8 q9 d0 d1 d2 d3 d4 d5 length undoMany zeroKept oneKept seen spot kind begin letters figures value plated driven rows periods leastPeriod sv seenCell seenIs height speed top low motion often) → va_S A s.heap H locs → lv_has ls 4 [(0, .ref q0), (1, .int x1)] → vm_it (f_X8_finds_13s seen periods leastPeriod sv seenCell seenIs height speed top low motion) n (often, x1) = some ex13 → W p l e ({ frames := 5, cells := 0, slots := 0, locals := 123 } : Room) s m ([.ref q0] : List Value).toArray below meth c H locs 0 0 QQ (F0 m 13 ls []) := by
      clear hP hD hS hl hf h1
      intro n
      induction n with
      | zero => intro often x1 H locs ls hP hD hS hl hf; exact (vm_it_0 hf).elim
      | succ n ih =>
        intro often x1 H locs ls hP hD hS hl hf
        have hf : f_X8_finds_13b seen periods leastPeriod sv seenCell seenIs height speed top low motion often x1 (vm_it (f_X8_finds_13s seen periods leastPeriod sv seenCell seenIs height speed top low motion) n) = some ex13 := hf
        unfold f_X8_finds_13b at hf
        refine lv_iload_n hx hb dX8_finds_13 rfl (lv_at hl 1 rfl) ?_
        refine lv_bipush (v := 36) hx hb dX8_finds_14 (by decide) ?_
        refine lv_icmp_ge (tgt := 32) hx hb dX8_finds_16 (by decide) (fun hc_32 => ?_) (fun hc_32 => ?_)
        · have hf := vm_pos hc_32 hf
          have hX := hX13
          rw [← Option.some.inj hf] at hX
          exact K_32 periods leastPeriod height speed top low motion often hP hD hS (lv_sub hl [0] rfl) hX
        · have hf := vm_neg hc_32 hf
          refine lv_aload_n hx hb dX8_finds_19 rfl (lv_at hl 0 rfl) ?_
          refine va_get (D := Γ.1) (ci := 8) (v := .ref q9) (C := RX8) (T := TX8) (N := 31) hx hb hts hi8 hown hK hP 0 rfl rfl 28 (by decide) (hts (.fieldLink RX8 52 "SandPlatesModel" "often" "[I") (List.mem_of_getElem? (i := 3) rfl)) (fun _ h9 => h9) rfl dX8_finds_20 ?_
          refine lv_iload_n hx hb dX8_finds_23 rfl (lv_at hl 1 rfl) ?_
          refine lv_iconst (v := 0) hx hb dX8_finds_24 (by decide) ?_
          obtain ⟨hc_33, hf⟩ := vm_ck hf
          refine vm_iast hx hb hK hP hD hS 9 0 rfl rfl hc_33 (j := (x1.toNatClampNeg)) rfl dX8_finds_25 (fun H locs hP hD hS => ?_)
          have hP : va_P Γ.1 vwCl (wd_X8_finds Γ q0 q1 q2 q3 q4 q5 q6 q7 q8 q9 d0 d1 d2 d3 d4 d5 length undoMany zeroKept oneKept seen spot kind begin letters figures value plated driven rows periods leastPeriod sv seenCell seenIs height speed top low motion (upd often (x1.toNatClampNeg) 0)) H := hP
          have hD : va_D A (wd_X8_finds Γ q0 q1 q2 q3 q4 q5 q6 q7 q8 q9 d0 d1 d2 d3 d4 d5 length undoMany zeroKept oneKept seen spot kind begin letters figures value plated driven rows periods leastPeriod sv seenCell seenIs height speed top low motion (upd often (x1.toNatClampNeg) 0)) := hD
          refine lv_iinc (v := (x1 + 1)) (lv' := [(1, .int (x1 + 1)), (0, .ref q0)]) hx hb dX8_finds_26 hl (k := 1) rfl rfl (by decide) rfl (fun ls hl => ?_)
          refine lv_goto (tgt := 13) hx hb dX8_finds_29 (by decide) ?_
          exact ih (upd often (x1.toNatClampNeg) 0) (x1 + 1) hP hD hS (lv_sub hl [1, 0] rfl) hf
    exact LP FU often x1 hP hD hS hl h1
  unfold f_X8_finds at hf
  refine lv_aload_n hx hb dX8_finds_0 rfl (lv_at hl 0 rfl) ?_
  refine lv_iconst (v := 0) hx hb dX8_finds_1 (by decide) ?_
  refine va_put (D := Γ.1) (ci := 8) (v := .int 0) (ty := .int) (C := RX8) (T := TX8) (N := 31) hx hb hts hi8 tyX8 tyX8_ok nmX8 hown hK hP hD hS 0 rfl rfl 29 (by decide) (hts (.fieldLink RX8 233 "SandPlatesModel" "periods" "I") (List.mem_of_getElem? (i := 1) rfl)) (fun _ h9 => h9) rfl (by decide +kernel) rfl rfl (Nat.le_of_ble_eq_true rfl) dX8_finds_2 (fun H locs hP hD hS => ?_)
  have hP : va_P Γ.1 vwCl (wd_X8_finds Γ q0 q1 q2 q3 q4 q5 q6 q7 q8 q9 d0 d1 d2 d3 d4 d5 length undoMany zeroKept oneKept seen spot kind begin letters figures value plated driven rows 0 leastPeriod sv seenCell seenIs height speed top low motion often) H := hP
  have hD : va_D A (wd_X8_finds Γ q0 q1 q2 q3 q4 q5 q6 q7 q8 q9 d0 d1 d2 d3 d4 d5 length undoMany zeroKept oneKept seen spot kind begin letters figures value plated driven rows 0 leastPeriod sv seenCell seenIs height speed top low motion often) := hD
  refine lv_aload_n hx hb dX8_finds_5 rfl (lv_at hl 0 rfl) ?_
  refine lv_bipush (v := (-9)) hx hb dX8_finds_6 (by decide) ?_
  refine va_put (D := Γ.1) (ci := 8) (v := .int (-9)) (ty := .int) (C := RX8) (T := TX8) (N := 31) hx hb hts hi8 tyX8 tyX8_ok nmX8 hown hK hP hD hS 0 rfl rfl 30 (by decide) (hts (.fieldLink RX8 236 "SandPlatesModel" "leastPeriod" "I") (List.mem_of_getElem? (i := 2) rfl)) (fun _ h9 => h9) rfl (by decide +kernel) rfl rfl (Nat.le_of_ble_eq_true rfl) dX8_finds_8 (fun H locs hP hD hS => ?_)
  have hP : va_P Γ.1 vwCl (wd_X8_finds Γ q0 q1 q2 q3 q4 q5 q6 q7 q8 q9 d0 d1 d2 d3 d4 d5 length undoMany zeroKept oneKept seen spot kind begin letters figures value plated driven rows 0 (-9) sv seenCell seenIs height speed top low motion often) H := hP
  have hD : va_D A (wd_X8_finds Γ q0 q1 q2 q3 q4 q5 q6 q7 q8 q9 d0 d1 d2 d3 d4 d5 length undoMany zeroKept oneKept seen spot kind begin letters figures value plated driven rows 0 (-9) sv seenCell seenIs height speed top low motion often) := hD
  refine lv_iconst (v := 0) hx hb dX8_finds_11 (by decide) ?_
  refine lv_istore_n (lv' := [(1, .int 0), (0, .ref q0)]) hx hb dX8_finds_12 rfl hl (by decide) rfl (fun ls hl => ?_)
  exact K_13 0 (-9) height speed top low motion often 0 hP hD hS (lv_sub hl [1, 0] rfl) hf
def wd_X8_which (Γ : GE) (q0 q1 q2 q3 q4 q5 q6 q7 q8 q9 d0 d1 d2 d3 d4 d5 : Nat) (length : Int32) (undoMany : Int32) (zeroKept : Int32) (oneKept : Int32) (seen : Int32) (spot : Int32) (kind : Int32) (begin : Int32) (letters : Int64) (figures : Int32) (value : Int32) (plated : Int32) (driven : Int32) (rows : Int32) (periods : Int32) (leastPeriod : Int32) (sv : Nat → Int32) (seenCell : Nat → Int32) (seenIs : Nat → Int32) (height : Nat → Int32) (speed : Nat → Int32) (top : Nat → Int32) (low : Nat → Int32) (motion : Nat → Int32) (often : Nat → Int32) : va_W := [(q0, .inr (8, [.int length, .ref d0, .ref q1, .ref d1, .ref d2, .int undoMany, .ref d3, .int zeroKept, .int oneKept, .ref q2, .ref q3, .int seen, .int spot, .int kind, .int begin, .long letters, .int figures, .int value, .int plated, .int driven, .int rows, .ref q4, .ref q5, .ref q6, .ref q7, .ref q8, .ref d4, .ref d5, .ref q9, .int periods, .int leastPeriod])), (q1, .inl (Γ.2.1 0, 81, .inl sv)), (q2, .inl (Γ.2.1 0, 6, .inl seenCell)), (q3, .inl (Γ.2.1 0, 6, .inl seenIs)), (q4, .inl (Γ.2.1 0, 36, .inl height)), (q5, .inl (Γ.2.1 0, 36, .inl speed)), (q6, .inl (Γ.2.1 0, 36, .inl top)), (q7, .inl (Γ.2.1 0, 36, .inl low)), (q8, .inl (Γ.2.1 0, 36, .inl motion)), (q9, .inl (Γ.2.1 0, 36, .inl often))]
def f_X8_which_31 (periods : Int32) (leastPeriod : Int32) (height : Nat → Int32) (speed : Nat → Int32) (top : Nat → Int32) (low : Nat → Int32) (motion : Nat → Int32) (often : Nat → Int32) (s0 : Int32) : Option (Int32 × Int32 × Int32 × (Nat → Int32) × (Nat → Int32) × (Nat → Int32) × (Nat → Int32) × (Nat → Int32) × (Nat → Int32)) := some (s0, periods, leastPeriod, height, speed, top, low, motion, often)
def f_X8_which (seen : Int32) (periods : Int32) (leastPeriod : Int32) (sv : Nat → Int32) (seenCell : Nat → Int32) (seenIs : Nat → Int32) (height : Nat → Int32) (speed : Nat → Int32) (top : Nat → Int32) (low : Nat → Int32) (motion : Nat → Int32) (often : Nat → Int32) (x1 : Int32) : Option (Int32 × Int32 × Int32 × (Nat → Int32) × (Nat → Int32) × (Nat → Int32) × (Nat → Int32) × (Nat → Int32) × (Nat → Int32)) := ob1 (f_X8_in ((x1).toInt64) 0 1) (fun r_1 => if r_1 = 0 then (some ((-1), periods, leastPeriod, height, speed, top, low, motion, often)) else (ob8 (f_X8_finds seen sv seenCell seenIs height speed top low motion often) (fun periods_4 leastPeriod_5 height_6 speed_7 top_8 low_9 motion_10 often_11 => if x1 = 0 then (f_X8_which_31 periods_4 leastPeriod_5 height_6 speed_7 top_8 low_9 motion_10 often_11 periods_4) else (f_X8_which_31 periods_4 leastPeriod_5 height_6 speed_7 top_8 low_9 motion_10 often_11 leastPeriod_5))))
set_option maxHeartbeats 4000000 in
set_option maxRecDepth 100000 in
theorem c_X8_which (l : Launch) (Γ : GE) (sz : Nat) (q0 q1 q2 q3 q4 q5 q6 q7 q8 q9 d0 d1 d2 d3 d4 d5 : Nat) (length : Int32) (undoMany : Int32) (zeroKept : Int32) (oneKept : Int32) (seen : Int32) (spot : Int32) (kind : Int32) (begin : Int32) (letters : Int64) (figures : Int32) (value : Int32) (plated : Int32) (driven : Int32) (rows : Int32) (periods : Int32) (leastPeriod : Int32) (sv : Nat → Int32) (seenCell : Nat → Int32) (seenIs : Nat → Int32) (height : Nat → Int32) (speed : Nat → Int32) (top : Nat → Int32) (low : Nat → Int32) (motion : Nat → Int32) (often : Nat → Int32) (x1 : Int32) (ro : Int32) (o_periods : Int32) (o_leastPeriod : Int32) (o_height : Nat → Int32) (o_speed : Nat → Int32) (o_top : Nat → Int32) (o_low : Nat → Int32) (o_motion : Nat → Int32) (o_often : Nat → Int32) (hf : f_X8_which seen periods leastPeriod sv seenCell seenIs height speed top low motion often x1 = some (ro, o_periods, o_leastPeriod, o_height, o_speed, o_top, o_low, o_motion, o_often)) : MetI l yX8_which wsX8_which ({ frames := 6, cells := 0, slots := 0, locals := 146 } : Room) Γ [.ref q0, .int x1] (wd_X8_which Γ q0 q1 q2 q3 q4 q5 q6 q7 q8 q9 d0 d1 d2 d3 d4 d5 length undoMany zeroKept oneKept seen spot kind begin letters figures value plated driven rows periods leastPeriod sv seenCell seenIs height speed top low motion often) (wd_X8_which Γ q0 q1 q2 q3 q4 q5 q6 q7 q8 q9 d0 d1 d2 d3 d4 d5 length undoMany zeroKept oneKept seen spot kind begin letters figures value plated driven rows o_periods o_leastPeriod sv seenCell seenIs o_height o_speed o_top o_low o_motion o_often) sz ro := by
  refine Met.ofW (cc := cX8_which) (maxL := 2) (ret := (some .int)) (by decide) rfl ?_
  intro p e s m args below meth c s₁ B hml hv
  obtain ⟨rfl, hsz, hE, hP, hD⟩ := hv
  have hx := B.exec
  have hb := B.bytes
  have hr := B.returns
  have hts := atoms_spec (ws := wsX8_which) B.pre
  have hown : s.vm.findClass RX8 = some m.cls := findClass_of_methodNamed B.named
  have hlocks := B.notSynchronized
  subst hsz
  generalize hAe : va_A (wd_X8_which Γ q0 q1 q2 q3 q4 q5 q6 q7 q8 q9 d0 d1 d2 d3 d4 d5 length undoMany zeroKept oneKept seen spot kind begin letters figures value plated driven rows periods leastPeriod sv seenCell seenIs height speed top low motion often) s.heap.size = A at hE hD ⊢
  have hA : ∀ q : Nat, s.heap.size ≤ q → A q := fun q h => by rw [← hAe]; exact Or.inr h
  clear hAe
  have hS : va_S A s.heap s.heap [] := va_S.rf
  have hK := hE.1
  have hl := lv_entry ([.ref q0, .int x1]) (n := 2) (Nat.le_of_ble_eq_true rfl)
  rw [lg_entry_eq]
  generalize (lg_sl ([.ref q0, .int x1]) ++ List.replicate (2 - (lg_sl ([.ref q0, .int x1])).length) Slot.unset).toArray = ls at hl ⊢
  have hl : lv_has ls 2 [(0, .ref q0), (1, .int x1)] := hl
  have hi8 : ∀ w ∈ u_ws RX8 TX8 31, w ∈ wsX8_which := fun w h => (List.mem_cons_of_mem _ (List.mem_append_right _ h))
  obtain ⟨out, hout⟩ : ∃ o, o = (ro, o_periods, o_leastPeriod, o_height, o_speed, o_top, o_low, o_motion, o_often) := ⟨_, rfl⟩
  rw [← hout] at hf
  obtain ⟨QQ, hQQ⟩ : ∃ Q, Q = MQ below (va_Qi (fun (r' : Int32) (_ : Unit) => r' = ro) (CQ Γ (wd_X8_which Γ q0 q1 q2 q3 q4 q5 q6 q7 q8 q9 d0 d1 d2 d3 d4 d5 length undoMany zeroKept oneKept seen spot kind begin letters figures value plated driven rows o_periods o_leastPeriod sv seenCell seenIs o_height o_speed o_top o_low o_motion o_often) A) A) (([.ref q0, .int x1] : List Value).toArray) s 0 0 A := ⟨_, rfl⟩
  show W p l e ({ frames := 6, cells := 0, slots := 0, locals := 146 } : Room) s m (([.ref q0, .int x1] : List Value).toArray) below meth c s.heap [] 0 0 (MQ below _ (([.ref q0, .int x1] : List Value).toArray) s 0 0 A) (F0 m 0 ls [])
  rw [← hQQ]
  have K_31 : ∀ (periods : Int32) (leastPeriod : Int32) (height : Nat → Int32) (speed : Nat → Int32) (top : Nat → Int32) (low : Nat → Int32) (motion : Nat → Int32) (often : Nat → Int32) (s0 : Int32) {H : Heap} {locs : List Loc} {ls : Array Slot}, va_P Γ.1 vwCl (wd_X8_which Γ q0 q1 q2 q3 q4 q5 q6 q7 q8 q9 d0 d1 d2 d3 d4 d5 length undoMany zeroKept oneKept seen spot kind begin letters figures value plated driven rows periods leastPeriod sv seenCell seenIs height speed top low motion often) H → va_D A (wd_X8_which Γ q0 q1 q2 q3 q4 q5 q6 q7 q8 q9 d0 d1 d2 d3 d4 d5 length undoMany zeroKept oneKept seen spot kind begin letters figures value plated driven rows periods leastPeriod sv seenCell seenIs height speed top low motion often) → va_S A s.heap H locs → lv_has ls 2 [] → f_X8_which_31 periods leastPeriod height speed top low motion often s0 = some out → W p l e ({ frames := 6, cells := 0, slots := 0, locals := 146 } : Room) s m ([.ref q0, .int x1] : List Value).toArray below meth c H locs 0 0 QQ (F0 m 31 ls [.int s0]) := by
    intro periods leastPeriod height speed top low motion often s0 H locs ls hP hD hS hl hf
    unfold f_X8_which_31 at hf
    subst hout; obtain ⟨rfl, rfl, rfl, rfl, rfl, rfl, rfl, rfl, rfl⟩ := rt9 hf
    subst hQQ
    exact W.iret hx hb hr (fun t ht hW => ⟨⟨_, (), rfl, rfl, by rw [ht]; exact hP, hD⟩, hS.F ht⟩) hS.2.2 dX8_which_31
  unfold f_X8_which at hf
  refine lv_iload_n hx hb dX8_which_0 rfl (lv_at hl 1 rfl) ?_
  refine lv_i2l hx hb dX8_which_1 rfl ?_
  refine lv_lconst (v := 0) hx hb dX8_which_2 (by decide) ?_
  refine lv_lconst (v := 1) hx hb dX8_which_3 (by decide) ?_
  obtain ⟨r_1, hq_2, hf⟩ := ob1_some hf
  refine vm_cSi (isC := []) (wc := (wd_X8_in Γ)) (w1 := (wd_X8_in Γ)) (As := [.long ((x1).toInt64), .long 0, .long 1]) (rest := []) ⟨hx, hb, hml, hown, hts⟩ hE hP hD hS hA rfl rfl rfl (c_X8_in l Γ _ ((x1).toInt64) 0 1 r_1 hq_2) (va_cwS 3 hts gX8_which_X8_in rfl rfl rfl (by decide +kernel) ⟨Nat.le_of_ble_eq_true rfl, Nat.le_of_ble_eq_true rfl⟩) rfl hl.1 rfl (Nat.le_of_ble_eq_true rfl) dX8_which_4 ⟨Nat.zero_le _, Nat.zero_le _⟩ (fun H locs hP hD hS => ?_)
  have hP : va_P Γ.1 vwCl (wd_X8_which Γ q0 q1 q2 q3 q4 q5 q6 q7 q8 q9 d0 d1 d2 d3 d4 d5 length undoMany zeroKept oneKept seen spot kind begin letters figures value plated driven rows periods leastPeriod sv seenCell seenIs height speed top low motion often) H := hP
  have hD : va_D A (wd_X8_which Γ q0 q1 q2 q3 q4 q5 q6 q7 q8 q9 d0 d1 d2 d3 d4 d5 length undoMany zeroKept oneKept seen spot kind begin letters figures value plated driven rows periods leastPeriod sv seenCell seenIs height speed top low motion often) := hD
  refine lv_if_ne (tgt := 12) hx hb dX8_which_7 (by decide) (fun hc_3 => ?_) (fun hc_3 => ?_)
  · have hf := vm_neg hc_3 hf
    refine lv_aload_n hx hb dX8_which_12 rfl (lv_at hl 0 rfl) ?_
    obtain ⟨periods_4, leastPeriod_5, height_6, speed_7, top_8, low_9, motion_10, often_11, hq_12, hf⟩ := ob8_some hf
    refine vm_dVv (isC := [0, 1, 2, 3, 4, 5, 6, 7, 8, 9]) (wc := (wd_X8_finds Γ q0 q1 q2 q3 q4 q5 q6 q7 q8 q9 d0 d1 d2 d3 d4 d5 length undoMany zeroKept oneKept seen spot kind begin letters figures value plated driven rows periods leastPeriod sv seenCell seenIs height speed top low motion often)) (w1 := (wd_X8_finds Γ q0 q1 q2 q3 q4 q5 q6 q7 q8 q9 d0 d1 d2 d3 d4 d5 length undoMany zeroKept oneKept seen spot kind begin letters figures value plated driven rows periods_4 leastPeriod_5 sv seenCell seenIs height_6 speed_7 top_8 low_9 motion_10 often_11)) (W' := (wd_X8_which Γ q0 q1 q2 q3 q4 q5 q6 q7 q8 q9 d0 d1 d2 d3 d4 d5 length undoMany zeroKept oneKept seen spot kind begin letters figures value plated driven rows periods_4 leastPeriod_5 sv seenCell seenIs height_6 speed_7 top_8 low_9 motion_10 often_11)) (N := 10) (As := []) (rest := []) ⟨hx, hb, hml, hown, hts⟩ hE hP hD hS hA rfl rfl rfl (c_X8_finds l Γ _ q0 q1 q2 q3 q4 q5 q6 q7 q8 q9 d0 d1 d2 d3 d4 d5 length undoMany zeroKept oneKept seen spot kind begin letters figures value plated driven rows periods leastPeriod sv seenCell seenIs height speed top low motion often periods_4 leastPeriod_5 height_6 speed_7 top_8 low_9 motion_10 often_11 hq_12) (cwV 0 hts gX8_which_X8_finds rfl rfl rfl (by decide +kernel) ⟨Nat.le_of_ble_eq_true rfl, Nat.le_of_ble_eq_true rfl⟩) (va_recv (ci := 8) (q0 := 0) hK hP rfl rfl) rfl hl.1 rfl (Nat.le_of_ble_eq_true rfl) dX8_which_13 ⟨Nat.zero_le _, Nat.zero_le _⟩ (fun H locs hP hD hS => ?_)
    have hP : va_P Γ.1 vwCl (wd_X8_which Γ q0 q1 q2 q3 q4 q5 q6 q7 q8 q9 d0 d1 d2 d3 d4 d5 length undoMany zeroKept oneKept seen spot kind begin letters figures value plated driven rows periods_4 leastPeriod_5 sv seenCell seenIs height_6 speed_7 top_8 low_9 motion_10 often_11) H := hP
    have hD : va_D A (wd_X8_which Γ q0 q1 q2 q3 q4 q5 q6 q7 q8 q9 d0 d1 d2 d3 d4 d5 length undoMany zeroKept oneKept seen spot kind begin letters figures value plated driven rows periods_4 leastPeriod_5 sv seenCell seenIs height_6 speed_7 top_8 low_9 motion_10 often_11) := hD
    refine lv_iload_n hx hb dX8_which_16 rfl (lv_at hl 1 rfl) ?_
    refine lv_if_ne (tgt := 27) hx hb dX8_which_17 (by decide) (fun hc_13 => ?_) (fun hc_13 => ?_)
    · have hf := vm_neg hc_13 hf
      refine lv_aload_n hx hb dX8_which_27 rfl (lv_at hl 0 rfl) ?_
      refine va_get (D := Γ.1) (ci := 8) (v := .int leastPeriod_5) (C := RX8) (T := TX8) (N := 31) hx hb hts hi8 hown hK hP 0 rfl rfl 30 (by decide) (hts (.fieldLink RX8 236 "SandPlatesModel" "leastPeriod" "I") (List.mem_of_getElem? (i := 2) rfl)) (fun _ h9 => h9) rfl dX8_which_28 ?_
      exact K_31 periods_4 leastPeriod_5 height_6 speed_7 top_8 low_9 motion_10 often_11 leastPeriod_5 hP hD hS (lv_sub hl [] rfl) hf
    · have hf := vm_pos hc_13 hf
      refine lv_aload_n hx hb dX8_which_20 rfl (lv_at hl 0 rfl) ?_
      refine va_get (D := Γ.1) (ci := 8) (v := .int periods_4) (C := RX8) (T := TX8) (N := 31) hx hb hts hi8 hown hK hP 0 rfl rfl 29 (by decide) (hts (.fieldLink RX8 233 "SandPlatesModel" "periods" "I") (List.mem_of_getElem? (i := 1) rfl)) (fun _ h9 => h9) rfl dX8_which_21 ?_
      refine lv_goto (tgt := 31) hx hb dX8_which_24 (by decide) ?_
      exact K_31 periods_4 leastPeriod_5 height_6 speed_7 top_8 low_9 motion_10 often_11 periods_4 hP hD hS (lv_sub hl [] rfl) hf
  · have hf := vm_pos hc_3 hf
    refine lv_iconst (v := (-1)) hx hb dX8_which_10 (by decide) ?_
    subst hout; obtain ⟨rfl, rfl, rfl, rfl, rfl, rfl, rfl, rfl, rfl⟩ := rt9 hf
    subst hQQ
    exact W.iret hx hb hr (fun t ht hW => ⟨⟨_, (), rfl, rfl, by rw [ht]; exact hP, hD⟩, hS.F ht⟩) hS.2.2 dX8_which_11
def wd_X8_look (Γ : GE) (q0 q1 q2 q3 q4 q5 q6 q7 q8 q9 d0 d1 d2 d3 d4 d5 : Nat) (length : Int32) (undoMany : Int32) (zeroKept : Int32) (oneKept : Int32) (seen : Int32) (spot : Int32) (kind : Int32) (begin : Int32) (letters : Int64) (figures : Int32) (value : Int32) (plated : Int32) (driven : Int32) (rows : Int32) (periods : Int32) (leastPeriod : Int32) (sv : Nat → Int32) (seenCell : Nat → Int32) (seenIs : Nat → Int32) (height : Nat → Int32) (speed : Nat → Int32) (top : Nat → Int32) (low : Nat → Int32) (motion : Nat → Int32) (often : Nat → Int32) : va_W := [(q0, .inr (8, [.int length, .ref d0, .ref q1, .ref d1, .ref d2, .int undoMany, .ref d3, .int zeroKept, .int oneKept, .ref q2, .ref q3, .int seen, .int spot, .int kind, .int begin, .long letters, .int figures, .int value, .int plated, .int driven, .int rows, .ref q4, .ref q5, .ref q6, .ref q7, .ref q8, .ref d4, .ref d5, .ref q9, .int periods, .int leastPeriod])), (q1, .inl (Γ.2.1 0, 81, .inl sv)), (q2, .inl (Γ.2.1 0, 6, .inl seenCell)), (q3, .inl (Γ.2.1 0, 6, .inl seenIs)), (q4, .inl (Γ.2.1 0, 36, .inl height)), (q5, .inl (Γ.2.1 0, 36, .inl speed)), (q6, .inl (Γ.2.1 0, 36, .inl top)), (q7, .inl (Γ.2.1 0, 36, .inl low)), (q8, .inl (Γ.2.1 0, 36, .inl motion)), (q9, .inl (Γ.2.1 0, 36, .inl often))]
def f_X8_look_96 (periods : Int32) (leastPeriod : Int32) (height : Nat → Int32) (speed : Nat → Int32) (top : Nat → Int32) (low : Nat → Int32) (motion : Nat → Int32) (often : Nat → Int32) (x1 : Int32) : Option (Int32 × Int32 × Int32 × (Nat → Int32) × (Nat → Int32) × (Nat → Int32) × (Nat → Int32) × (Nat → Int32) × (Nat → Int32)) := some (x1, periods, leastPeriod, height, speed, top, low, motion, often)
def f_X8_look_89 (periods : Int32) (leastPeriod : Int32) (sv : Nat → Int32) (height : Nat → Int32) (speed : Nat → Int32) (top : Nat → Int32) (low : Nat → Int32) (motion : Nat → Int32) (often : Nat → Int32) (x1 : Int32) (x3 : Int32) (s0 : Int32) (k : ((Int32 × Int32 × Int32) → Option Int32)) : Option Int32 := k (x1, s0, (x3 + 1))
def f_X8_look_76 (periods : Int32) (leastPeriod : Int32) (sv : Nat → Int32) (height : Nat → Int32) (speed : Nat → Int32) (top : Nat → Int32) (low : Nat → Int32) (motion : Nat → Int32) (often : Nat → Int32) (x2 : Int32) (x3 : Int32) (x5 : Int32) (s0 : Int32) (k : ((Int32 × Int32 × Int32) → Option Int32)) : Option Int32 := if x2 ≤ x5 then (f_X8_look_89 periods leastPeriod sv height speed top low motion often s0 x3 x2 k) else (f_X8_look_89 periods leastPeriod sv height speed top low motion often s0 x3 x5 k)
def f_X8_look_63 (periods : Int32) (leastPeriod : Int32) (sv : Nat → Int32) (height : Nat → Int32) (speed : Nat → Int32) (top : Nat → Int32) (low : Nat → Int32) (motion : Nat → Int32) (often : Nat → Int32) (x1 : Int32) (x2 : Int32) (x3 : Int32) (s0 : Int32) (k : ((Int32 × Int32 × Int32) → Option Int32)) : Option Int32 := if x2 ≤ s0 then (f_X8_look_76 periods leastPeriod sv height speed top low motion often x2 x3 s0 x1 k) else (f_X8_look_76 periods leastPeriod sv height speed top low motion often x2 x3 s0 x3 k)
def f_X8_look_12b (periods : Int32) (leastPeriod : Int32) (sv : Nat → Int32) (height : Nat → Int32) (speed : Nat → Int32) (top : Nat → Int32) (low : Nat → Int32) (motion : Nat → Int32) (often : Nat → Int32) (x1 : Int32) (x2 : Int32) (x3 : Int32) (k : ((Int32 × Int32 × Int32) → Option Int32)) : Option Int32 := ob1 (f_X8_cells sv) (fun r_3 => if r_3 ≤ x3 then (some x1) else (if periods ≤ 1 then (some x1) else (if inb x3 36 = true then if inb x3 36 = true then if (often (x3.toNatClampNeg)) ≤ (periods - (often (x3.toNatClampNeg))) then (f_X8_look_63 periods leastPeriod sv height speed top low motion often x1 x2 x3 (periods - (often (x3.toNatClampNeg))) k) else (if inb x3 36 = true then f_X8_look_63 periods leastPeriod sv height speed top low motion often x1 x2 x3 (often (x3.toNatClampNeg)) k else none) else none else none)))
def f_X8_look_12s (periods : Int32) (leastPeriod : Int32) (sv : Nat → Int32) (height : Nat → Int32) (speed : Nat → Int32) (top : Nat → Int32) (low : Nat → Int32) (motion : Nat → Int32) (often : Nat → Int32) : (Int32 × Int32 × Int32) → ((Int32 × Int32 × Int32) → Option Int32) → Option Int32 := fun t k => f_X8_look_12b periods leastPeriod sv height speed top low motion often t.1 t.2.1 t.2.2 k
def f_X8_look_12 (periods : Int32) (leastPeriod : Int32) (sv : Nat → Int32) (height : Nat → Int32) (speed : Nat → Int32) (top : Nat → Int32) (low : Nat → Int32) (motion : Nat → Int32) (often : Nat → Int32) (x1 : Int32) (x2 : Int32) (x3 : Int32) : Option (Int32 × Int32 × Int32 × (Nat → Int32) × (Nat → Int32) × (Nat → Int32) × (Nat → Int32) × (Nat → Int32) × (Nat → Int32)) := obx (vm_it (f_X8_look_12s periods leastPeriod sv height speed top low motion often) FU (x1, x2, x3)) (fun x1 => f_X8_look_96 periods leastPeriod height speed top low motion often x1)
def f_X8_look (seen : Int32) (sv : Nat → Int32) (seenCell : Nat → Int32) (seenIs : Nat → Int32) (height : Nat → Int32) (speed : Nat → Int32) (top : Nat → Int32) (low : Nat → Int32) (motion : Nat → Int32) (often : Nat → Int32) : Option (Int32 × Int32 × Int32 × (Nat → Int32) × (Nat → Int32) × (Nat → Int32) × (Nat → Int32) × (Nat → Int32) × (Nat → Int32)) := ob8 (f_X8_finds seen sv seenCell seenIs height speed top low motion often) (fun periods_11 leastPeriod_12 height_13 speed_14 top_15 low_16 motion_17 often_18 => f_X8_look_12 periods_11 leastPeriod_12 sv height_13 speed_14 top_15 low_16 motion_17 often_18 (-9) 100 0)
set_option maxHeartbeats 4000000 in
set_option maxRecDepth 100000 in
theorem c_X8_look (l : Launch) (Γ : GE) (sz : Nat) (q0 q1 q2 q3 q4 q5 q6 q7 q8 q9 d0 d1 d2 d3 d4 d5 : Nat) (length : Int32) (undoMany : Int32) (zeroKept : Int32) (oneKept : Int32) (seen : Int32) (spot : Int32) (kind : Int32) (begin : Int32) (letters : Int64) (figures : Int32) (value : Int32) (plated : Int32) (driven : Int32) (rows : Int32) (periods : Int32) (leastPeriod : Int32) (sv : Nat → Int32) (seenCell : Nat → Int32) (seenIs : Nat → Int32) (height : Nat → Int32) (speed : Nat → Int32) (top : Nat → Int32) (low : Nat → Int32) (motion : Nat → Int32) (often : Nat → Int32) (ro : Int32) (o_periods : Int32) (o_leastPeriod : Int32) (o_height : Nat → Int32) (o_speed : Nat → Int32) (o_top : Nat → Int32) (o_low : Nat → Int32) (o_motion : Nat → Int32) (o_often : Nat → Int32) (hf : f_X8_look seen sv seenCell seenIs height speed top low motion often = some (ro, o_periods, o_leastPeriod, o_height, o_speed, o_top, o_low, o_motion, o_often)) : MetI l yX8_look wsX8_look ({ frames := 6, cells := 0, slots := 0, locals := 146 } : Room) Γ [.ref q0] (wd_X8_look Γ q0 q1 q2 q3 q4 q5 q6 q7 q8 q9 d0 d1 d2 d3 d4 d5 length undoMany zeroKept oneKept seen spot kind begin letters figures value plated driven rows periods leastPeriod sv seenCell seenIs height speed top low motion often) (wd_X8_look Γ q0 q1 q2 q3 q4 q5 q6 q7 q8 q9 d0 d1 d2 d3 d4 d5 length undoMany zeroKept oneKept seen spot kind begin letters figures value plated driven rows o_periods o_leastPeriod sv seenCell seenIs o_height o_speed o_top o_low o_motion o_often) sz ro := by
  refine Met.ofW (cc := cX8_look) (maxL := 6) (ret := (some .int)) (by decide) rfl ?_
  intro p e s m args below meth c s₁ B hml hv
  obtain ⟨rfl, hsz, hE, hP, hD⟩ := hv
  have hx := B.exec
  have hb := B.bytes
  have hr := B.returns
  have hts := atoms_spec (ws := wsX8_look) B.pre
  have hown : s.vm.findClass RX8 = some m.cls := findClass_of_methodNamed B.named
  have hlocks := B.notSynchronized
  subst hsz
  generalize hAe : va_A (wd_X8_look Γ q0 q1 q2 q3 q4 q5 q6 q7 q8 q9 d0 d1 d2 d3 d4 d5 length undoMany zeroKept oneKept seen spot kind begin letters figures value plated driven rows periods leastPeriod sv seenCell seenIs height speed top low motion often) s.heap.size = A at hE hD ⊢
  have hA : ∀ q : Nat, s.heap.size ≤ q → A q := fun q h => by rw [← hAe]; exact Or.inr h
  clear hAe
  have hS : va_S A s.heap s.heap [] := va_S.rf
  have hK := hE.1
  have hl := lv_entry ([.ref q0]) (n := 6) (Nat.le_of_ble_eq_true rfl)
  rw [lg_entry_eq]
  generalize (lg_sl ([.ref q0]) ++ List.replicate (6 - (lg_sl ([.ref q0])).length) Slot.unset).toArray = ls at hl ⊢
  have hl : lv_has ls 6 [(0, .ref q0)] := hl
  have hi8 : ∀ w ∈ u_ws RX8 TX8 31, w ∈ wsX8_look := fun w h => (List.mem_cons_of_mem _ (List.mem_append_right _ h))
  obtain ⟨out, hout⟩ : ∃ o, o = (ro, o_periods, o_leastPeriod, o_height, o_speed, o_top, o_low, o_motion, o_often) := ⟨_, rfl⟩
  rw [← hout] at hf
  obtain ⟨QQ, hQQ⟩ : ∃ Q, Q = MQ below (va_Qi (fun (r' : Int32) (_ : Unit) => r' = ro) (CQ Γ (wd_X8_look Γ q0 q1 q2 q3 q4 q5 q6 q7 q8 q9 d0 d1 d2 d3 d4 d5 length undoMany zeroKept oneKept seen spot kind begin letters figures value plated driven rows o_periods o_leastPeriod sv seenCell seenIs o_height o_speed o_top o_low o_motion o_often) A) A) (([.ref q0] : List Value).toArray) s 0 0 A := ⟨_, rfl⟩
  show W p l e ({ frames := 6, cells := 0, slots := 0, locals := 146 } : Room) s m (([.ref q0] : List Value).toArray) below meth c s.heap [] 0 0 (MQ below _ (([.ref q0] : List Value).toArray) s 0 0 A) (F0 m 0 ls [])
  rw [← hQQ]
  have K_96 : ∀ (periods : Int32) (leastPeriod : Int32) (height : Nat → Int32) (speed : Nat → Int32) (top : Nat → Int32) (low : Nat → Int32) (motion : Nat → Int32) (often : Nat → Int32) (x1 : Int32) {H : Heap} {locs : List Loc} {ls : Array Slot}, va_P Γ.1 vwCl (wd_X8_look Γ q0 q1 q2 q3 q4 q5 q6 q7 q8 q9 d0 d1 d2 d3 d4 d5 length undoMany zeroKept oneKept seen spot kind begin letters figures value plated driven rows periods leastPeriod sv seenCell seenIs height speed top low motion often) H → va_D A (wd_X8_look Γ q0 q1 q2 q3 q4 q5 q6 q7 q8 q9 d0 d1 d2 d3 d4 d5 length undoMany zeroKept oneKept seen spot kind begin letters figures value plated driven rows periods leastPeriod sv seenCell seenIs height speed top low motion often) → va_S A s.heap H locs → lv_has ls 6 [(1, .int x1)] → f_X8_look_96 periods leastPeriod height speed top low motion often x1 = some out → W p l e ({ frames := 6, cells := 0, slots := 0, locals := 146 } : Room) s m ([.ref q0] : List Value).toArray below meth c H locs 0 0 QQ (F0 m 96 ls []) := by
    intro periods leastPeriod height speed top low motion often x1 H locs ls hP hD hS hl hf
    unfold f_X8_look_96 at hf
    refine lv_iload_n hx hb dX8_look_96 rfl (lv_at hl 0 rfl) ?_
    subst hout; obtain ⟨rfl, rfl, rfl, rfl, rfl, rfl, rfl, rfl, rfl⟩ := rt9 hf
    subst hQQ
    exact W.iret hx hb hr (fun t ht hW => ⟨⟨_, (), rfl, rfl, by rw [ht]; exact hP, hD⟩, hS.F ht⟩) hS.2.2 dX8_look_97
  have K_12 : ∀ (periods : Int32) (leastPeriod : Int32) (height : Nat → Int32) (speed : Nat → Int32) (top : Nat → Int32) (low : Nat → Int32) (motion : Nat → Int32) (often : Nat → Int32) (x1 : Int32) (x2 : Int32) (x3 : Int32) {H : Heap} {locs : List Loc} {ls : Array Slot}, va_P Γ.1 vwCl (wd_X8_look Γ q0 q1 q2 q3 q4 q5 q6 q7 q8 q9 d0 d1 d2 d3 d4 d5 length undoMany zeroKept oneKept seen spot kind begin letters figures value plated driven rows periods leastPeriod sv seenCell seenIs height speed top low motion often) H → va_D A (wd_X8_look Γ q0 q1 q2 q3 q4 q5 q6 q7 q8 q9 d0 d1 d2 d3 d4 d5 length undoMany zeroKept oneKept seen spot kind begin letters figures value plated driven rows periods leastPeriod sv seenCell seenIs height speed top low motion often) → va_S A s.heap H locs → lv_has ls 6 [(0, .ref q0), (1, .int x1), (2, .int x2), (3, .int x3)] → f_X8_look_12 periods leastPeriod sv height speed top low motion often x1 x2 x3 = some out → W p l e ({ frames := 6, cells := 0, slots := 0, locals := 146 } : Room) s m ([.ref q0] : List Value).toArray below meth c H locs 0 0 QQ (F0 m 12 ls []) := by
    intro periods leastPeriod height speed top low motion often x1 x2 x3 H locs ls hP hD hS hl hf
    unfold f_X8_look_12 at hf
    obtain ⟨ex12, h1, hX12⟩ := obx_some hf
    have LP : ∀ (n : Nat) (x1 : Int32) (x2 : Int32) (x3 : Int32)  {H : Heap} {locs : List Loc} {ls : Array Slot}, va_P Γ.1 vwCl (wd_X8_look Γ q0 q1 q2 q3 q4 q5 q6 q7 q8 q9 d0 d1 d2 d3 d4 d5 length undoMany zeroKept oneKept seen spot kind begin letters figures value plated driven rows periods leastPeriod sv seenCell seenIs height speed top low motion often) H → va_D A (wd_X8_look Γ q0 q1 q2 q3 q4 q5 q6 q7 q8 q9 d0 d1 d2 d3 d4 d5 length undoMany zeroKept oneKept seen spot kind begin letters figures value plated driven rows periods leastPeriod sv seenCell seenIs height speed top low motion often) → va_S A s.heap H locs → lv_has ls 6 [(0, .ref q0), (1, .int x1), (2, .int x2), (3, .int x3)] → vm_it (f_X8_look_12s periods leastPeriod sv height speed top low motion often) n (x1, x2, x3) = some ex12 → W p l e ({ frames := 6, cells := 0, slots := 0, locals := 146 } : Room) s m ([.ref q0] : List Value).toArray below meth c H locs 0 0 QQ (F0 m 12 ls []) := by
      clear hP hD hS hl hf h1
      intro n
      induction n with
      | zero => intro x1 x2 x3 H locs ls hP hD hS hl hf; exact (vm_it_0 hf).elim
      | succ n ih =>
        intro x1 x2 x3 H locs ls hP hD hS hl hf
        have hf : f_X8_look_12b periods leastPeriod sv height speed top low motion often x1 x2 x3 (vm_it (f_X8_look_12s periods leastPeriod sv height speed top low motion often) n) = some ex12 := hf
        have K_89 : ∀ (x1 : Int32) (x3 : Int32) (s0 : Int32) {H : Heap} {locs : List Loc} {ls : Array Slot}, va_P Γ.1 vwCl (wd_X8_look Γ q0 q1 q2 q3 q4 q5 q6 q7 q8 q9 d0 d1 d2 d3 d4 d5 length undoMany zeroKept oneKept seen spot kind begin letters figures value plated driven rows periods leastPeriod sv seenCell seenIs height speed top low motion often) H → va_D A (wd_X8_look Γ q0 q1 q2 q3 q4 q5 q6 q7 q8 q9 d0 d1 d2 d3 d4 d5 length undoMany zeroKept oneKept seen spot kind begin letters figures value plated driven rows periods leastPeriod sv seenCell seenIs height speed top low motion often) → va_S A s.heap H locs → lv_has ls 6 [(0, .ref q0), (1, .int x1), (3, .int x3)] → f_X8_look_89 periods leastPeriod sv height speed top low motion often x1 x3 s0 (vm_it (f_X8_look_12s periods leastPeriod sv height speed top low motion often) n) = some ex12 → W p l e ({ frames := 6, cells := 0, slots := 0, locals := 146 } : Room) s m ([.ref q0] : List Value).toArray below meth c H locs 0 0 QQ (F0 m 89 ls [.int s0]) := by
          intro x1 x3 s0 H locs ls hP hD hS hl hf
          unfold f_X8_look_89 at hf
          refine lv_istore_n (lv' := [(2, .int s0), (0, .ref q0), (1, .int x1), (3, .int x3)]) hx hb dX8_look_89 rfl hl (by decide) rfl (fun ls hl => ?_)
          refine lv_iinc (v := (x3 + 1)) (lv' := [(3, .int (x3 + 1)), (2, .int s0), (0, .ref q0), (1, .int x1)]) hx hb dX8_look_90 hl (k := 3) rfl rfl (by decide) rfl (fun ls hl => ?_)
          refine lv_goto (tgt := 12) hx hb dX8_look_93 (by decide) ?_
          exact ih x1 s0 (x3 + 1) hP hD hS (lv_sub hl [2, 3, 1, 0] rfl) hf
        have K_76 : ∀ (x2 : Int32) (x3 : Int32) (x5 : Int32) (s0 : Int32) {H : Heap} {locs : List Loc} {ls : Array Slot}, va_P Γ.1 vwCl (wd_X8_look Γ q0 q1 q2 q3 q4 q5 q6 q7 q8 q9 d0 d1 d2 d3 d4 d5 length undoMany zeroKept oneKept seen spot kind begin letters figures value plated driven rows periods leastPeriod sv seenCell seenIs height speed top low motion often) H → va_D A (wd_X8_look Γ q0 q1 q2 q3 q4 q5 q6 q7 q8 q9 d0 d1 d2 d3 d4 d5 length undoMany zeroKept oneKept seen spot kind begin letters figures value plated driven rows periods leastPeriod sv seenCell seenIs height speed top low motion often) → va_S A s.heap H locs → lv_has ls 6 [(0, .ref q0), (2, .int x2), (3, .int x3), (5, .int x5)] → f_X8_look_76 periods leastPeriod sv height speed top low motion often x2 x3 x5 s0 (vm_it (f_X8_look_12s periods leastPeriod sv height speed top low motion often) n) = some ex12 → W p l e ({ frames := 6, cells := 0, slots := 0, locals := 146 } : Room) s m ([.ref q0] : List Value).toArray below meth c H locs 0 0 QQ (F0 m 76 ls [.int s0]) := by
          intro x2 x3 x5 s0 H locs ls hP hD hS hl hf
          unfold f_X8_look_76 at hf
          refine lv_istore_n (lv' := [(1, .int s0), (0, .ref q0), (2, .int x2), (3, .int x3), (5, .int x5)]) hx hb dX8_look_76 rfl hl (by decide) rfl (fun ls hl => ?_)
          refine lv_iload hx hb dX8_look_77 (lv_at hl 4 rfl) ?_
          refine lv_iload_n hx hb dX8_look_79 rfl (lv_at hl 2 rfl) ?_
          refine lv_icmp_ge (tgt := 88) hx hb dX8_look_80 (by decide) (fun hc_1 => ?_) (fun hc_1 => ?_)
          · have hf := vm_pos hc_1 hf
            refine lv_iload_n hx hb dX8_look_88 rfl (lv_at hl 2 rfl) ?_
            exact K_89 s0 x3 x2 hP hD hS (lv_sub hl [1, 0, 3] rfl) hf
          · have hf := vm_neg hc_1 hf
            refine lv_iload hx hb dX8_look_83 (lv_at hl 4 rfl) ?_
            refine lv_goto (tgt := 89) hx hb dX8_look_85 (by decide) ?_
            exact K_89 s0 x3 x5 hP hD hS (lv_sub hl [1, 0, 3] rfl) hf
        have K_63 : ∀ (x1 : Int32) (x2 : Int32) (x3 : Int32) (s0 : Int32) {H : Heap} {locs : List Loc} {ls : Array Slot}, va_P Γ.1 vwCl (wd_X8_look Γ q0 q1 q2 q3 q4 q5 q6 q7 q8 q9 d0 d1 d2 d3 d4 d5 length undoMany zeroKept oneKept seen spot kind begin letters figures value plated driven rows periods leastPeriod sv seenCell seenIs height speed top low motion often) H → va_D A (wd_X8_look Γ q0 q1 q2 q3 q4 q5 q6 q7 q8 q9 d0 d1 d2 d3 d4 d5 length undoMany zeroKept oneKept seen spot kind begin letters figures value plated driven rows periods leastPeriod sv seenCell seenIs height speed top low motion often) → va_S A s.heap H locs → lv_has ls 6 [(0, .ref q0), (1, .int x1), (2, .int x2), (3, .int x3)] → f_X8_look_63 periods leastPeriod sv height speed top low motion often x1 x2 x3 s0 (vm_it (f_X8_look_12s periods leastPeriod sv height speed top low motion often) n) = some ex12 → W p l e ({ frames := 6, cells := 0, slots := 0, locals := 146 } : Room) s m ([.ref q0] : List Value).toArray below meth c H locs 0 0 QQ (F0 m 63 ls [.int s0]) := by
          intro x1 x2 x3 s0 H locs ls hP hD hS hl hf
          unfold f_X8_look_63 at hf
          refine lv_istore (lv' := [(5, .int s0), (0, .ref q0), (1, .int x1), (2, .int x2), (3, .int x3)]) hx hb dX8_look_63 hl (by decide) rfl (fun ls hl => ?_)
          refine lv_iload hx hb dX8_look_65 (lv_at hl 0 rfl) ?_
          refine lv_iload_n hx hb dX8_look_67 rfl (lv_at hl 3 rfl) ?_
          refine lv_icmp_ge (tgt := 75) hx hb dX8_look_68 (by decide) (fun hc_2 => ?_) (fun hc_2 => ?_)
          · have hf := vm_pos hc_2 hf
            refine lv_iload_n hx hb dX8_look_75 rfl (lv_at hl 2 rfl) ?_
            exact K_76 x2 x3 s0 x1 hP hD hS (lv_sub hl [1, 3, 4, 0] rfl) hf
          · have hf := vm_neg hc_2 hf
            refine lv_iload_n hx hb dX8_look_71 rfl (lv_at hl 4 rfl) ?_
            refine lv_goto (tgt := 76) hx hb dX8_look_72 (by decide) ?_
            exact K_76 x2 x3 s0 x3 hP hD hS (lv_sub hl [1, 3, 4, 0] rfl) hf
        unfold f_X8_look_12b at hf
        refine lv_iload_n hx hb dX8_look_12 rfl (lv_at hl 3 rfl) ?_
        refine lv_aload_n hx hb dX8_look_13 rfl (lv_at hl 0 rfl) ?_
        obtain ⟨r_3, hq_4, hf⟩ := ob1_some hf
        refine vm_cVi (isC := [0, 1]) (wc := (wd_X8_cells Γ q0 q1 d0 d1 d2 d3 q2 q3 q4 q5 q6 q7 q8 d4 d5 q9 length undoMany zeroKept oneKept seen spot kind begin letters figures value plated driven rows periods leastPeriod sv)) (w1 := (wd_X8_cells Γ q0 q1 d0 d1 d2 d3 q2 q3 q4 q5 q6 q7 q8 d4 d5 q9 length undoMany zeroKept oneKept seen spot kind begin letters figures value plated driven rows periods leastPeriod sv)) (As := []) (rest := [.int x3]) ⟨hx, hb, hml, hown, hts⟩ hE hP hD hS hA rfl rfl rfl (c_X8_cells l Γ _ q0 q1 d0 d1 d2 d3 q2 q3 q4 q5 q6 q7 q8 d4 d5 q9 length undoMany zeroKept oneKept seen spot kind begin letters figures value plated driven rows periods leastPeriod sv r_3 hq_4) (cwV 0 hts gX8_look_X8_cells rfl rfl rfl (by decide +kernel) ⟨Nat.le_of_ble_eq_true rfl, Nat.le_of_ble_eq_true rfl⟩) (va_recv (ci := 8) (q0 := 0) hK hP rfl rfl) rfl hl.1 rfl (Nat.le_of_ble_eq_true rfl) dX8_look_14 ⟨Nat.zero_le _, Nat.zero_le _⟩ (fun H locs hP hD hS => ?_)
        have hP : va_P Γ.1 vwCl (wd_X8_look Γ q0 q1 q2 q3 q4 q5 q6 q7 q8 q9 d0 d1 d2 d3 d4 d5 length undoMany zeroKept oneKept seen spot kind begin letters figures value plated driven rows periods leastPeriod sv seenCell seenIs height speed top low motion often) H := hP
        have hD : va_D A (wd_X8_look Γ q0 q1 q2 q3 q4 q5 q6 q7 q8 q9 d0 d1 d2 d3 d4 d5 length undoMany zeroKept oneKept seen spot kind begin letters figures value plated driven rows periods leastPeriod sv seenCell seenIs height speed top low motion often) := hD
        refine lv_icmp_ge (tgt := 96) hx hb dX8_look_17 (by decide) (fun hc_5 => ?_) (fun hc_5 => ?_)
        · have hf := vm_pos hc_5 hf
          have hX := hX12
          rw [← Option.some.inj hf] at hX
          exact K_96 periods leastPeriod height speed top low motion often x1 hP hD hS (lv_sub hl [1] rfl) hX
        · have hf := vm_neg hc_5 hf
          refine lv_aload_n hx hb dX8_look_20 rfl (lv_at hl 0 rfl) ?_
          refine va_get (D := Γ.1) (ci := 8) (v := .int periods) (C := RX8) (T := TX8) (N := 31) hx hb hts hi8 hown hK hP 0 rfl rfl 29 (by decide) (hts (.fieldLink RX8 233 "SandPlatesModel" "periods" "I") (List.mem_of_getElem? (i := 1) rfl)) (fun _ h9 => h9) rfl dX8_look_21 ?_
          refine lv_iconst (v := 1) hx hb dX8_look_24 (by decide) ?_
          refine lv_icmp_le (tgt := 96) hx hb dX8_look_25 (by decide) (fun hc_6 => ?_) (fun hc_6 => ?_)
          · have hf := vm_pos hc_6 hf
            have hX := hX12
            rw [← Option.some.inj hf] at hX
            exact K_96 periods leastPeriod height speed top low motion often x1 hP hD hS (lv_sub hl [1] rfl) hX
          · have hf := vm_neg hc_6 hf
            refine lv_aload_n hx hb dX8_look_28 rfl (lv_at hl 0 rfl) ?_
            refine va_get (D := Γ.1) (ci := 8) (v := .int periods) (C := RX8) (T := TX8) (N := 31) hx hb hts hi8 hown hK hP 0 rfl rfl 29 (by decide) (hts (.fieldLink RX8 233 "SandPlatesModel" "periods" "I") (List.mem_of_getElem? (i := 1) rfl)) (fun _ h9 => h9) rfl dX8_look_29 ?_
            refine lv_aload_n hx hb dX8_look_32 rfl (lv_at hl 0 rfl) ?_
            refine va_get (D := Γ.1) (ci := 8) (v := .ref q9) (C := RX8) (T := TX8) (N := 31) hx hb hts hi8 hown hK hP 0 rfl rfl 28 (by decide) (hts (.fieldLink RX8 52 "SandPlatesModel" "often" "[I") (List.mem_of_getElem? (i := 2) rfl)) (fun _ h9 => h9) rfl dX8_look_33 ?_
            refine lv_iload_n hx hb dX8_look_36 rfl (lv_at hl 3 rfl) ?_
            obtain ⟨hc_7, hf⟩ := vm_ck hf
            refine vm_iald hx hb hK hP 9 0 rfl rfl hc_7 (j := x3.toNatClampNeg) rfl dX8_look_37 ?_
            refine lv_isub hx hb dX8_look_38 ?_
            refine lv_istore (lv' := [(4, .int (periods - (often (x3.toNatClampNeg)))), (0, .ref q0), (1, .int x1), (2, .int x2), (3, .int x3)]) hx hb dX8_look_39 hl (by decide) rfl (fun ls hl => ?_)
            refine lv_aload_n hx hb dX8_look_41 rfl (lv_at hl 1 rfl) ?_
            refine va_get (D := Γ.1) (ci := 8) (v := .ref q9) (C := RX8) (T := TX8) (N := 31) hx hb hts hi8 hown hK hP 0 rfl rfl 28 (by decide) (hts (.fieldLink RX8 52 "SandPlatesModel" "often" "[I") (List.mem_of_getElem? (i := 2) rfl)) (fun _ h9 => h9) rfl dX8_look_42 ?_
            refine lv_iload_n hx hb dX8_look_45 rfl (lv_at hl 4 rfl) ?_
            obtain ⟨hc_8, hf⟩ := vm_ck hf
            refine vm_iald hx hb hK hP 9 0 rfl rfl hc_8 (j := x3.toNatClampNeg) rfl dX8_look_46 ?_
            refine lv_iload hx hb dX8_look_47 (lv_at hl 0 rfl) ?_
            refine lv_icmp_le (tgt := 61) hx hb dX8_look_49 (by decide) (fun hc_9 => ?_) (fun hc_9 => ?_)
            · have hf := vm_pos hc_9 hf
              refine lv_iload hx hb dX8_look_61 (lv_at hl 0 rfl) ?_
              exact K_63 x1 x2 x3 (periods - (often (x3.toNatClampNeg))) hP hD hS (lv_sub hl [1, 2, 3, 4] rfl) hf
            · have hf := vm_neg hc_9 hf
              refine lv_aload_n hx hb dX8_look_52 rfl (lv_at hl 1 rfl) ?_
              refine va_get (D := Γ.1) (ci := 8) (v := .ref q9) (C := RX8) (T := TX8) (N := 31) hx hb hts hi8 hown hK hP 0 rfl rfl 28 (by decide) (hts (.fieldLink RX8 52 "SandPlatesModel" "often" "[I") (List.mem_of_getElem? (i := 2) rfl)) (fun _ h9 => h9) rfl dX8_look_53 ?_
              refine lv_iload_n hx hb dX8_look_56 rfl (lv_at hl 4 rfl) ?_
              obtain ⟨hc_10, hf⟩ := vm_ck hf
              refine vm_iald hx hb hK hP 9 0 rfl rfl hc_10 (j := x3.toNatClampNeg) rfl dX8_look_57 ?_
              refine lv_goto (tgt := 63) hx hb dX8_look_58 (by decide) ?_
              exact K_63 x1 x2 x3 (often (x3.toNatClampNeg)) hP hD hS (lv_sub hl [1, 2, 3, 4] rfl) hf
    exact LP FU x1 x2 x3 hP hD hS hl h1
  unfold f_X8_look at hf
  refine lv_aload_n hx hb dX8_look_0 rfl (lv_at hl 0 rfl) ?_
  obtain ⟨periods_11, leastPeriod_12, height_13, speed_14, top_15, low_16, motion_17, often_18, hq_19, hf⟩ := ob8_some hf
  refine vm_dVv (isC := [0, 1, 2, 3, 4, 5, 6, 7, 8, 9]) (wc := (wd_X8_finds Γ q0 q1 q2 q3 q4 q5 q6 q7 q8 q9 d0 d1 d2 d3 d4 d5 length undoMany zeroKept oneKept seen spot kind begin letters figures value plated driven rows periods leastPeriod sv seenCell seenIs height speed top low motion often)) (w1 := (wd_X8_finds Γ q0 q1 q2 q3 q4 q5 q6 q7 q8 q9 d0 d1 d2 d3 d4 d5 length undoMany zeroKept oneKept seen spot kind begin letters figures value plated driven rows periods_11 leastPeriod_12 sv seenCell seenIs height_13 speed_14 top_15 low_16 motion_17 often_18)) (W' := (wd_X8_look Γ q0 q1 q2 q3 q4 q5 q6 q7 q8 q9 d0 d1 d2 d3 d4 d5 length undoMany zeroKept oneKept seen spot kind begin letters figures value plated driven rows periods_11 leastPeriod_12 sv seenCell seenIs height_13 speed_14 top_15 low_16 motion_17 often_18)) (N := 10) (As := []) (rest := []) ⟨hx, hb, hml, hown, hts⟩ hE hP hD hS hA rfl rfl rfl (c_X8_finds l Γ _ q0 q1 q2 q3 q4 q5 q6 q7 q8 q9 d0 d1 d2 d3 d4 d5 length undoMany zeroKept oneKept seen spot kind begin letters figures value plated driven rows periods leastPeriod sv seenCell seenIs height speed top low motion often periods_11 leastPeriod_12 height_13 speed_14 top_15 low_16 motion_17 often_18 hq_19) (cwV 0 hts gX8_look_X8_finds rfl rfl rfl (by decide +kernel) ⟨Nat.le_of_ble_eq_true rfl, Nat.le_of_ble_eq_true rfl⟩) (va_recv (ci := 8) (q0 := 0) hK hP rfl rfl) rfl hl.1 rfl (Nat.le_of_ble_eq_true rfl) dX8_look_1 ⟨Nat.zero_le _, Nat.zero_le _⟩ (fun H locs hP hD hS => ?_)
  have hP : va_P Γ.1 vwCl (wd_X8_look Γ q0 q1 q2 q3 q4 q5 q6 q7 q8 q9 d0 d1 d2 d3 d4 d5 length undoMany zeroKept oneKept seen spot kind begin letters figures value plated driven rows periods_11 leastPeriod_12 sv seenCell seenIs height_13 speed_14 top_15 low_16 motion_17 often_18) H := hP
  have hD : va_D A (wd_X8_look Γ q0 q1 q2 q3 q4 q5 q6 q7 q8 q9 d0 d1 d2 d3 d4 d5 length undoMany zeroKept oneKept seen spot kind begin letters figures value plated driven rows periods_11 leastPeriod_12 sv seenCell seenIs height_13 speed_14 top_15 low_16 motion_17 often_18) := hD
  refine lv_bipush (v := (-9)) hx hb dX8_look_4 (by decide) ?_
  refine lv_istore_n (lv' := [(1, .int (-9)), (0, .ref q0)]) hx hb dX8_look_6 rfl hl (by decide) rfl (fun ls hl => ?_)
  refine lv_bipush (v := 100) hx hb dX8_look_7 (by decide) ?_
  refine lv_istore_n (lv' := [(2, .int 100), (1, .int (-9)), (0, .ref q0)]) hx hb dX8_look_9 rfl hl (by decide) rfl (fun ls hl => ?_)
  refine lv_iconst (v := 0) hx hb dX8_look_10 (by decide) ?_
  refine lv_istore_n (lv' := [(3, .int 0), (2, .int 100), (1, .int (-9)), (0, .ref q0)]) hx hb dX8_look_11 rfl hl (by decide) rfl (fun ls hl => ?_)
  exact K_12 periods_11 leastPeriod_12 height_13 speed_14 top_15 low_16 motion_17 often_18 (-9) 100 0 hP hD hS (lv_sub hl [3, 2, 1, 0] rfl) hf
def wd_X8_keep (Γ : GE) (q0 q1 q2 d0 d1 d2 d3 d4 d5 d6 d7 d8 d9 d10 d11 d12 : Nat) (length : Int32) (undoMany : Int32) (zeroKept : Int32) (oneKept : Int32) (seen : Int32) (spot : Int32) (kind : Int32) (begin : Int32) (letters : Int64) (figures : Int32) (value : Int32) (plated : Int32) (driven : Int32) (rows : Int32) (periods : Int32) (leastPeriod : Int32) (sv : Nat → Int32) (images : Nat → Int32) : va_W := [(q0, .inr (8, [.int length, .ref d0, .ref q1, .ref d1, .ref d2, .int undoMany, .ref q2, .int zeroKept, .int oneKept, .ref d3, .ref d4, .int seen, .int spot, .int kind, .int begin, .long letters, .int figures, .int value, .int plated, .int driven, .int rows, .ref d5, .ref d6, .ref d7, .ref d8, .ref d9, .ref d10, .ref d11, .ref d12, .int periods, .int leastPeriod])), (q1, .inl (Γ.2.1 0, 81, .inl sv)), (q2, .inl (Γ.2.1 0, 162, .inl images))]
def f_X8_keep_81 (zeroKept : Int32) (sv : Nat → Int32) (images : Nat → Int32) (s1 : Int32) : Option (Int32 × Int32 × Int32 × (Nat → Int32)) := if s1 = 0 ∨ s1 = 1 then ob1 (f_X8_cells sv) (fun r_2 => some (r_2, zeroKept, s1, images)) else none
def f_X8_keep_76 (zeroKept : Int32) (sv : Nat → Int32) (images : Nat → Int32) : Option (Int32 × Int32 × Int32 × (Nat → Int32)) := f_X8_keep_81 zeroKept sv images 1
def f_X8_keep_60 (oneKept : Int32) (sv : Nat → Int32) (images : Nat → Int32) (x1 : Int32) (s1 : Int32) : Option (Int32 × Int32 × Int32 × (Nat → Int32)) := if s1 = 0 ∨ s1 = 1 then if oneKept = 0 then (if x1 = 1 then (f_X8_keep_76 s1 sv images) else (f_X8_keep_81 s1 sv images 0)) else (f_X8_keep_76 s1 sv images) else none
def f_X8_keep_55 (oneKept : Int32) (sv : Nat → Int32) (images : Nat → Int32) (x1 : Int32) : Option (Int32 × Int32 × Int32 × (Nat → Int32)) := f_X8_keep_60 oneKept sv images x1 1
def f_X8_keep_43 (zeroKept : Int32) (oneKept : Int32) (sv : Nat → Int32) (images : Nat → Int32) (x1 : Int32) : Option (Int32 × Int32 × Int32 × (Nat → Int32)) := if zeroKept = 0 then (if x1 = 0 then (f_X8_keep_55 oneKept sv images x1) else (f_X8_keep_60 oneKept sv images x1 0)) else (f_X8_keep_55 oneKept sv images x1)
def f_X8_keep_14b (zeroKept : Int32) (oneKept : Int32) (sv : Nat → Int32) (x1 : Int32) (images : Nat → Int32) (x2 : Int32) (k : (((Nat → Int32) × Int32) → Option (Nat → Int32))) : Option (Nat → Int32) := if 81 ≤ x2 then (some images) else (if inb x2 81 = true then if inb ((81 * x1) + x2) 162 = true then k ((upd images (((81 * x1) + x2).toNatClampNeg) (sv (x2.toNatClampNeg))), (x2 + 1)) else none else none)
def f_X8_keep_14s (zeroKept : Int32) (oneKept : Int32) (sv : Nat → Int32) (x1 : Int32) : ((Nat → Int32) × Int32) → (((Nat → Int32) × Int32) → Option (Nat → Int32)) → Option (Nat → Int32) := fun t k => f_X8_keep_14b zeroKept oneKept sv x1 t.1 t.2 k
def f_X8_keep_14 (zeroKept : Int32) (oneKept : Int32) (sv : Nat → Int32) (images : Nat → Int32) (x1 : Int32) (x2 : Int32) : Option (Int32 × Int32 × Int32 × (Nat → Int32)) := obx (vm_it (f_X8_keep_14s zeroKept oneKept sv x1) FU (images, x2)) (fun images => f_X8_keep_43 zeroKept oneKept sv images x1)
def f_X8_keep (zeroKept : Int32) (oneKept : Int32) (sv : Nat → Int32) (images : Nat → Int32) (x1 : Int32) : Option (Int32 × Int32 × Int32 × (Nat → Int32)) := ob1 (f_X8_in ((x1).toInt64) 0 1) (fun r_12 => if r_12 = 0 then (some ((-1), zeroKept, oneKept, images)) else (f_X8_keep_14 zeroKept oneKept sv images x1 0))
set_option maxHeartbeats 4000000 in
set_option maxRecDepth 100000 in
theorem c_X8_keep (l : Launch) (Γ : GE) (sz : Nat) (q0 q1 q2 d0 d1 d2 d3 d4 d5 d6 d7 d8 d9 d10 d11 d12 : Nat) (length : Int32) (undoMany : Int32) (zeroKept : Int32) (oneKept : Int32) (seen : Int32) (spot : Int32) (kind : Int32) (begin : Int32) (letters : Int64) (figures : Int32) (value : Int32) (plated : Int32) (driven : Int32) (rows : Int32) (periods : Int32) (leastPeriod : Int32) (sv : Nat → Int32) (images : Nat → Int32) (x1 : Int32) (ro : Int32) (o_zeroKept : Int32) (o_oneKept : Int32) (o_images : Nat → Int32) (hf : f_X8_keep zeroKept oneKept sv images x1 = some (ro, o_zeroKept, o_oneKept, o_images)) : MetI l yX8_keep wsX8_keep ({ frames := 1, cells := 0, slots := 0, locals := 25 } : Room) Γ [.ref q0, .int x1] (wd_X8_keep Γ q0 q1 q2 d0 d1 d2 d3 d4 d5 d6 d7 d8 d9 d10 d11 d12 length undoMany zeroKept oneKept seen spot kind begin letters figures value plated driven rows periods leastPeriod sv images) (wd_X8_keep Γ q0 q1 q2 d0 d1 d2 d3 d4 d5 d6 d7 d8 d9 d10 d11 d12 length undoMany o_zeroKept o_oneKept seen spot kind begin letters figures value plated driven rows periods leastPeriod sv o_images) sz ro := by
  refine Met.ofW (cc := cX8_keep) (maxL := 3) (ret := (some .int)) (by decide) rfl ?_
  intro p e s m args below meth c s₁ B hml hv
  obtain ⟨rfl, hsz, hE, hP, hD⟩ := hv
  have hx := B.exec
  have hb := B.bytes
  have hr := B.returns
  have hts := atoms_spec (ws := wsX8_keep) B.pre
  have hown : s.vm.findClass RX8 = some m.cls := findClass_of_methodNamed B.named
  have hlocks := B.notSynchronized
  subst hsz
  generalize hAe : va_A (wd_X8_keep Γ q0 q1 q2 d0 d1 d2 d3 d4 d5 d6 d7 d8 d9 d10 d11 d12 length undoMany zeroKept oneKept seen spot kind begin letters figures value plated driven rows periods leastPeriod sv images) s.heap.size = A at hE hD ⊢
  have hA : ∀ q : Nat, s.heap.size ≤ q → A q := fun q h => by rw [← hAe]; exact Or.inr h
  clear hAe
  have hS : va_S A s.heap s.heap [] := va_S.rf
  have hK := hE.1
  have hl := lv_entry ([.ref q0, .int x1]) (n := 3) (Nat.le_of_ble_eq_true rfl)
  rw [lg_entry_eq]
  generalize (lg_sl ([.ref q0, .int x1]) ++ List.replicate (3 - (lg_sl ([.ref q0, .int x1])).length) Slot.unset).toArray = ls at hl ⊢
  have hl : lv_has ls 3 [(0, .ref q0), (1, .int x1)] := hl
  have hi8 : ∀ w ∈ u_ws RX8 TX8 31, w ∈ wsX8_keep := fun w h => (List.mem_cons_of_mem _ (List.mem_append_right _ h))
  obtain ⟨out, hout⟩ : ∃ o, o = (ro, o_zeroKept, o_oneKept, o_images) := ⟨_, rfl⟩
  rw [← hout] at hf
  obtain ⟨QQ, hQQ⟩ : ∃ Q, Q = MQ below (va_Qi (fun (r' : Int32) (_ : Unit) => r' = ro) (CQ Γ (wd_X8_keep Γ q0 q1 q2 d0 d1 d2 d3 d4 d5 d6 d7 d8 d9 d10 d11 d12 length undoMany o_zeroKept o_oneKept seen spot kind begin letters figures value plated driven rows periods leastPeriod sv o_images) A) A) (([.ref q0, .int x1] : List Value).toArray) s 0 0 A := ⟨_, rfl⟩
  show W p l e ({ frames := 1, cells := 0, slots := 0, locals := 25 } : Room) s m (([.ref q0, .int x1] : List Value).toArray) below meth c s.heap [] 0 0 (MQ below _ (([.ref q0, .int x1] : List Value).toArray) s 0 0 A) (F0 m 0 ls [])
  rw [← hQQ]
  have K_81 : ∀ (zeroKept : Int32) (images : Nat → Int32) (s1 : Int32) {oneKept : Int32} {H : Heap} {locs : List Loc} {ls : Array Slot}, va_P Γ.1 vwCl (wd_X8_keep Γ q0 q1 q2 d0 d1 d2 d3 d4 d5 d6 d7 d8 d9 d10 d11 d12 length undoMany zeroKept oneKept seen spot kind begin letters figures value plated driven rows periods leastPeriod sv images) H → va_D A (wd_X8_keep Γ q0 q1 q2 d0 d1 d2 d3 d4 d5 d6 d7 d8 d9 d10 d11 d12 length undoMany zeroKept oneKept seen spot kind begin letters figures value plated driven rows periods leastPeriod sv images) → va_S A s.heap H locs → lv_has ls 3 [(0, .ref q0)] → f_X8_keep_81 zeroKept sv images s1 = some out → W p l e ({ frames := 1, cells := 0, slots := 0, locals := 25 } : Room) s m ([.ref q0, .int x1] : List Value).toArray below meth c H locs 0 0 QQ (F0 m 81 ls [.int s1, .ref q0]) := by
    intro zeroKept images s1 oneKept H locs ls hP hD hS hl hf
    unfold f_X8_keep_81 at hf
    obtain ⟨hc_1, hf⟩ := vm_ck hf
    refine va_put (D := Γ.1) (ci := 8) (v := .int s1) (ty := .boolean) (C := RX8) (T := TX8) (N := 31) hx hb hts hi8 tyX8 tyX8_ok nmX8 hown hK hP hD hS 0 rfl rfl 8 (by decide) (hts (.fieldLink RX8 245 "SandPlatesModel" "oneKept" "Z") (List.mem_of_getElem? (i := 4) rfl)) (fun _ h9 => h9) rfl (by decide +kernel) (vm_nz hc_1) (vm_fz hc_1) (Nat.le_of_ble_eq_true rfl) dX8_keep_81 (fun H locs hP hD hS => ?_)
    have hP : va_P Γ.1 vwCl (wd_X8_keep Γ q0 q1 q2 d0 d1 d2 d3 d4 d5 d6 d7 d8 d9 d10 d11 d12 length undoMany zeroKept s1 seen spot kind begin letters figures value plated driven rows periods leastPeriod sv images) H := hP
    have hD : va_D A (wd_X8_keep Γ q0 q1 q2 d0 d1 d2 d3 d4 d5 d6 d7 d8 d9 d10 d11 d12 length undoMany zeroKept s1 seen spot kind begin letters figures value plated driven rows periods leastPeriod sv images) := hD
    refine lv_aload_n hx hb dX8_keep_84 rfl (lv_at hl 0 rfl) ?_
    obtain ⟨r_2, hq_3, hf⟩ := ob1_some hf
    refine vm_cVi (isC := [0, 1]) (wc := (wd_X8_cells Γ q0 q1 d0 d1 d2 q2 d3 d4 d5 d6 d7 d8 d9 d10 d11 d12 length undoMany zeroKept s1 seen spot kind begin letters figures value plated driven rows periods leastPeriod sv)) (w1 := (wd_X8_cells Γ q0 q1 d0 d1 d2 q2 d3 d4 d5 d6 d7 d8 d9 d10 d11 d12 length undoMany zeroKept s1 seen spot kind begin letters figures value plated driven rows periods leastPeriod sv)) (As := []) (rest := []) ⟨hx, hb, hml, hown, hts⟩ hE hP hD hS hA rfl rfl rfl (c_X8_cells l Γ _ q0 q1 d0 d1 d2 q2 d3 d4 d5 d6 d7 d8 d9 d10 d11 d12 length undoMany zeroKept s1 seen spot kind begin letters figures value plated driven rows periods leastPeriod sv r_2 hq_3) (cwV 0 hts gX8_keep_X8_cells rfl rfl rfl (by decide +kernel) ⟨Nat.le_of_ble_eq_true rfl, Nat.le_of_ble_eq_true rfl⟩) (va_recv (ci := 8) (q0 := 0) hK hP rfl rfl) rfl hl.1 rfl (Nat.le_of_ble_eq_true rfl) dX8_keep_85 ⟨Nat.zero_le _, Nat.zero_le _⟩ (fun H locs hP hD hS => ?_)
    have hP : va_P Γ.1 vwCl (wd_X8_keep Γ q0 q1 q2 d0 d1 d2 d3 d4 d5 d6 d7 d8 d9 d10 d11 d12 length undoMany zeroKept s1 seen spot kind begin letters figures value plated driven rows periods leastPeriod sv images) H := hP
    have hD : va_D A (wd_X8_keep Γ q0 q1 q2 d0 d1 d2 d3 d4 d5 d6 d7 d8 d9 d10 d11 d12 length undoMany zeroKept s1 seen spot kind begin letters figures value plated driven rows periods leastPeriod sv images) := hD
    subst hout; obtain ⟨rfl, rfl, rfl, rfl⟩ := rt4 hf
    subst hQQ
    exact W.iret hx hb hr (fun t ht hW => ⟨⟨_, (), rfl, rfl, by rw [ht]; exact hP, hD⟩, hS.F ht⟩) hS.2.2 dX8_keep_88
  have K_76 : ∀ (zeroKept : Int32) (images : Nat → Int32) {oneKept : Int32} {H : Heap} {locs : List Loc} {ls : Array Slot}, va_P Γ.1 vwCl (wd_X8_keep Γ q0 q1 q2 d0 d1 d2 d3 d4 d5 d6 d7 d8 d9 d10 d11 d12 length undoMany zeroKept oneKept seen spot kind begin letters figures value plated driven rows periods leastPeriod sv images) H → va_D A (wd_X8_keep Γ q0 q1 q2 d0 d1 d2 d3 d4 d5 d6 d7 d8 d9 d10 d11 d12 length undoMany zeroKept oneKept seen spot kind begin letters figures value plated driven rows periods leastPeriod sv images) → va_S A s.heap H locs → lv_has ls 3 [(0, .ref q0)] → f_X8_keep_76 zeroKept sv images = some out → W p l e ({ frames := 1, cells := 0, slots := 0, locals := 25 } : Room) s m ([.ref q0, .int x1] : List Value).toArray below meth c H locs 0 0 QQ (F0 m 76 ls [.ref q0]) := by
    intro zeroKept images oneKept H locs ls hP hD hS hl hf
    unfold f_X8_keep_76 at hf
    refine lv_iconst (v := 1) hx hb dX8_keep_76 (by decide) ?_
    refine lv_goto (tgt := 81) hx hb dX8_keep_77 (by decide) ?_
    exact K_81 zeroKept images 1 hP hD hS (lv_sub hl [0] rfl) hf
  have K_60 : ∀ (oneKept : Int32) (images : Nat → Int32) (s1 : Int32) {zeroKept : Int32} {H : Heap} {locs : List Loc} {ls : Array Slot}, va_P Γ.1 vwCl (wd_X8_keep Γ q0 q1 q2 d0 d1 d2 d3 d4 d5 d6 d7 d8 d9 d10 d11 d12 length undoMany zeroKept oneKept seen spot kind begin letters figures value plated driven rows periods leastPeriod sv images) H → va_D A (wd_X8_keep Γ q0 q1 q2 d0 d1 d2 d3 d4 d5 d6 d7 d8 d9 d10 d11 d12 length undoMany zeroKept oneKept seen spot kind begin letters figures value plated driven rows periods leastPeriod sv images) → va_S A s.heap H locs → lv_has ls 3 [(0, .ref q0), (1, .int x1)] → f_X8_keep_60 oneKept sv images x1 s1 = some out → W p l e ({ frames := 1, cells := 0, slots := 0, locals := 25 } : Room) s m ([.ref q0, .int x1] : List Value).toArray below meth c H locs 0 0 QQ (F0 m 60 ls [.int s1, .ref q0]) := by
    intro oneKept images s1 zeroKept H locs ls hP hD hS hl hf
    unfold f_X8_keep_60 at hf
    obtain ⟨hc_4, hf⟩ := vm_ck hf
    refine va_put (D := Γ.1) (ci := 8) (v := .int s1) (ty := .boolean) (C := RX8) (T := TX8) (N := 31) hx hb hts hi8 tyX8 tyX8_ok nmX8 hown hK hP hD hS 0 rfl rfl 7 (by decide) (hts (.fieldLink RX8 242 "SandPlatesModel" "zeroKept" "Z") (List.mem_of_getElem? (i := 3) rfl)) (fun _ h9 => h9) rfl (by decide +kernel) (vm_nz hc_4) (vm_fz hc_4) (Nat.le_of_ble_eq_true rfl) dX8_keep_60 (fun H locs hP hD hS => ?_)
    have hP : va_P Γ.1 vwCl (wd_X8_keep Γ q0 q1 q2 d0 d1 d2 d3 d4 d5 d6 d7 d8 d9 d10 d11 d12 length undoMany s1 oneKept seen spot kind begin letters figures value plated driven rows periods leastPeriod sv images) H := hP
    have hD : va_D A (wd_X8_keep Γ q0 q1 q2 d0 d1 d2 d3 d4 d5 d6 d7 d8 d9 d10 d11 d12 length undoMany s1 oneKept seen spot kind begin letters figures value plated driven rows periods leastPeriod sv images) := hD
    refine lv_aload_n hx hb dX8_keep_63 rfl (lv_at hl 0 rfl) ?_
    refine lv_aload_n hx hb dX8_keep_64 rfl (lv_at hl 0 rfl) ?_
    refine va_get (D := Γ.1) (ci := 8) (v := .int oneKept) (C := RX8) (T := TX8) (N := 31) hx hb hts hi8 hown hK hP 0 rfl rfl 8 (by decide) (hts (.fieldLink RX8 245 "SandPlatesModel" "oneKept" "Z") (List.mem_of_getElem? (i := 4) rfl)) (fun _ h9 => h9) rfl dX8_keep_65 ?_
    refine lv_if_ne (tgt := 76) hx hb dX8_keep_68 (by decide) (fun hc_5 => ?_) (fun hc_5 => ?_)
    · have hf := vm_neg hc_5 hf
      exact K_76 s1 images hP hD hS (lv_sub hl [0] rfl) hf
    · have hf := vm_pos hc_5 hf
      refine lv_iload_n hx hb dX8_keep_71 rfl (lv_at hl 1 rfl) ?_
      refine lv_iconst (v := 1) hx hb dX8_keep_72 (by decide) ?_
      refine lv_icmp_ne (tgt := 80) hx hb dX8_keep_73 (by decide) (fun hc_6 => ?_) (fun hc_6 => ?_)
      · have hf := vm_neg hc_6 hf
        refine lv_iconst (v := 0) hx hb dX8_keep_80 (by decide) ?_
        exact K_81 s1 images 0 hP hD hS (lv_sub hl [0] rfl) hf
      · have hf := vm_pos hc_6 hf
        exact K_76 s1 images hP hD hS (lv_sub hl [0] rfl) hf
  have K_55 : ∀ (oneKept : Int32) (images : Nat → Int32) {zeroKept : Int32} {H : Heap} {locs : List Loc} {ls : Array Slot}, va_P Γ.1 vwCl (wd_X8_keep Γ q0 q1 q2 d0 d1 d2 d3 d4 d5 d6 d7 d8 d9 d10 d11 d12 length undoMany zeroKept oneKept seen spot kind begin letters figures value plated driven rows periods leastPeriod sv images) H → va_D A (wd_X8_keep Γ q0 q1 q2 d0 d1 d2 d3 d4 d5 d6 d7 d8 d9 d10 d11 d12 length undoMany zeroKept oneKept seen spot kind begin letters figures value plated driven rows periods leastPeriod sv images) → va_S A s.heap H locs → lv_has ls 3 [(0, .ref q0), (1, .int x1)] → f_X8_keep_55 oneKept sv images x1 = some out → W p l e ({ frames := 1, cells := 0, slots := 0, locals := 25 } : Room) s m ([.ref q0, .int x1] : List Value).toArray below meth c H locs 0 0 QQ (F0 m 55 ls [.ref q0]) := by
    intro oneKept images zeroKept H locs ls hP hD hS hl hf
    unfold f_X8_keep_55 at hf
    refine lv_iconst (v := 1) hx hb dX8_keep_55 (by decide) ?_
    refine lv_goto (tgt := 60) hx hb dX8_keep_56 (by decide) ?_
    exact K_60 oneKept images 1 hP hD hS (lv_sub hl [0, 1] rfl) hf
  have K_43 : ∀ (zeroKept : Int32) (oneKept : Int32) (images : Nat → Int32) {H : Heap} {locs : List Loc} {ls : Array Slot}, va_P Γ.1 vwCl (wd_X8_keep Γ q0 q1 q2 d0 d1 d2 d3 d4 d5 d6 d7 d8 d9 d10 d11 d12 length undoMany zeroKept oneKept seen spot kind begin letters figures value plated driven rows periods leastPeriod sv images) H → va_D A (wd_X8_keep Γ q0 q1 q2 d0 d1 d2 d3 d4 d5 d6 d7 d8 d9 d10 d11 d12 length undoMany zeroKept oneKept seen spot kind begin letters figures value plated driven rows periods leastPeriod sv images) → va_S A s.heap H locs → lv_has ls 3 [(0, .ref q0), (1, .int x1)] → f_X8_keep_43 zeroKept oneKept sv images x1 = some out → W p l e ({ frames := 1, cells := 0, slots := 0, locals := 25 } : Room) s m ([.ref q0, .int x1] : List Value).toArray below meth c H locs 0 0 QQ (F0 m 43 ls []) := by
    intro zeroKept oneKept images H locs ls hP hD hS hl hf
    unfold f_X8_keep_43 at hf
    refine lv_aload_n hx hb dX8_keep_43 rfl (lv_at hl 0 rfl) ?_
    refine lv_aload_n hx hb dX8_keep_44 rfl (lv_at hl 0 rfl) ?_
    refine va_get (D := Γ.1) (ci := 8) (v := .int zeroKept) (C := RX8) (T := TX8) (N := 31) hx hb hts hi8 hown hK hP 0 rfl rfl 7 (by decide) (hts (.fieldLink RX8 242 "SandPlatesModel" "zeroKept" "Z") (List.mem_of_getElem? (i := 3) rfl)) (fun _ h9 => h9) rfl dX8_keep_45 ?_
    refine lv_if_ne (tgt := 55) hx hb dX8_keep_48 (by decide) (fun hc_7 => ?_) (fun hc_7 => ?_)
    · have hf := vm_neg hc_7 hf
      exact K_55 oneKept images hP hD hS (lv_sub hl [0, 1] rfl) hf
    · have hf := vm_pos hc_7 hf
      refine lv_iload_n hx hb dX8_keep_51 rfl (lv_at hl 1 rfl) ?_
      refine lv_if_ne (tgt := 59) hx hb dX8_keep_52 (by decide) (fun hc_8 => ?_) (fun hc_8 => ?_)
      · have hf := vm_neg hc_8 hf
        refine lv_iconst (v := 0) hx hb dX8_keep_59 (by decide) ?_
        exact K_60 oneKept images 0 hP hD hS (lv_sub hl [0, 1] rfl) hf
      · have hf := vm_pos hc_8 hf
        exact K_55 oneKept images hP hD hS (lv_sub hl [0, 1] rfl) hf
  have K_14 : ∀ (zeroKept : Int32) (oneKept : Int32) (images : Nat → Int32) (x2 : Int32) {H : Heap} {locs : List Loc} {ls : Array Slot}, va_P Γ.1 vwCl (wd_X8_keep Γ q0 q1 q2 d0 d1 d2 d3 d4 d5 d6 d7 d8 d9 d10 d11 d12 length undoMany zeroKept oneKept seen spot kind begin letters figures value plated driven rows periods leastPeriod sv images) H → va_D A (wd_X8_keep Γ q0 q1 q2 d0 d1 d2 d3 d4 d5 d6 d7 d8 d9 d10 d11 d12 length undoMany zeroKept oneKept seen spot kind begin letters figures value plated driven rows periods leastPeriod sv images) → va_S A s.heap H locs → lv_has ls 3 [(0, .ref q0), (1, .int x1), (2, .int x2)] → f_X8_keep_14 zeroKept oneKept sv images x1 x2 = some out → W p l e ({ frames := 1, cells := 0, slots := 0, locals := 25 } : Room) s m ([.ref q0, .int x1] : List Value).toArray below meth c H locs 0 0 QQ (F0 m 14 ls []) := by
    intro zeroKept oneKept images x2 H locs ls hP hD hS hl hf
    unfold f_X8_keep_14 at hf
    obtain ⟨ex14, h1, hX14⟩ := obx_some hf
    have LP : ∀ (n : Nat) (images : Nat → Int32) (x2 : Int32)  {H : Heap} {locs : List Loc} {ls : Array Slot}, va_P Γ.1 vwCl (wd_X8_keep Γ q0 q1 q2 d0 d1 d2 d3 d4 d5 d6 d7 d8 d9 d10 d11 d12 length undoMany zeroKept oneKept seen spot kind begin letters figures value plated driven rows periods leastPeriod sv images) H → va_D A (wd_X8_keep Γ q0 q1 q2 d0 d1 d2 d3 d4 d5 d6 d7 d8 d9 d10 d11 d12 length undoMany zeroKept oneKept seen spot kind begin letters figures value plated driven rows periods leastPeriod sv images) → va_S A s.heap H locs → lv_has ls 3 [(0, .ref q0), (1, .int x1), (2, .int x2)] → vm_it (f_X8_keep_14s zeroKept oneKept sv x1) n (images, x2) = some ex14 → W p l e ({ frames := 1, cells := 0, slots := 0, locals := 25 } : Room) s m ([.ref q0, .int x1] : List Value).toArray below meth c H locs 0 0 QQ (F0 m 14 ls []) := by
      clear hP hD hS hl hf h1
      intro n
      induction n with
      | zero => intro images x2 H locs ls hP hD hS hl hf; exact (vm_it_0 hf).elim
      | succ n ih =>
        intro images x2 H locs ls hP hD hS hl hf
        have hf : f_X8_keep_14b zeroKept oneKept sv x1 images x2 (vm_it (f_X8_keep_14s zeroKept oneKept sv x1) n) = some ex14 := hf
        unfold f_X8_keep_14b at hf
        refine lv_iload_n hx hb dX8_keep_14 rfl (lv_at hl 2 rfl) ?_
        refine lv_bipush (v := 81) hx hb dX8_keep_15 (by decide) ?_
        refine lv_icmp_ge (tgt := 43) hx hb dX8_keep_17 (by decide) (fun hc_9 => ?_) (fun hc_9 => ?_)
        · have hf := vm_pos hc_9 hf
          have hX := hX14
          rw [← Option.some.inj hf] at hX
          exact K_43 zeroKept oneKept images hP hD hS (lv_sub hl [0, 1] rfl) hX
        · have hf := vm_neg hc_9 hf
          refine lv_aload_n hx hb dX8_keep_20 rfl (lv_at hl 0 rfl) ?_
          refine va_get (D := Γ.1) (ci := 8) (v := .ref q2) (C := RX8) (T := TX8) (N := 31) hx hb hts hi8 hown hK hP 0 rfl rfl 6 (by decide) (hts (.fieldLink RX8 22 "SandPlatesModel" "images" "[I") (List.mem_of_getElem? (i := 1) rfl)) (fun _ h9 => h9) rfl dX8_keep_21 ?_
          refine lv_bipush (v := 81) hx hb dX8_keep_24 (by decide) ?_
          refine lv_iload_n hx hb dX8_keep_26 rfl (lv_at hl 1 rfl) ?_
          refine lv_imul hx hb dX8_keep_27 ?_
          refine lv_iload_n hx hb dX8_keep_28 rfl (lv_at hl 2 rfl) ?_
          refine lv_iadd hx hb dX8_keep_29 ?_
          refine lv_aload_n hx hb dX8_keep_30 rfl (lv_at hl 0 rfl) ?_
          refine va_get (D := Γ.1) (ci := 8) (v := .ref q1) (C := RX8) (T := TX8) (N := 31) hx hb hts hi8 hown hK hP 0 rfl rfl 2 (by decide) (hts (.fieldLink RX8 13 "SandPlatesModel" "s" "[I") (List.mem_of_getElem? (i := 2) rfl)) (fun _ h9 => h9) rfl dX8_keep_31 ?_
          refine lv_iload_n hx hb dX8_keep_34 rfl (lv_at hl 2 rfl) ?_
          obtain ⟨hc_10, hf⟩ := vm_ck hf
          refine vm_iald hx hb hK hP 1 0 rfl rfl hc_10 (j := x2.toNatClampNeg) rfl dX8_keep_35 ?_
          obtain ⟨hc_11, hf⟩ := vm_ck hf
          refine vm_iast hx hb hK hP hD hS 2 0 rfl rfl hc_11 (j := (((81 * x1) + x2).toNatClampNeg)) rfl dX8_keep_36 (fun H locs hP hD hS => ?_)
          have hP : va_P Γ.1 vwCl (wd_X8_keep Γ q0 q1 q2 d0 d1 d2 d3 d4 d5 d6 d7 d8 d9 d10 d11 d12 length undoMany zeroKept oneKept seen spot kind begin letters figures value plated driven rows periods leastPeriod sv (upd images (((81 * x1) + x2).toNatClampNeg) (sv (x2.toNatClampNeg)))) H := hP
          have hD : va_D A (wd_X8_keep Γ q0 q1 q2 d0 d1 d2 d3 d4 d5 d6 d7 d8 d9 d10 d11 d12 length undoMany zeroKept oneKept seen spot kind begin letters figures value plated driven rows periods leastPeriod sv (upd images (((81 * x1) + x2).toNatClampNeg) (sv (x2.toNatClampNeg)))) := hD
          refine lv_iinc (v := (x2 + 1)) (lv' := [(2, .int (x2 + 1)), (0, .ref q0), (1, .int x1)]) hx hb dX8_keep_37 hl (k := 2) rfl rfl (by decide) rfl (fun ls hl => ?_)
          refine lv_goto (tgt := 14) hx hb dX8_keep_40 (by decide) ?_
          exact ih (upd images (((81 * x1) + x2).toNatClampNeg) (sv (x2.toNatClampNeg))) (x2 + 1) hP hD hS (lv_sub hl [1, 2, 0] rfl) hf
    exact LP FU images x2 hP hD hS hl h1
  unfold f_X8_keep at hf
  refine lv_iload_n hx hb dX8_keep_0 rfl (lv_at hl 1 rfl) ?_
  refine lv_i2l hx hb dX8_keep_1 rfl ?_
  refine lv_lconst (v := 0) hx hb dX8_keep_2 (by decide) ?_
  refine lv_lconst (v := 1) hx hb dX8_keep_3 (by decide) ?_
  obtain ⟨r_12, hq_13, hf⟩ := ob1_some hf
  refine vm_cSi (isC := []) (wc := (wd_X8_in Γ)) (w1 := (wd_X8_in Γ)) (As := [.long ((x1).toInt64), .long 0, .long 1]) (rest := []) ⟨hx, hb, hml, hown, hts⟩ hE hP hD hS hA rfl rfl rfl (c_X8_in l Γ _ ((x1).toInt64) 0 1 r_12 hq_13) (va_cwS 3 hts gX8_keep_X8_in rfl rfl rfl (by decide +kernel) ⟨Nat.le_of_ble_eq_true rfl, Nat.le_of_ble_eq_true rfl⟩) rfl hl.1 rfl (Nat.le_of_ble_eq_true rfl) dX8_keep_4 ⟨Nat.zero_le _, Nat.zero_le _⟩ (fun H locs hP hD hS => ?_)
  have hP : va_P Γ.1 vwCl (wd_X8_keep Γ q0 q1 q2 d0 d1 d2 d3 d4 d5 d6 d7 d8 d9 d10 d11 d12 length undoMany zeroKept oneKept seen spot kind begin letters figures value plated driven rows periods leastPeriod sv images) H := hP
  have hD : va_D A (wd_X8_keep Γ q0 q1 q2 d0 d1 d2 d3 d4 d5 d6 d7 d8 d9 d10 d11 d12 length undoMany zeroKept oneKept seen spot kind begin letters figures value plated driven rows periods leastPeriod sv images) := hD
  refine lv_if_ne (tgt := 12) hx hb dX8_keep_7 (by decide) (fun hc_14 => ?_) (fun hc_14 => ?_)
  · have hf := vm_neg hc_14 hf
    refine lv_iconst (v := 0) hx hb dX8_keep_12 (by decide) ?_
    refine lv_istore_n (lv' := [(2, .int 0), (0, .ref q0), (1, .int x1)]) hx hb dX8_keep_13 rfl hl (by decide) rfl (fun ls hl => ?_)
    exact K_14 zeroKept oneKept images 0 hP hD hS (lv_sub hl [1, 2, 0] rfl) hf
  · have hf := vm_pos hc_14 hf
    refine lv_iconst (v := (-1)) hx hb dX8_keep_10 (by decide) ?_
    subst hout; obtain ⟨rfl, rfl, rfl, rfl⟩ := rt4 hf
    subst hQQ
    exact W.iret hx hb hr (fun t ht hW => ⟨⟨_, (), rfl, rfl, by rw [ht]; exact hP, hD⟩, hS.F ht⟩) hS.2.2 dX8_keep_11
def wd_X8_back (Γ : GE) (q0 q1 q2 d0 d1 d2 d3 d4 d5 d6 d7 d8 d9 d10 d11 d12 : Nat) (length : Int32) (undoMany : Int32) (zeroKept : Int32) (oneKept : Int32) (seen : Int32) (spot : Int32) (kind : Int32) (begin : Int32) (letters : Int64) (figures : Int32) (value : Int32) (plated : Int32) (driven : Int32) (rows : Int32) (periods : Int32) (leastPeriod : Int32) (sv : Nat → Int32) (images : Nat → Int32) : va_W := [(q0, .inr (8, [.int length, .ref d0, .ref q1, .ref d1, .ref d2, .int undoMany, .ref q2, .int zeroKept, .int oneKept, .ref d3, .ref d4, .int seen, .int spot, .int kind, .int begin, .long letters, .int figures, .int value, .int plated, .int driven, .int rows, .ref d5, .ref d6, .ref d7, .ref d8, .ref d9, .ref d10, .ref d11, .ref d12, .int periods, .int leastPeriod])), (q1, .inl (Γ.2.1 0, 81, .inl sv)), (q2, .inl (Γ.2.1 0, 162, .inl images))]
def f_X8_back_67 (sv : Nat → Int32) : Option (Int32 × Int32 × (Nat → Int32)) := ob1 (f_X8_cells sv) (fun r_1 => some (r_1, 0, sv))
def f_X8_back_38b (images : Nat → Int32) (x1 : Int32) (sv : Nat → Int32) (x2 : Int32) (k : (((Nat → Int32) × Int32) → Option (Nat → Int32))) : Option (Nat → Int32) := if 81 ≤ x2 then (some sv) else (if inb ((81 * x1) + x2) 162 = true then if inb x2 81 = true then k ((upd sv (x2.toNatClampNeg) (images (((81 * x1) + x2).toNatClampNeg))), (x2 + 1)) else none else none)
def f_X8_back_38s (images : Nat → Int32) (x1 : Int32) : ((Nat → Int32) × Int32) → (((Nat → Int32) × Int32) → Option (Nat → Int32)) → Option (Nat → Int32) := fun t k => f_X8_back_38b images x1 t.1 t.2 k
def f_X8_back_38 (sv : Nat → Int32) (images : Nat → Int32) (x1 : Int32) (x2 : Int32) : Option (Int32 × Int32 × (Nat → Int32)) := obx (vm_it (f_X8_back_38s images x1) FU (sv, x2)) (fun sv => f_X8_back_67 sv)
def f_X8_back_36 (sv : Nat → Int32) (images : Nat → Int32) (x1 : Int32) : Option (Int32 × Int32 × (Nat → Int32)) := f_X8_back_38 sv images x1 0
def f_X8_back_33 (undoMany : Int32) (sv : Nat → Int32) : Option (Int32 × Int32 × (Nat → Int32)) := some ((-2), undoMany, sv)
def f_X8_back (undoMany : Int32) (zeroKept : Int32) (oneKept : Int32) (sv : Nat → Int32) (images : Nat → Int32) (x1 : Int32) : Option (Int32 × Int32 × (Nat → Int32)) := ob1 (f_X8_in ((x1).toInt64) 0 1) (fun r_6 => if r_6 = 0 then (some ((-1), undoMany, sv)) else (if x1 = 0 then (if zeroKept = 0 then (f_X8_back_33 undoMany sv) else (f_X8_back_36 sv images x1)) else (if oneKept = 0 then (f_X8_back_33 undoMany sv) else (f_X8_back_36 sv images x1))))
set_option maxHeartbeats 4000000 in
set_option maxRecDepth 100000 in
theorem c_X8_back (l : Launch) (Γ : GE) (sz : Nat) (q0 q1 q2 d0 d1 d2 d3 d4 d5 d6 d7 d8 d9 d10 d11 d12 : Nat) (length : Int32) (undoMany : Int32) (zeroKept : Int32) (oneKept : Int32) (seen : Int32) (spot : Int32) (kind : Int32) (begin : Int32) (letters : Int64) (figures : Int32) (value : Int32) (plated : Int32) (driven : Int32) (rows : Int32) (periods : Int32) (leastPeriod : Int32) (sv : Nat → Int32) (images : Nat → Int32) (x1 : Int32) (ro : Int32) (o_undoMany : Int32) (o_sv : Nat → Int32) (hf : f_X8_back undoMany zeroKept oneKept sv images x1 = some (ro, o_undoMany, o_sv)) : MetI l yX8_back wsX8_back ({ frames := 1, cells := 0, slots := 0, locals := 25 } : Room) Γ [.ref q0, .int x1] (wd_X8_back Γ q0 q1 q2 d0 d1 d2 d3 d4 d5 d6 d7 d8 d9 d10 d11 d12 length undoMany zeroKept oneKept seen spot kind begin letters figures value plated driven rows periods leastPeriod sv images) (wd_X8_back Γ q0 q1 q2 d0 d1 d2 d3 d4 d5 d6 d7 d8 d9 d10 d11 d12 length o_undoMany zeroKept oneKept seen spot kind begin letters figures value plated driven rows periods leastPeriod o_sv images) sz ro := by
  refine Met.ofW (cc := cX8_back) (maxL := 3) (ret := (some .int)) (by decide) rfl ?_
  intro p e s m args below meth c s₁ B hml hv
  obtain ⟨rfl, hsz, hE, hP, hD⟩ := hv
  have hx := B.exec
  have hb := B.bytes
  have hr := B.returns
  have hts := atoms_spec (ws := wsX8_back) B.pre
  have hown : s.vm.findClass RX8 = some m.cls := findClass_of_methodNamed B.named
  have hlocks := B.notSynchronized
  subst hsz
  generalize hAe : va_A (wd_X8_back Γ q0 q1 q2 d0 d1 d2 d3 d4 d5 d6 d7 d8 d9 d10 d11 d12 length undoMany zeroKept oneKept seen spot kind begin letters figures value plated driven rows periods leastPeriod sv images) s.heap.size = A at hE hD ⊢
  have hA : ∀ q : Nat, s.heap.size ≤ q → A q := fun q h => by rw [← hAe]; exact Or.inr h
  clear hAe
  have hS : va_S A s.heap s.heap [] := va_S.rf
  have hK := hE.1
  have hl := lv_entry ([.ref q0, .int x1]) (n := 3) (Nat.le_of_ble_eq_true rfl)
  rw [lg_entry_eq]
  generalize (lg_sl ([.ref q0, .int x1]) ++ List.replicate (3 - (lg_sl ([.ref q0, .int x1])).length) Slot.unset).toArray = ls at hl ⊢
  have hl : lv_has ls 3 [(0, .ref q0), (1, .int x1)] := hl
  have hi8 : ∀ w ∈ u_ws RX8 TX8 31, w ∈ wsX8_back := fun w h => (List.mem_cons_of_mem _ (List.mem_append_right _ h))
  obtain ⟨out, hout⟩ : ∃ o, o = (ro, o_undoMany, o_sv) := ⟨_, rfl⟩
  rw [← hout] at hf
  obtain ⟨QQ, hQQ⟩ : ∃ Q, Q = MQ below (va_Qi (fun (r' : Int32) (_ : Unit) => r' = ro) (CQ Γ (wd_X8_back Γ q0 q1 q2 d0 d1 d2 d3 d4 d5 d6 d7 d8 d9 d10 d11 d12 length o_undoMany zeroKept oneKept seen spot kind begin letters figures value plated driven rows periods leastPeriod o_sv images) A) A) (([.ref q0, .int x1] : List Value).toArray) s 0 0 A := ⟨_, rfl⟩
  show W p l e ({ frames := 1, cells := 0, slots := 0, locals := 25 } : Room) s m (([.ref q0, .int x1] : List Value).toArray) below meth c s.heap [] 0 0 (MQ below _ (([.ref q0, .int x1] : List Value).toArray) s 0 0 A) (F0 m 0 ls [])
  rw [← hQQ]
  have K_67 : ∀ (sv : Nat → Int32) {undoMany : Int32} {H : Heap} {locs : List Loc} {ls : Array Slot}, va_P Γ.1 vwCl (wd_X8_back Γ q0 q1 q2 d0 d1 d2 d3 d4 d5 d6 d7 d8 d9 d10 d11 d12 length undoMany zeroKept oneKept seen spot kind begin letters figures value plated driven rows periods leastPeriod sv images) H → va_D A (wd_X8_back Γ q0 q1 q2 d0 d1 d2 d3 d4 d5 d6 d7 d8 d9 d10 d11 d12 length undoMany zeroKept oneKept seen spot kind begin letters figures value plated driven rows periods leastPeriod sv images) → va_S A s.heap H locs → lv_has ls 3 [(0, .ref q0)] → f_X8_back_67 sv = some out → W p l e ({ frames := 1, cells := 0, slots := 0, locals := 25 } : Room) s m ([.ref q0, .int x1] : List Value).toArray below meth c H locs 0 0 QQ (F0 m 67 ls []) := by
    intro sv undoMany H locs ls hP hD hS hl hf
    unfold f_X8_back_67 at hf
    refine lv_aload_n hx hb dX8_back_67 rfl (lv_at hl 0 rfl) ?_
    refine lv_iconst (v := 0) hx hb dX8_back_68 (by decide) ?_
    refine va_put (D := Γ.1) (ci := 8) (v := .int 0) (ty := .int) (C := RX8) (T := TX8) (N := 31) hx hb hts hi8 tyX8 tyX8_ok nmX8 hown hK hP hD hS 0 rfl rfl 5 (by decide) (hts (.fieldLink RX8 165 "SandPlatesModel" "undoMany" "I") (List.mem_of_getElem? (i := 5) rfl)) (fun _ h9 => h9) rfl (by decide +kernel) rfl rfl (Nat.le_of_ble_eq_true rfl) dX8_back_69 (fun H locs hP hD hS => ?_)
    have hP : va_P Γ.1 vwCl (wd_X8_back Γ q0 q1 q2 d0 d1 d2 d3 d4 d5 d6 d7 d8 d9 d10 d11 d12 length 0 zeroKept oneKept seen spot kind begin letters figures value plated driven rows periods leastPeriod sv images) H := hP
    have hD : va_D A (wd_X8_back Γ q0 q1 q2 d0 d1 d2 d3 d4 d5 d6 d7 d8 d9 d10 d11 d12 length 0 zeroKept oneKept seen spot kind begin letters figures value plated driven rows periods leastPeriod sv images) := hD
    refine lv_aload_n hx hb dX8_back_72 rfl (lv_at hl 0 rfl) ?_
    obtain ⟨r_1, hq_2, hf⟩ := ob1_some hf
    refine vm_cVi (isC := [0, 1]) (wc := (wd_X8_cells Γ q0 q1 d0 d1 d2 q2 d3 d4 d5 d6 d7 d8 d9 d10 d11 d12 length 0 zeroKept oneKept seen spot kind begin letters figures value plated driven rows periods leastPeriod sv)) (w1 := (wd_X8_cells Γ q0 q1 d0 d1 d2 q2 d3 d4 d5 d6 d7 d8 d9 d10 d11 d12 length 0 zeroKept oneKept seen spot kind begin letters figures value plated driven rows periods leastPeriod sv)) (As := []) (rest := []) ⟨hx, hb, hml, hown, hts⟩ hE hP hD hS hA rfl rfl rfl (c_X8_cells l Γ _ q0 q1 d0 d1 d2 q2 d3 d4 d5 d6 d7 d8 d9 d10 d11 d12 length 0 zeroKept oneKept seen spot kind begin letters figures value plated driven rows periods leastPeriod sv r_1 hq_2) (cwV 0 hts gX8_back_X8_cells rfl rfl rfl (by decide +kernel) ⟨Nat.le_of_ble_eq_true rfl, Nat.le_of_ble_eq_true rfl⟩) (va_recv (ci := 8) (q0 := 0) hK hP rfl rfl) rfl hl.1 rfl (Nat.le_of_ble_eq_true rfl) dX8_back_73 ⟨Nat.zero_le _, Nat.zero_le _⟩ (fun H locs hP hD hS => ?_)
    have hP : va_P Γ.1 vwCl (wd_X8_back Γ q0 q1 q2 d0 d1 d2 d3 d4 d5 d6 d7 d8 d9 d10 d11 d12 length 0 zeroKept oneKept seen spot kind begin letters figures value plated driven rows periods leastPeriod sv images) H := hP
    have hD : va_D A (wd_X8_back Γ q0 q1 q2 d0 d1 d2 d3 d4 d5 d6 d7 d8 d9 d10 d11 d12 length 0 zeroKept oneKept seen spot kind begin letters figures value plated driven rows periods leastPeriod sv images) := hD
    subst hout; obtain ⟨rfl, rfl, rfl⟩ := rt3 hf
    subst hQQ
    exact W.iret hx hb hr (fun t ht hW => ⟨⟨_, (), rfl, rfl, by rw [ht]; exact hP, hD⟩, hS.F ht⟩) hS.2.2 dX8_back_76
  have K_38 : ∀ (sv : Nat → Int32) (x2 : Int32) {undoMany : Int32} {H : Heap} {locs : List Loc} {ls : Array Slot}, va_P Γ.1 vwCl (wd_X8_back Γ q0 q1 q2 d0 d1 d2 d3 d4 d5 d6 d7 d8 d9 d10 d11 d12 length undoMany zeroKept oneKept seen spot kind begin letters figures value plated driven rows periods leastPeriod sv images) H → va_D A (wd_X8_back Γ q0 q1 q2 d0 d1 d2 d3 d4 d5 d6 d7 d8 d9 d10 d11 d12 length undoMany zeroKept oneKept seen spot kind begin letters figures value plated driven rows periods leastPeriod sv images) → va_S A s.heap H locs → lv_has ls 3 [(0, .ref q0), (1, .int x1), (2, .int x2)] → f_X8_back_38 sv images x1 x2 = some out → W p l e ({ frames := 1, cells := 0, slots := 0, locals := 25 } : Room) s m ([.ref q0, .int x1] : List Value).toArray below meth c H locs 0 0 QQ (F0 m 38 ls []) := by
    intro sv x2 undoMany H locs ls hP hD hS hl hf
    unfold f_X8_back_38 at hf
    obtain ⟨ex38, h1, hX38⟩ := obx_some hf
    have LP : ∀ (n : Nat) (sv : Nat → Int32) (x2 : Int32)  {H : Heap} {locs : List Loc} {ls : Array Slot}, va_P Γ.1 vwCl (wd_X8_back Γ q0 q1 q2 d0 d1 d2 d3 d4 d5 d6 d7 d8 d9 d10 d11 d12 length undoMany zeroKept oneKept seen spot kind begin letters figures value plated driven rows periods leastPeriod sv images) H → va_D A (wd_X8_back Γ q0 q1 q2 d0 d1 d2 d3 d4 d5 d6 d7 d8 d9 d10 d11 d12 length undoMany zeroKept oneKept seen spot kind begin letters figures value plated driven rows periods leastPeriod sv images) → va_S A s.heap H locs → lv_has ls 3 [(0, .ref q0), (1, .int x1), (2, .int x2)] → vm_it (f_X8_back_38s images x1) n (sv, x2) = some ex38 → W p l e ({ frames := 1, cells := 0, slots := 0, locals := 25 } : Room) s m ([.ref q0, .int x1] : List Value).toArray below meth c H locs 0 0 QQ (F0 m 38 ls []) := by
      clear hP hD hS hl hf h1
      intro n
      induction n with
      | zero => intro sv x2 H locs ls hP hD hS hl hf; exact (vm_it_0 hf).elim
      | succ n ih =>
        intro sv x2 H locs ls hP hD hS hl hf
        have hf : f_X8_back_38b images x1 sv x2 (vm_it (f_X8_back_38s images x1) n) = some ex38 := hf
        unfold f_X8_back_38b at hf
        refine lv_iload_n hx hb dX8_back_38 rfl (lv_at hl 2 rfl) ?_
        refine lv_bipush (v := 81) hx hb dX8_back_39 (by decide) ?_
        refine lv_icmp_ge (tgt := 67) hx hb dX8_back_41 (by decide) (fun hc_3 => ?_) (fun hc_3 => ?_)
        · have hf := vm_pos hc_3 hf
          have hX := hX38
          rw [← Option.some.inj hf] at hX
          exact K_67 sv hP hD hS (lv_sub hl [0] rfl) hX
        · have hf := vm_neg hc_3 hf
          refine lv_aload_n hx hb dX8_back_44 rfl (lv_at hl 0 rfl) ?_
          refine va_get (D := Γ.1) (ci := 8) (v := .ref q1) (C := RX8) (T := TX8) (N := 31) hx hb hts hi8 hown hK hP 0 rfl rfl 2 (by decide) (hts (.fieldLink RX8 13 "SandPlatesModel" "s" "[I") (List.mem_of_getElem? (i := 3) rfl)) (fun _ h9 => h9) rfl dX8_back_45 ?_
          refine lv_iload_n hx hb dX8_back_48 rfl (lv_at hl 2 rfl) ?_
          refine lv_aload_n hx hb dX8_back_49 rfl (lv_at hl 0 rfl) ?_
          refine va_get (D := Γ.1) (ci := 8) (v := .ref q2) (C := RX8) (T := TX8) (N := 31) hx hb hts hi8 hown hK hP 0 rfl rfl 6 (by decide) (hts (.fieldLink RX8 22 "SandPlatesModel" "images" "[I") (List.mem_of_getElem? (i := 4) rfl)) (fun _ h9 => h9) rfl dX8_back_50 ?_
          refine lv_bipush (v := 81) hx hb dX8_back_53 (by decide) ?_
          refine lv_iload_n hx hb dX8_back_55 rfl (lv_at hl 1 rfl) ?_
          refine lv_imul hx hb dX8_back_56 ?_
          refine lv_iload_n hx hb dX8_back_57 rfl (lv_at hl 2 rfl) ?_
          refine lv_iadd hx hb dX8_back_58 ?_
          obtain ⟨hc_4, hf⟩ := vm_ck hf
          refine vm_iald hx hb hK hP 2 0 rfl rfl hc_4 (j := ((81 * x1) + x2).toNatClampNeg) rfl dX8_back_59 ?_
          obtain ⟨hc_5, hf⟩ := vm_ck hf
          refine vm_iast hx hb hK hP hD hS 1 0 rfl rfl hc_5 (j := (x2.toNatClampNeg)) rfl dX8_back_60 (fun H locs hP hD hS => ?_)
          have hP : va_P Γ.1 vwCl (wd_X8_back Γ q0 q1 q2 d0 d1 d2 d3 d4 d5 d6 d7 d8 d9 d10 d11 d12 length undoMany zeroKept oneKept seen spot kind begin letters figures value plated driven rows periods leastPeriod (upd sv (x2.toNatClampNeg) (images (((81 * x1) + x2).toNatClampNeg))) images) H := hP
          have hD : va_D A (wd_X8_back Γ q0 q1 q2 d0 d1 d2 d3 d4 d5 d6 d7 d8 d9 d10 d11 d12 length undoMany zeroKept oneKept seen spot kind begin letters figures value plated driven rows periods leastPeriod (upd sv (x2.toNatClampNeg) (images (((81 * x1) + x2).toNatClampNeg))) images) := hD
          refine lv_iinc (v := (x2 + 1)) (lv' := [(2, .int (x2 + 1)), (0, .ref q0), (1, .int x1)]) hx hb dX8_back_61 hl (k := 2) rfl rfl (by decide) rfl (fun ls hl => ?_)
          refine lv_goto (tgt := 38) hx hb dX8_back_64 (by decide) ?_
          exact ih (upd sv (x2.toNatClampNeg) (images (((81 * x1) + x2).toNatClampNeg))) (x2 + 1) hP hD hS (lv_sub hl [1, 2, 0] rfl) hf
    exact LP FU sv x2 hP hD hS hl h1
  have K_36 : ∀ (sv : Nat → Int32) {undoMany : Int32} {H : Heap} {locs : List Loc} {ls : Array Slot}, va_P Γ.1 vwCl (wd_X8_back Γ q0 q1 q2 d0 d1 d2 d3 d4 d5 d6 d7 d8 d9 d10 d11 d12 length undoMany zeroKept oneKept seen spot kind begin letters figures value plated driven rows periods leastPeriod sv images) H → va_D A (wd_X8_back Γ q0 q1 q2 d0 d1 d2 d3 d4 d5 d6 d7 d8 d9 d10 d11 d12 length undoMany zeroKept oneKept seen spot kind begin letters figures value plated driven rows periods leastPeriod sv images) → va_S A s.heap H locs → lv_has ls 3 [(0, .ref q0), (1, .int x1)] → f_X8_back_36 sv images x1 = some out → W p l e ({ frames := 1, cells := 0, slots := 0, locals := 25 } : Room) s m ([.ref q0, .int x1] : List Value).toArray below meth c H locs 0 0 QQ (F0 m 36 ls []) := by
    intro sv undoMany H locs ls hP hD hS hl hf
    unfold f_X8_back_36 at hf
    refine lv_iconst (v := 0) hx hb dX8_back_36 (by decide) ?_
    refine lv_istore_n (lv' := [(2, .int 0), (0, .ref q0), (1, .int x1)]) hx hb dX8_back_37 rfl hl (by decide) rfl (fun ls hl => ?_)
    exact K_38 sv 0 hP hD hS (lv_sub hl [1, 2, 0] rfl) hf
  have K_33 : ∀ (undoMany : Int32) (sv : Nat → Int32) {H : Heap} {locs : List Loc} {ls : Array Slot}, va_P Γ.1 vwCl (wd_X8_back Γ q0 q1 q2 d0 d1 d2 d3 d4 d5 d6 d7 d8 d9 d10 d11 d12 length undoMany zeroKept oneKept seen spot kind begin letters figures value plated driven rows periods leastPeriod sv images) H → va_D A (wd_X8_back Γ q0 q1 q2 d0 d1 d2 d3 d4 d5 d6 d7 d8 d9 d10 d11 d12 length undoMany zeroKept oneKept seen spot kind begin letters figures value plated driven rows periods leastPeriod sv images) → va_S A s.heap H locs → lv_has ls 3 [] → f_X8_back_33 undoMany sv = some out → W p l e ({ frames := 1, cells := 0, slots := 0, locals := 25 } : Room) s m ([.ref q0, .int x1] : List Value).toArray below meth c H locs 0 0 QQ (F0 m 33 ls []) := by
    intro undoMany sv H locs ls hP hD hS hl hf
    unfold f_X8_back_33 at hf
    refine lv_bipush (v := (-2)) hx hb dX8_back_33 (by decide) ?_
    subst hout; obtain ⟨rfl, rfl, rfl⟩ := rt3 hf
    subst hQQ
    exact W.iret hx hb hr (fun t ht hW => ⟨⟨_, (), rfl, rfl, by rw [ht]; exact hP, hD⟩, hS.F ht⟩) hS.2.2 dX8_back_35
  unfold f_X8_back at hf
  refine lv_iload_n hx hb dX8_back_0 rfl (lv_at hl 1 rfl) ?_
  refine lv_i2l hx hb dX8_back_1 rfl ?_
  refine lv_lconst (v := 0) hx hb dX8_back_2 (by decide) ?_
  refine lv_lconst (v := 1) hx hb dX8_back_3 (by decide) ?_
  obtain ⟨r_6, hq_7, hf⟩ := ob1_some hf
  refine vm_cSi (isC := []) (wc := (wd_X8_in Γ)) (w1 := (wd_X8_in Γ)) (As := [.long ((x1).toInt64), .long 0, .long 1]) (rest := []) ⟨hx, hb, hml, hown, hts⟩ hE hP hD hS hA rfl rfl rfl (c_X8_in l Γ _ ((x1).toInt64) 0 1 r_6 hq_7) (va_cwS 3 hts gX8_back_X8_in rfl rfl rfl (by decide +kernel) ⟨Nat.le_of_ble_eq_true rfl, Nat.le_of_ble_eq_true rfl⟩) rfl hl.1 rfl (Nat.le_of_ble_eq_true rfl) dX8_back_4 ⟨Nat.zero_le _, Nat.zero_le _⟩ (fun H locs hP hD hS => ?_)
  have hP : va_P Γ.1 vwCl (wd_X8_back Γ q0 q1 q2 d0 d1 d2 d3 d4 d5 d6 d7 d8 d9 d10 d11 d12 length undoMany zeroKept oneKept seen spot kind begin letters figures value plated driven rows periods leastPeriod sv images) H := hP
  have hD : va_D A (wd_X8_back Γ q0 q1 q2 d0 d1 d2 d3 d4 d5 d6 d7 d8 d9 d10 d11 d12 length undoMany zeroKept oneKept seen spot kind begin letters figures value plated driven rows periods leastPeriod sv images) := hD
  refine lv_if_ne (tgt := 12) hx hb dX8_back_7 (by decide) (fun hc_8 => ?_) (fun hc_8 => ?_)
  · have hf := vm_neg hc_8 hf
    refine lv_iload_n hx hb dX8_back_12 rfl (lv_at hl 1 rfl) ?_
    refine lv_if_ne (tgt := 26) hx hb dX8_back_13 (by decide) (fun hc_9 => ?_) (fun hc_9 => ?_)
    · have hf := vm_neg hc_9 hf
      refine lv_aload_n hx hb dX8_back_26 rfl (lv_at hl 0 rfl) ?_
      refine va_get (D := Γ.1) (ci := 8) (v := .int oneKept) (C := RX8) (T := TX8) (N := 31) hx hb hts hi8 hown hK hP 0 rfl rfl 8 (by decide) (hts (.fieldLink RX8 245 "SandPlatesModel" "oneKept" "Z") (List.mem_of_getElem? (i := 2) rfl)) (fun _ h9 => h9) rfl dX8_back_27 ?_
      refine lv_if_ne (tgt := 36) hx hb dX8_back_30 (by decide) (fun hc_10 => ?_) (fun hc_10 => ?_)
      · have hf := vm_neg hc_10 hf
        exact K_36 sv hP hD hS (lv_sub hl [0, 1] rfl) hf
      · have hf := vm_pos hc_10 hf
        exact K_33 undoMany sv hP hD hS (lv_sub hl [] rfl) hf
    · have hf := vm_pos hc_9 hf
      refine lv_aload_n hx hb dX8_back_16 rfl (lv_at hl 0 rfl) ?_
      refine va_get (D := Γ.1) (ci := 8) (v := .int zeroKept) (C := RX8) (T := TX8) (N := 31) hx hb hts hi8 hown hK hP 0 rfl rfl 7 (by decide) (hts (.fieldLink RX8 242 "SandPlatesModel" "zeroKept" "Z") (List.mem_of_getElem? (i := 1) rfl)) (fun _ h9 => h9) rfl dX8_back_17 ?_
      refine lv_if_ne (tgt := 36) hx hb dX8_back_20 (by decide) (fun hc_11 => ?_) (fun hc_11 => ?_)
      · have hf := vm_neg hc_11 hf
        exact K_36 sv hP hD hS (lv_sub hl [0, 1] rfl) hf
      · have hf := vm_pos hc_11 hf
        refine lv_goto (tgt := 33) hx hb dX8_back_23 (by decide) ?_
        exact K_33 undoMany sv hP hD hS (lv_sub hl [] rfl) hf
  · have hf := vm_pos hc_8 hf
    refine lv_iconst (v := (-1)) hx hb dX8_back_10 (by decide) ?_
    subst hout; obtain ⟨rfl, rfl, rfl⟩ := rt3 hf
    subst hQQ
    exact W.iret hx hb hr (fun t ht hW => ⟨⟨_, (), rfl, rfl, by rw [ht]; exact hP, hD⟩, hS.F ht⟩) hS.2.2 dX8_back_11
def wd_X8_count (Γ : GE) (q0 q1 d0 d1 d2 d3 d4 d5 d6 d7 d8 d9 d10 d11 d12 d13 : Nat) (length : Int32) (undoMany : Int32) (zeroKept : Int32) (oneKept : Int32) (seen : Int32) (spot : Int32) (kind : Int32) (begin : Int32) (letters : Int64) (figures : Int32) (value : Int32) (plated : Int32) (driven : Int32) (rows : Int32) (periods : Int32) (leastPeriod : Int32) (sv : Nat → Int32) : va_W := [(q0, .inr (8, [.int length, .ref d0, .ref q1, .ref d1, .ref d2, .int undoMany, .ref d3, .int zeroKept, .int oneKept, .ref d4, .ref d5, .int seen, .int spot, .int kind, .int begin, .long letters, .int figures, .int value, .int plated, .int driven, .int rows, .ref d6, .ref d7, .ref d8, .ref d9, .ref d10, .ref d11, .ref d12, .ref d13, .int periods, .int leastPeriod])), (q1, .inl (Γ.2.1 0, 81, .inl sv))]
def f_X8_count_120 (sv : Nat → Int32) (x1 : Int32) : Option Int32 := if inb x1 81 = true then some (sv (x1.toNatClampNeg)) else none
def f_X8_count_72 (length : Int32) (undoMany : Int32) (seen : Int32) (sv : Nat → Int32) (x1 : Int32) (x2 : Int32) (x3 : Int32) : Option Int32 := if x1 = 0 then (f_X8_count_120 sv x1) else if x1 = 1 then (f_X8_count_120 sv x1) else if x1 = 2 then (ob1 (f_X8_figure sv) (fun r_5 => some r_5)) else if x1 = 3 then (some x2) else if x1 = 4 then (some x3) else if x1 = 5 then (some seen) else if x1 = 6 then (some length) else if x1 = 7 then (some undoMany) else (some (-1))
def f_X8_count_64 (length : Int32) (undoMany : Int32) (seen : Int32) (sv : Nat → Int32) (x1 : Int32) (x2 : Int32) (x4 : Int32) (s0 : Int32) (s1 : Int32) (k : ((Int32 × Int32 × Int32) → Option (Int32 × Int32))) : Option (Int32 × Int32) := k (x2, (s0 + s1), (x4 + 1))
def f_X8_count_44 (length : Int32) (undoMany : Int32) (seen : Int32) (sv : Nat → Int32) (x1 : Int32) (x3 : Int32) (x4 : Int32) (s0 : Int32) (k : ((Int32 × Int32 × Int32) → Option (Int32 × Int32))) : Option (Int32 × Int32) := if inb (45 + x4) 81 = true then if (sv ((45 + x4).toNatClampNeg)) = 0 then (f_X8_count_64 length undoMany seen sv x1 s0 x4 x3 1 k) else (f_X8_count_64 length undoMany seen sv x1 s0 x4 x3 0 k) else none
def f_X8_count_7b (length : Int32) (undoMany : Int32) (seen : Int32) (sv : Nat → Int32) (x1 : Int32) (x2 : Int32) (x3 : Int32) (x4 : Int32) (k : ((Int32 × Int32 × Int32) → Option (Int32 × Int32))) : Option (Int32 × Int32) := ob1 (f_X8_cells sv) (fun r_14 => if r_14 ≤ x4 then (some (x2, x3)) else (if inb (45 + x4) 81 = true then if (sv ((45 + x4).toNatClampNeg)) ≤ x2 then (f_X8_count_44 length undoMany seen sv x1 x3 x4 x2 k) else (if inb (45 + x4) 81 = true then f_X8_count_44 length undoMany seen sv x1 x3 x4 (sv ((45 + x4).toNatClampNeg)) k else none) else none))
def f_X8_count_7s (length : Int32) (undoMany : Int32) (seen : Int32) (sv : Nat → Int32) (x1 : Int32) : (Int32 × Int32 × Int32) → ((Int32 × Int32 × Int32) → Option (Int32 × Int32)) → Option (Int32 × Int32) := fun t k => f_X8_count_7b length undoMany seen sv x1 t.1 t.2.1 t.2.2 k
def f_X8_count_7 (length : Int32) (undoMany : Int32) (seen : Int32) (sv : Nat → Int32) (x1 : Int32) (x2 : Int32) (x3 : Int32) (x4 : Int32) : Option Int32 := obx (vm_it (f_X8_count_7s length undoMany seen sv x1) FU (x2, x3, x4)) (un2 (fun x2 x3 => f_X8_count_72 length undoMany seen sv x1 x2 x3))
def f_X8_count (length : Int32) (undoMany : Int32) (seen : Int32) (sv : Nat → Int32) (x1 : Int32) : Option Int32 := f_X8_count_7 length undoMany seen sv x1 0 0 0
set_option maxHeartbeats 4000000 in
set_option maxRecDepth 100000 in
theorem c_X8_count (l : Launch) (Γ : GE) (sz : Nat) (q0 q1 d0 d1 d2 d3 d4 d5 d6 d7 d8 d9 d10 d11 d12 d13 : Nat) (length : Int32) (undoMany : Int32) (zeroKept : Int32) (oneKept : Int32) (seen : Int32) (spot : Int32) (kind : Int32) (begin : Int32) (letters : Int64) (figures : Int32) (value : Int32) (plated : Int32) (driven : Int32) (rows : Int32) (periods : Int32) (leastPeriod : Int32) (sv : Nat → Int32) (x1 : Int32) (ro : Int32) (hf : f_X8_count length undoMany seen sv x1 = some ro) : MetI l yX8_count wsX8_count ({ frames := 2, cells := 0, slots := 0, locals := 42 } : Room) Γ [.ref q0, .int x1] (wd_X8_count Γ q0 q1 d0 d1 d2 d3 d4 d5 d6 d7 d8 d9 d10 d11 d12 d13 length undoMany zeroKept oneKept seen spot kind begin letters figures value plated driven rows periods leastPeriod sv) (wd_X8_count Γ q0 q1 d0 d1 d2 d3 d4 d5 d6 d7 d8 d9 d10 d11 d12 d13 length undoMany zeroKept oneKept seen spot kind begin letters figures value plated driven rows periods leastPeriod sv) sz ro := by
  refine Met.ofW (cc := cX8_count) (maxL := 5) (ret := (some .int)) (by decide) rfl ?_
  intro p e s m args below meth c s₁ B hml hv
  obtain ⟨rfl, hsz, hE, hP, hD⟩ := hv
  have hx := B.exec
  have hb := B.bytes
  have hr := B.returns
  have hts := atoms_spec (ws := wsX8_count) B.pre
  have hown : s.vm.findClass RX8 = some m.cls := findClass_of_methodNamed B.named
  have hlocks := B.notSynchronized
  subst hsz
  generalize hAe : va_A (wd_X8_count Γ q0 q1 d0 d1 d2 d3 d4 d5 d6 d7 d8 d9 d10 d11 d12 d13 length undoMany zeroKept oneKept seen spot kind begin letters figures value plated driven rows periods leastPeriod sv) s.heap.size = A at hE hD ⊢
  have hA : ∀ q : Nat, s.heap.size ≤ q → A q := fun q h => by rw [← hAe]; exact Or.inr h
  clear hAe
  have hS : va_S A s.heap s.heap [] := va_S.rf
  have hK := hE.1
  have hl := lv_entry ([.ref q0, .int x1]) (n := 5) (Nat.le_of_ble_eq_true rfl)
  rw [lg_entry_eq]
  generalize (lg_sl ([.ref q0, .int x1]) ++ List.replicate (5 - (lg_sl ([.ref q0, .int x1])).length) Slot.unset).toArray = ls at hl ⊢
  have hl : lv_has ls 5 [(0, .ref q0), (1, .int x1)] := hl
  have hi8 : ∀ w ∈ u_ws RX8 TX8 31, w ∈ wsX8_count := fun w h => (List.mem_cons_of_mem _ (List.mem_append_right _ h))
  obtain ⟨out, hout⟩ : ∃ o, o = ro := ⟨_, rfl⟩
  rw [← hout] at hf
  obtain ⟨QQ, hQQ⟩ : ∃ Q, Q = MQ below (va_Qi (fun (r' : Int32) (_ : Unit) => r' = ro) (CQ Γ (wd_X8_count Γ q0 q1 d0 d1 d2 d3 d4 d5 d6 d7 d8 d9 d10 d11 d12 d13 length undoMany zeroKept oneKept seen spot kind begin letters figures value plated driven rows periods leastPeriod sv) A) A) (([.ref q0, .int x1] : List Value).toArray) s 0 0 A := ⟨_, rfl⟩
  show W p l e ({ frames := 2, cells := 0, slots := 0, locals := 42 } : Room) s m (([.ref q0, .int x1] : List Value).toArray) below meth c s.heap [] 0 0 (MQ below _ (([.ref q0, .int x1] : List Value).toArray) s 0 0 A) (F0 m 0 ls [])
  rw [← hQQ]
  have K_120 : ∀ {H : Heap} {locs : List Loc} {ls : Array Slot}, va_P Γ.1 vwCl (wd_X8_count Γ q0 q1 d0 d1 d2 d3 d4 d5 d6 d7 d8 d9 d10 d11 d12 d13 length undoMany zeroKept oneKept seen spot kind begin letters figures value plated driven rows periods leastPeriod sv) H → va_D A (wd_X8_count Γ q0 q1 d0 d1 d2 d3 d4 d5 d6 d7 d8 d9 d10 d11 d12 d13 length undoMany zeroKept oneKept seen spot kind begin letters figures value plated driven rows periods leastPeriod sv) → va_S A s.heap H locs → lv_has ls 5 [(0, .ref q0), (1, .int x1)] → f_X8_count_120 sv x1 = some out → W p l e ({ frames := 2, cells := 0, slots := 0, locals := 42 } : Room) s m ([.ref q0, .int x1] : List Value).toArray below meth c H locs 0 0 QQ (F0 m 120 ls []) := by
    intro H locs ls hP hD hS hl hf
    unfold f_X8_count_120 at hf
    refine lv_aload_n hx hb dX8_count_120 rfl (lv_at hl 0 rfl) ?_
    refine va_get (D := Γ.1) (ci := 8) (v := .ref q1) (C := RX8) (T := TX8) (N := 31) hx hb hts hi8 hown hK hP 0 rfl rfl 2 (by decide) (hts (.fieldLink RX8 13 "SandPlatesModel" "s" "[I") (List.mem_of_getElem? (i := 1) rfl)) (fun _ h9 => h9) rfl dX8_count_121 ?_
    refine lv_iload_n hx hb dX8_count_124 rfl (lv_at hl 1 rfl) ?_
    obtain ⟨hc_1, hf⟩ := vm_ck hf
    refine vm_iald hx hb hK hP 1 0 rfl rfl hc_1 (j := x1.toNatClampNeg) rfl dX8_count_125 ?_
    subst hout; obtain rfl := Option.some.inj hf
    subst hQQ
    exact W.iret hx hb hr (fun t ht hW => ⟨⟨_, (), rfl, rfl, by rw [ht]; exact hP, hD⟩, hS.F ht⟩) hS.2.2 dX8_count_126
  have K_72 : ∀ (x2 : Int32) (x3 : Int32) {H : Heap} {locs : List Loc} {ls : Array Slot}, va_P Γ.1 vwCl (wd_X8_count Γ q0 q1 d0 d1 d2 d3 d4 d5 d6 d7 d8 d9 d10 d11 d12 d13 length undoMany zeroKept oneKept seen spot kind begin letters figures value plated driven rows periods leastPeriod sv) H → va_D A (wd_X8_count Γ q0 q1 d0 d1 d2 d3 d4 d5 d6 d7 d8 d9 d10 d11 d12 d13 length undoMany zeroKept oneKept seen spot kind begin letters figures value plated driven rows periods leastPeriod sv) → va_S A s.heap H locs → lv_has ls 5 [(0, .ref q0), (1, .int x1), (2, .int x2), (3, .int x3)] → f_X8_count_72 length undoMany seen sv x1 x2 x3 = some out → W p l e ({ frames := 2, cells := 0, slots := 0, locals := 42 } : Room) s m ([.ref q0, .int x1] : List Value).toArray below meth c H locs 0 0 QQ (F0 m 72 ls []) := by
    intro x2 x3 H locs ls hP hD hS hl hf
    unfold f_X8_count_72 at hf
    refine lv_iload_n hx hb dX8_count_72 rfl (lv_at hl 1 rfl) ?_
    by_cases hc_2 : x1 = 0
    · have hf := vm_pos hc_2 hf
      refine lv_tableIn (x := x1) (tgt := 120) hx hb dX8_count_73 (by rw [hc_2]; decide) (by rw [hc_2]; decide) (by rw [hc_2]; rfl) (by decide) ?_
      exact K_120  hP hD hS (lv_sub hl [0, 1] rfl) hf
    · have hf := vm_neg hc_2 hf
      by_cases hc_3 : x1 = 1
      · have hf := vm_pos hc_3 hf
        refine lv_tableIn (x := x1) (tgt := 120) hx hb dX8_count_73 (by rw [hc_3]; decide) (by rw [hc_3]; decide) (by rw [hc_3]; rfl) (by decide) ?_
        exact K_120  hP hD hS (lv_sub hl [0, 1] rfl) hf
      · have hf := vm_neg hc_3 hf
        by_cases hc_4 : x1 = 2
        · have hf := vm_pos hc_4 hf
          refine lv_tableIn (x := x1) (tgt := 127) hx hb dX8_count_73 (by rw [hc_4]; decide) (by rw [hc_4]; decide) (by rw [hc_4]; rfl) (by decide) ?_
          refine lv_aload_n hx hb dX8_count_127 rfl (lv_at hl 0 rfl) ?_
          obtain ⟨r_5, hq_6, hf⟩ := ob1_some hf
          refine vm_cVi (isC := [0, 1]) (wc := (wd_X8_figure Γ q0 q1 d0 d1 d2 d3 d4 d5 d6 d7 d8 d9 d10 d11 d12 d13 length undoMany zeroKept oneKept seen spot kind begin letters figures value plated driven rows periods leastPeriod sv)) (w1 := (wd_X8_figure Γ q0 q1 d0 d1 d2 d3 d4 d5 d6 d7 d8 d9 d10 d11 d12 d13 length undoMany zeroKept oneKept seen spot kind begin letters figures value plated driven rows periods leastPeriod sv)) (As := []) (rest := []) ⟨hx, hb, hml, hown, hts⟩ hE hP hD hS hA rfl rfl rfl (c_X8_figure l Γ _ q0 q1 d0 d1 d2 d3 d4 d5 d6 d7 d8 d9 d10 d11 d12 d13 length undoMany zeroKept oneKept seen spot kind begin letters figures value plated driven rows periods leastPeriod sv r_5 hq_6) (cwV 0 hts gX8_count_X8_figure rfl rfl rfl (by decide +kernel) ⟨Nat.le_of_ble_eq_true rfl, Nat.le_of_ble_eq_true rfl⟩) (va_recv (ci := 8) (q0 := 0) hK hP rfl rfl) rfl hl.1 rfl (Nat.le_of_ble_eq_true rfl) dX8_count_128 ⟨Nat.zero_le _, Nat.zero_le _⟩ (fun H locs hP hD hS => ?_)
          have hP : va_P Γ.1 vwCl (wd_X8_count Γ q0 q1 d0 d1 d2 d3 d4 d5 d6 d7 d8 d9 d10 d11 d12 d13 length undoMany zeroKept oneKept seen spot kind begin letters figures value plated driven rows periods leastPeriod sv) H := hP
          have hD : va_D A (wd_X8_count Γ q0 q1 d0 d1 d2 d3 d4 d5 d6 d7 d8 d9 d10 d11 d12 d13 length undoMany zeroKept oneKept seen spot kind begin letters figures value plated driven rows periods leastPeriod sv) := hD
          subst hout; obtain rfl := Option.some.inj hf
          subst hQQ
          exact W.iret hx hb hr (fun t ht hW => ⟨⟨_, (), rfl, rfl, by rw [ht]; exact hP, hD⟩, hS.F ht⟩) hS.2.2 dX8_count_131
        · have hf := vm_neg hc_4 hf
          by_cases hc_7 : x1 = 3
          · have hf := vm_pos hc_7 hf
            refine lv_tableIn (x := x1) (tgt := 132) hx hb dX8_count_73 (by rw [hc_7]; decide) (by rw [hc_7]; decide) (by rw [hc_7]; rfl) (by decide) ?_
            refine lv_iload_n hx hb dX8_count_132 rfl (lv_at hl 2 rfl) ?_
            subst hout; obtain rfl := Option.some.inj hf
            subst hQQ
            exact W.iret hx hb hr (fun t ht hW => ⟨⟨_, (), rfl, rfl, by rw [ht]; exact hP, hD⟩, hS.F ht⟩) hS.2.2 dX8_count_133
          · have hf := vm_neg hc_7 hf
            by_cases hc_8 : x1 = 4
            · have hf := vm_pos hc_8 hf
              refine lv_tableIn (x := x1) (tgt := 134) hx hb dX8_count_73 (by rw [hc_8]; decide) (by rw [hc_8]; decide) (by rw [hc_8]; rfl) (by decide) ?_
              refine lv_iload_n hx hb dX8_count_134 rfl (lv_at hl 3 rfl) ?_
              subst hout; obtain rfl := Option.some.inj hf
              subst hQQ
              exact W.iret hx hb hr (fun t ht hW => ⟨⟨_, (), rfl, rfl, by rw [ht]; exact hP, hD⟩, hS.F ht⟩) hS.2.2 dX8_count_135
            · have hf := vm_neg hc_8 hf
              by_cases hc_9 : x1 = 5
              · have hf := vm_pos hc_9 hf
                refine lv_tableIn (x := x1) (tgt := 136) hx hb dX8_count_73 (by rw [hc_9]; decide) (by rw [hc_9]; decide) (by rw [hc_9]; rfl) (by decide) ?_
                refine lv_aload_n hx hb dX8_count_136 rfl (lv_at hl 0 rfl) ?_
                refine va_get (D := Γ.1) (ci := 8) (v := .int seen) (C := RX8) (T := TX8) (N := 31) hx hb hts hi8 hown hK hP 0 rfl rfl 11 (by decide) (hts (.fieldLink RX8 230 "SandPlatesModel" "seen" "I") (List.mem_of_getElem? (i := 2) rfl)) (fun _ h9 => h9) rfl dX8_count_137 ?_
                subst hout; obtain rfl := Option.some.inj hf
                subst hQQ
                exact W.iret hx hb hr (fun t ht hW => ⟨⟨_, (), rfl, rfl, by rw [ht]; exact hP, hD⟩, hS.F ht⟩) hS.2.2 dX8_count_140
              · have hf := vm_neg hc_9 hf
                by_cases hc_10 : x1 = 6
                · have hf := vm_pos hc_10 hf
                  refine lv_tableIn (x := x1) (tgt := 141) hx hb dX8_count_73 (by rw [hc_10]; decide) (by rw [hc_10]; decide) (by rw [hc_10]; rfl) (by decide) ?_
                  refine lv_aload_n hx hb dX8_count_141 rfl (lv_at hl 0 rfl) ?_
                  refine va_get (D := Γ.1) (ci := 8) (v := .int length) (C := RX8) (T := TX8) (N := 31) hx hb hts hi8 hown hK hP 0 rfl rfl 0 (by decide) (hts (.fieldLink RX8 65 "SandPlatesModel" "length" "I") (List.mem_of_getElem? (i := 3) rfl)) (fun _ h9 => h9) rfl dX8_count_142 ?_
                  subst hout; obtain rfl := Option.some.inj hf
                  subst hQQ
                  exact W.iret hx hb hr (fun t ht hW => ⟨⟨_, (), rfl, rfl, by rw [ht]; exact hP, hD⟩, hS.F ht⟩) hS.2.2 dX8_count_145
                · have hf := vm_neg hc_10 hf
                  by_cases hc_11 : x1 = 7
                  · have hf := vm_pos hc_11 hf
                    refine lv_tableIn (x := x1) (tgt := 146) hx hb dX8_count_73 (by rw [hc_11]; decide) (by rw [hc_11]; decide) (by rw [hc_11]; rfl) (by decide) ?_
                    refine lv_aload_n hx hb dX8_count_146 rfl (lv_at hl 0 rfl) ?_
                    refine va_get (D := Γ.1) (ci := 8) (v := .int undoMany) (C := RX8) (T := TX8) (N := 31) hx hb hts hi8 hown hK hP 0 rfl rfl 5 (by decide) (hts (.fieldLink RX8 165 "SandPlatesModel" "undoMany" "I") (List.mem_of_getElem? (i := 4) rfl)) (fun _ h9 => h9) rfl dX8_count_147 ?_
                    subst hout; obtain rfl := Option.some.inj hf
                    subst hQQ
                    exact W.iret hx hb hr (fun t ht hW => ⟨⟨_, (), rfl, rfl, by rw [ht]; exact hP, hD⟩, hS.F ht⟩) hS.2.2 dX8_count_150
                  · have hf := vm_neg hc_11 hf
                    refine lv_tableOut (x := x1) (tgt := 151) hx hb dX8_count_73 (by have z0 : x1.toInt ≠ 0 := vm_neI hc_2 rfl; have z1 : x1.toInt ≠ 1 := vm_neI hc_3 rfl; have z2 : x1.toInt ≠ 2 := vm_neI hc_4 rfl; have z3 : x1.toInt ≠ 3 := vm_neI hc_7 rfl; have z4 : x1.toInt ≠ 4 := vm_neI hc_8 rfl; have z5 : x1.toInt ≠ 5 := vm_neI hc_9 rfl; have z6 : x1.toInt ≠ 6 := vm_neI hc_10 rfl; have z7 : x1.toInt ≠ 7 := vm_neI hc_11 rfl; omega) (by decide) ?_
                    refine lv_iconst (v := (-1)) hx hb dX8_count_151 (by decide) ?_
                    subst hout; obtain rfl := Option.some.inj hf
                    subst hQQ
                    exact W.iret hx hb hr (fun t ht hW => ⟨⟨_, (), rfl, rfl, by rw [ht]; exact hP, hD⟩, hS.F ht⟩) hS.2.2 dX8_count_152
  have K_7 : ∀ (x2 : Int32) (x3 : Int32) (x4 : Int32) {H : Heap} {locs : List Loc} {ls : Array Slot}, va_P Γ.1 vwCl (wd_X8_count Γ q0 q1 d0 d1 d2 d3 d4 d5 d6 d7 d8 d9 d10 d11 d12 d13 length undoMany zeroKept oneKept seen spot kind begin letters figures value plated driven rows periods leastPeriod sv) H → va_D A (wd_X8_count Γ q0 q1 d0 d1 d2 d3 d4 d5 d6 d7 d8 d9 d10 d11 d12 d13 length undoMany zeroKept oneKept seen spot kind begin letters figures value plated driven rows periods leastPeriod sv) → va_S A s.heap H locs → lv_has ls 5 [(0, .ref q0), (1, .int x1), (2, .int x2), (3, .int x3), (4, .int x4)] → f_X8_count_7 length undoMany seen sv x1 x2 x3 x4 = some out → W p l e ({ frames := 2, cells := 0, slots := 0, locals := 42 } : Room) s m ([.ref q0, .int x1] : List Value).toArray below meth c H locs 0 0 QQ (F0 m 7 ls []) := by
    intro x2 x3 x4 H locs ls hP hD hS hl hf
    unfold f_X8_count_7 at hf
    obtain ⟨ex7, h1, hX7⟩ := obx_some hf
    have LP : ∀ (n : Nat) (x2 : Int32) (x3 : Int32) (x4 : Int32)  {H : Heap} {locs : List Loc} {ls : Array Slot}, va_P Γ.1 vwCl (wd_X8_count Γ q0 q1 d0 d1 d2 d3 d4 d5 d6 d7 d8 d9 d10 d11 d12 d13 length undoMany zeroKept oneKept seen spot kind begin letters figures value plated driven rows periods leastPeriod sv) H → va_D A (wd_X8_count Γ q0 q1 d0 d1 d2 d3 d4 d5 d6 d7 d8 d9 d10 d11 d12 d13 length undoMany zeroKept oneKept seen spot kind begin letters figures value plated driven rows periods leastPeriod sv) → va_S A s.heap H locs → lv_has ls 5 [(0, .ref q0), (1, .int x1), (2, .int x2), (3, .int x3), (4, .int x4)] → vm_it (f_X8_count_7s length undoMany seen sv x1) n (x2, x3, x4) = some ex7 → W p l e ({ frames := 2, cells := 0, slots := 0, locals := 42 } : Room) s m ([.ref q0, .int x1] : List Value).toArray below meth c H locs 0 0 QQ (F0 m 7 ls []) := by
      clear hP hD hS hl hf h1
      intro n
      induction n with
      | zero => intro x2 x3 x4 H locs ls hP hD hS hl hf; exact (vm_it_0 hf).elim
      | succ n ih =>
        intro x2 x3 x4 H locs ls hP hD hS hl hf
        have hf : f_X8_count_7b length undoMany seen sv x1 x2 x3 x4 (vm_it (f_X8_count_7s length undoMany seen sv x1) n) = some ex7 := hf
        have K_64 : ∀ (x2 : Int32) (x4 : Int32) (s0 : Int32) (s1 : Int32) {H : Heap} {locs : List Loc} {ls : Array Slot}, va_P Γ.1 vwCl (wd_X8_count Γ q0 q1 d0 d1 d2 d3 d4 d5 d6 d7 d8 d9 d10 d11 d12 d13 length undoMany zeroKept oneKept seen spot kind begin letters figures value plated driven rows periods leastPeriod sv) H → va_D A (wd_X8_count Γ q0 q1 d0 d1 d2 d3 d4 d5 d6 d7 d8 d9 d10 d11 d12 d13 length undoMany zeroKept oneKept seen spot kind begin letters figures value plated driven rows periods leastPeriod sv) → va_S A s.heap H locs → lv_has ls 5 [(0, .ref q0), (1, .int x1), (2, .int x2), (4, .int x4)] → f_X8_count_64 length undoMany seen sv x1 x2 x4 s0 s1 (vm_it (f_X8_count_7s length undoMany seen sv x1) n) = some ex7 → W p l e ({ frames := 2, cells := 0, slots := 0, locals := 42 } : Room) s m ([.ref q0, .int x1] : List Value).toArray below meth c H locs 0 0 QQ (F0 m 64 ls [.int s1, .int s0]) := by
          intro x2 x4 s0 s1 H locs ls hP hD hS hl hf
          unfold f_X8_count_64 at hf
          refine lv_iadd hx hb dX8_count_64 ?_
          refine lv_istore_n (lv' := [(3, .int (s0 + s1)), (0, .ref q0), (1, .int x1), (2, .int x2), (4, .int x4)]) hx hb dX8_count_65 rfl hl (by decide) rfl (fun ls hl => ?_)
          refine lv_iinc (v := (x4 + 1)) (lv' := [(4, .int (x4 + 1)), (3, .int (s0 + s1)), (0, .ref q0), (1, .int x1), (2, .int x2)]) hx hb dX8_count_66 hl (k := 4) rfl rfl (by decide) rfl (fun ls hl => ?_)
          refine lv_goto (tgt := 7) hx hb dX8_count_69 (by decide) ?_
          exact ih x2 (s0 + s1) (x4 + 1) hP hD hS (lv_sub hl [2, 3, 4, 1, 0] rfl) hf
        have K_44 : ∀ (x3 : Int32) (x4 : Int32) (s0 : Int32) {H : Heap} {locs : List Loc} {ls : Array Slot}, va_P Γ.1 vwCl (wd_X8_count Γ q0 q1 d0 d1 d2 d3 d4 d5 d6 d7 d8 d9 d10 d11 d12 d13 length undoMany zeroKept oneKept seen spot kind begin letters figures value plated driven rows periods leastPeriod sv) H → va_D A (wd_X8_count Γ q0 q1 d0 d1 d2 d3 d4 d5 d6 d7 d8 d9 d10 d11 d12 d13 length undoMany zeroKept oneKept seen spot kind begin letters figures value plated driven rows periods leastPeriod sv) → va_S A s.heap H locs → lv_has ls 5 [(0, .ref q0), (1, .int x1), (3, .int x3), (4, .int x4)] → f_X8_count_44 length undoMany seen sv x1 x3 x4 s0 (vm_it (f_X8_count_7s length undoMany seen sv x1) n) = some ex7 → W p l e ({ frames := 2, cells := 0, slots := 0, locals := 42 } : Room) s m ([.ref q0, .int x1] : List Value).toArray below meth c H locs 0 0 QQ (F0 m 44 ls [.int s0]) := by
          intro x3 x4 s0 H locs ls hP hD hS hl hf
          unfold f_X8_count_44 at hf
          refine lv_istore_n (lv' := [(2, .int s0), (0, .ref q0), (1, .int x1), (3, .int x3), (4, .int x4)]) hx hb dX8_count_44 rfl hl (by decide) rfl (fun ls hl => ?_)
          refine lv_iload_n hx hb dX8_count_45 rfl (lv_at hl 3 rfl) ?_
          refine lv_aload_n hx hb dX8_count_46 rfl (lv_at hl 1 rfl) ?_
          refine va_get (D := Γ.1) (ci := 8) (v := .ref q1) (C := RX8) (T := TX8) (N := 31) hx hb hts hi8 hown hK hP 0 rfl rfl 2 (by decide) (hts (.fieldLink RX8 13 "SandPlatesModel" "s" "[I") (List.mem_of_getElem? (i := 1) rfl)) (fun _ h9 => h9) rfl dX8_count_47 ?_
          refine lv_bipush (v := 45) hx hb dX8_count_50 (by decide) ?_
          refine lv_iload hx hb dX8_count_52 (lv_at hl 4 rfl) ?_
          refine lv_iadd hx hb dX8_count_54 ?_
          obtain ⟨hc_12, hf⟩ := vm_ck hf
          refine vm_iald hx hb hK hP 1 0 rfl rfl hc_12 (j := (45 + x4).toNatClampNeg) rfl dX8_count_55 ?_
          refine lv_if_ne (tgt := 63) hx hb dX8_count_56 (by decide) (fun hc_13 => ?_) (fun hc_13 => ?_)
          · have hf := vm_neg hc_13 hf
            refine lv_iconst (v := 0) hx hb dX8_count_63 (by decide) ?_
            exact K_64 s0 x4 x3 0 hP hD hS (lv_sub hl [1, 2, 0, 4] rfl) hf
          · have hf := vm_pos hc_13 hf
            refine lv_iconst (v := 1) hx hb dX8_count_59 (by decide) ?_
            refine lv_goto (tgt := 64) hx hb dX8_count_60 (by decide) ?_
            exact K_64 s0 x4 x3 1 hP hD hS (lv_sub hl [1, 2, 0, 4] rfl) hf
        unfold f_X8_count_7b at hf
        refine lv_iload hx hb dX8_count_7 (lv_at hl 4 rfl) ?_
        refine lv_aload_n hx hb dX8_count_9 rfl (lv_at hl 0 rfl) ?_
        obtain ⟨r_14, hq_15, hf⟩ := ob1_some hf
        refine vm_cVi (isC := [0, 1]) (wc := (wd_X8_cells Γ q0 q1 d0 d1 d2 d3 d4 d5 d6 d7 d8 d9 d10 d11 d12 d13 length undoMany zeroKept oneKept seen spot kind begin letters figures value plated driven rows periods leastPeriod sv)) (w1 := (wd_X8_cells Γ q0 q1 d0 d1 d2 d3 d4 d5 d6 d7 d8 d9 d10 d11 d12 d13 length undoMany zeroKept oneKept seen spot kind begin letters figures value plated driven rows periods leastPeriod sv)) (As := []) (rest := [.int x4]) ⟨hx, hb, hml, hown, hts⟩ hE hP hD hS hA rfl rfl rfl (c_X8_cells l Γ _ q0 q1 d0 d1 d2 d3 d4 d5 d6 d7 d8 d9 d10 d11 d12 d13 length undoMany zeroKept oneKept seen spot kind begin letters figures value plated driven rows periods leastPeriod sv r_14 hq_15) (cwV 0 hts gX8_count_X8_cells rfl rfl rfl (by decide +kernel) ⟨Nat.le_of_ble_eq_true rfl, Nat.le_of_ble_eq_true rfl⟩) (va_recv (ci := 8) (q0 := 0) hK hP rfl rfl) rfl hl.1 rfl (Nat.le_of_ble_eq_true rfl) dX8_count_10 ⟨Nat.zero_le _, Nat.zero_le _⟩ (fun H locs hP hD hS => ?_)
        have hP : va_P Γ.1 vwCl (wd_X8_count Γ q0 q1 d0 d1 d2 d3 d4 d5 d6 d7 d8 d9 d10 d11 d12 d13 length undoMany zeroKept oneKept seen spot kind begin letters figures value plated driven rows periods leastPeriod sv) H := hP
        have hD : va_D A (wd_X8_count Γ q0 q1 d0 d1 d2 d3 d4 d5 d6 d7 d8 d9 d10 d11 d12 d13 length undoMany zeroKept oneKept seen spot kind begin letters figures value plated driven rows periods leastPeriod sv) := hD
        refine lv_icmp_ge (tgt := 72) hx hb dX8_count_13 (by decide) (fun hc_16 => ?_) (fun hc_16 => ?_)
        · have hf := vm_pos hc_16 hf
          have hX := hX7
          rw [← Option.some.inj hf] at hX
          exact K_72 x2 x3 hP hD hS (lv_sub hl [0, 1, 2, 3] rfl) hX
        · have hf := vm_neg hc_16 hf
          refine lv_aload_n hx hb dX8_count_16 rfl (lv_at hl 0 rfl) ?_
          refine va_get (D := Γ.1) (ci := 8) (v := .ref q1) (C := RX8) (T := TX8) (N := 31) hx hb hts hi8 hown hK hP 0 rfl rfl 2 (by decide) (hts (.fieldLink RX8 13 "SandPlatesModel" "s" "[I") (List.mem_of_getElem? (i := 1) rfl)) (fun _ h9 => h9) rfl dX8_count_17 ?_
          refine lv_bipush (v := 45) hx hb dX8_count_20 (by decide) ?_
          refine lv_iload hx hb dX8_count_22 (lv_at hl 4 rfl) ?_
          refine lv_iadd hx hb dX8_count_24 ?_
          obtain ⟨hc_17, hf⟩ := vm_ck hf
          refine vm_iald hx hb hK hP 1 0 rfl rfl hc_17 (j := (45 + x4).toNatClampNeg) rfl dX8_count_25 ?_
          refine lv_iload_n hx hb dX8_count_26 rfl (lv_at hl 2 rfl) ?_
          refine lv_icmp_le (tgt := 43) hx hb dX8_count_27 (by decide) (fun hc_18 => ?_) (fun hc_18 => ?_)
          · have hf := vm_pos hc_18 hf
            refine lv_iload_n hx hb dX8_count_43 rfl (lv_at hl 2 rfl) ?_
            exact K_44 x3 x4 x2 hP hD hS (lv_sub hl [0, 1, 3, 4] rfl) hf
          · have hf := vm_neg hc_18 hf
            refine lv_aload_n hx hb dX8_count_30 rfl (lv_at hl 0 rfl) ?_
            refine va_get (D := Γ.1) (ci := 8) (v := .ref q1) (C := RX8) (T := TX8) (N := 31) hx hb hts hi8 hown hK hP 0 rfl rfl 2 (by decide) (hts (.fieldLink RX8 13 "SandPlatesModel" "s" "[I") (List.mem_of_getElem? (i := 1) rfl)) (fun _ h9 => h9) rfl dX8_count_31 ?_
            refine lv_bipush (v := 45) hx hb dX8_count_34 (by decide) ?_
            refine lv_iload hx hb dX8_count_36 (lv_at hl 4 rfl) ?_
            refine lv_iadd hx hb dX8_count_38 ?_
            obtain ⟨hc_19, hf⟩ := vm_ck hf
            refine vm_iald hx hb hK hP 1 0 rfl rfl hc_19 (j := (45 + x4).toNatClampNeg) rfl dX8_count_39 ?_
            refine lv_goto (tgt := 44) hx hb dX8_count_40 (by decide) ?_
            exact K_44 x3 x4 (sv ((45 + x4).toNatClampNeg)) hP hD hS (lv_sub hl [0, 1, 3, 4] rfl) hf
    exact LP FU x2 x3 x4 hP hD hS hl h1
  unfold f_X8_count at hf
  refine lv_iconst (v := 0) hx hb dX8_count_0 (by decide) ?_
  refine lv_istore_n (lv' := [(2, .int 0), (0, .ref q0), (1, .int x1)]) hx hb dX8_count_1 rfl hl (by decide) rfl (fun ls hl => ?_)
  refine lv_iconst (v := 0) hx hb dX8_count_2 (by decide) ?_
  refine lv_istore_n (lv' := [(3, .int 0), (2, .int 0), (0, .ref q0), (1, .int x1)]) hx hb dX8_count_3 rfl hl (by decide) rfl (fun ls hl => ?_)
  refine lv_iconst (v := 0) hx hb dX8_count_4 (by decide) ?_
  refine lv_istore (lv' := [(4, .int 0), (3, .int 0), (2, .int 0), (0, .ref q0), (1, .int x1)]) hx hb dX8_count_5 hl (by decide) rfl (fun ls hl => ?_)
  exact K_7 0 0 0 hP hD hS (lv_sub hl [3, 4, 2, 1, 0] rfl) hf
