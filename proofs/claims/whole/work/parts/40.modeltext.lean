def wd_X8_in (Γ : GE) : va_W := []
def f_X8_in_18 (s0 : Int32) : Option Int32 := if s0 = 0 ∨ s0 = 1 then some s0 else none
def f_X8_in_17  : Option Int32 := f_X8_in_18 0
def f_X8_in (x0 : Int64) (x2 : Int64) (x4 : Int64) : Option Int32 := if (lg_cmp x0 x2) < 0 then f_X8_in_17 else (if 0 < (lg_cmp x0 x4) then f_X8_in_17 else (f_X8_in_18 1))
set_option maxHeartbeats 4000000 in
set_option maxRecDepth 100000 in
theorem c_X8_in (l : Launch) (Γ : GE) (sz : Nat) (x0 : Int64) (x2 : Int64) (x4 : Int64) (ro : Int32) (hf : f_X8_in x0 x2 x4 = some ro) : MetI l yX8_in wsX8_in ({ frames := 0, cells := 0, slots := 0, locals := 0 } : Room) Γ [.long x0, .long x2, .long x4] (wd_X8_in Γ) (wd_X8_in Γ) sz ro := by
  refine Met.ofW (cc := cX8_in) (maxL := 6) (ret := (some .boolean)) (by decide) rfl ?_
  intro p e s m args below meth c s₁ B hml hv
  obtain ⟨rfl, hsz, hE, hP, hD⟩ := hv
  have hx := B.exec
  have hb := B.bytes
  have hr := B.returns
  have hts := atoms_spec (ws := wsX8_in) B.pre
  have hown : s.vm.findClass RX8 = some m.cls := findClass_of_methodNamed B.named
  have hlocks := B.notSynchronized
  subst hsz
  generalize hAe : va_A (wd_X8_in Γ) s.heap.size = A at hE hD ⊢
  have hA : ∀ q : Nat, s.heap.size ≤ q → A q := fun q h => by rw [← hAe]; exact Or.inr h
  clear hAe
  have hS : va_S A s.heap s.heap [] := va_S.rf
  have hK := hE.1
  have hl := lv_entry ([.long x0, .long x2, .long x4]) (n := 6) (Nat.le_of_ble_eq_true rfl)
  rw [lg_entry_eq]
  generalize (lg_sl ([.long x0, .long x2, .long x4]) ++ List.replicate (6 - (lg_sl ([.long x0, .long x2, .long x4])).length) Slot.unset).toArray = ls at hl ⊢
  have hl : lv_has ls 6 [(0, .long x0), (2, .long x2), (4, .long x4)] := hl
  obtain ⟨out, hout⟩ : ∃ o, o = ro := ⟨_, rfl⟩
  rw [← hout] at hf
  obtain ⟨QQ, hQQ⟩ : ∃ Q, Q = MQ below (va_Qi (fun (r' : Int32) (_ : Unit) => r' = ro) (CQ Γ (wd_X8_in Γ) A) A) (([.long x0, .long x2, .long x4] : List Value).toArray) s 0 0 A := ⟨_, rfl⟩
  show W p l e ({ frames := 0, cells := 0, slots := 0, locals := 0 } : Room) s m (([.long x0, .long x2, .long x4] : List Value).toArray) below meth c s.heap [] 0 0 (MQ below _ (([.long x0, .long x2, .long x4] : List Value).toArray) s 0 0 A) (F0 m 0 ls [])
  rw [← hQQ]
  have K_18 : ∀ (s0 : Int32) {H : Heap} {locs : List Loc} {ls : Array Slot}, va_P Γ.1 vwCl (wd_X8_in Γ) H → va_D A (wd_X8_in Γ) → va_S A s.heap H locs → lv_has ls 6 [] → f_X8_in_18 s0 = some out → W p l e ({ frames := 0, cells := 0, slots := 0, locals := 0 } : Room) s m ([.long x0, .long x2, .long x4] : List Value).toArray below meth c H locs 0 0 QQ (F0 m 18 ls [.int s0]) := by
    intro s0 H locs ls hP hD hS hl hf
    unfold f_X8_in_18 at hf
    obtain ⟨hc_1, hf⟩ := vm_ck hf
    subst hout; obtain rfl := Option.some.inj hf
    subst hQQ
    exact W.zret hx hb hr (vm_nz hc_1) (fun t ht hW => ⟨⟨_, (), rfl, rfl, by rw [ht]; exact hP, hD⟩, hS.F ht⟩) hS.2.2 dX8_in_18
  have K_17 : ∀ {H : Heap} {locs : List Loc} {ls : Array Slot}, va_P Γ.1 vwCl (wd_X8_in Γ) H → va_D A (wd_X8_in Γ) → va_S A s.heap H locs → lv_has ls 6 [] → f_X8_in_17 = some out → W p l e ({ frames := 0, cells := 0, slots := 0, locals := 0 } : Room) s m ([.long x0, .long x2, .long x4] : List Value).toArray below meth c H locs 0 0 QQ (F0 m 17 ls []) := by
    intro H locs ls hP hD hS hl hf
    unfold f_X8_in_17 at hf
    refine lv_iconst (v := 0) hx hb dX8_in_17 (by decide) ?_
    exact K_18 0 hP hD hS (lv_sub hl [] rfl) hf
  unfold f_X8_in at hf
  refine lv_lload_n hx hb dX8_in_0 rfl (lv_at hl 0 rfl) ?_
  refine lv_lload_n hx hb dX8_in_1 rfl (lv_at hl 1 rfl) ?_
  refine W.lcmp hx hb dX8_in_2 ?_
  refine lv_if_lt (tgt := 17) hx hb dX8_in_3 (by decide) (fun hc_2 => ?_) (fun hc_2 => ?_)
  · have hf := vm_pos hc_2 hf
    exact K_17  hP hD hS (lv_sub hl [] rfl) hf
  · have hf := vm_neg hc_2 hf
    refine lv_lload_n hx hb dX8_in_6 rfl (lv_at hl 0 rfl) ?_
    refine lv_lload hx hb dX8_in_7 (lv_at hl 2 rfl) ?_
    refine W.lcmp hx hb dX8_in_9 ?_
    refine lv_if_gt (tgt := 17) hx hb dX8_in_10 (by decide) (fun hc_3 => ?_) (fun hc_3 => ?_)
    · have hf := vm_pos hc_3 hf
      exact K_17  hP hD hS (lv_sub hl [] rfl) hf
    · have hf := vm_neg hc_3 hf
      refine lv_iconst (v := 1) hx hb dX8_in_13 (by decide) ?_
      refine lv_goto (tgt := 18) hx hb dX8_in_14 (by decide) ?_
      exact K_18 1 hP hD hS (lv_sub hl [] rfl) hf
def wd_X8_plain (Γ : GE) (q0 : Nat) (p0_a : Nat → Int32) : va_W := [(q0, .inl (Γ.2.1 0, 81, .inl p0_a))]
def f_X8_plain_71 (p0_a : Nat → Int32) : Option (Nat → Int32) := some p0_a
def f_X8_plain_45b  (p0_a : Nat → Int32) (x1 : Int32) (k : (((Nat → Int32) × Int32) → Option (Nat → Int32))) : Option (Nat → Int32) := if 36 ≤ x1 then (some p0_a) else (if inb (9 + x1) 81 = true then if inb (45 + x1) 81 = true then k ((upd (upd p0_a ((9 + x1).toNatClampNeg) 0) ((45 + x1).toNatClampNeg) 1), (x1 + 1)) else none else none)
def f_X8_plain_45s  : ((Nat → Int32) × Int32) → (((Nat → Int32) × Int32) → Option (Nat → Int32)) → Option (Nat → Int32) := fun t k => f_X8_plain_45b t.1 t.2 k
def f_X8_plain_45 (p0_a : Nat → Int32) (x1 : Int32) : Option (Nat → Int32) := obx (vm_it (f_X8_plain_45s) FU (p0_a, x1)) (fun p0_a => f_X8_plain_71 p0_a)
def f_X8_plain (p0_a : Nat → Int32) : Option (Nat → Int32) := f_X8_plain_45 (upd (upd (upd (upd (upd (upd (upd (upd (upd p0_a 0 3) 1 3) 2 1) 3 4) 4 8) 5 40) 6 8) 7 10) 8 0) 0
set_option maxHeartbeats 4000000 in
set_option maxRecDepth 100000 in
theorem c_X8_plain (l : Launch) (Γ : GE) (sz : Nat) (q0 : Nat) (p0_a : Nat → Int32) (o_p0_a : Nat → Int32) (hf : f_X8_plain p0_a = some o_p0_a) : MetV l yX8_plain wsX8_plain ({ frames := 0, cells := 0, slots := 0, locals := 0 } : Room) Γ [.ref q0] (wd_X8_plain Γ q0 p0_a) (wd_X8_plain Γ q0 o_p0_a) sz := by
  refine Met.ofW (cc := cX8_plain) (maxL := 2) (ret := none) (by decide) rfl ?_
  intro p e s m args below meth c s₁ B hml hv
  obtain ⟨rfl, hsz, hE, hP, hD⟩ := hv
  have hx := B.exec
  have hb := B.bytes
  have hr := B.returns
  have hts := atoms_spec (ws := wsX8_plain) B.pre
  have hown : s.vm.findClass RX8 = some m.cls := findClass_of_methodNamed B.named
  have hlocks := B.notSynchronized
  subst hsz
  generalize hAe : va_A (wd_X8_plain Γ q0 p0_a) s.heap.size = A at hE hD ⊢
  have hA : ∀ q : Nat, s.heap.size ≤ q → A q := fun q h => by rw [← hAe]; exact Or.inr h
  clear hAe
  have hS : va_S A s.heap s.heap [] := va_S.rf
  have hK := hE.1
  have hl := lv_entry ([.ref q0]) (n := 2) (Nat.le_of_ble_eq_true rfl)
  rw [lg_entry_eq]
  generalize (lg_sl ([.ref q0]) ++ List.replicate (2 - (lg_sl ([.ref q0])).length) Slot.unset).toArray = ls at hl ⊢
  have hl : lv_has ls 2 [(0, .ref q0)] := hl
  obtain ⟨out, hout⟩ : ∃ o, o = o_p0_a := ⟨_, rfl⟩
  rw [← hout] at hf
  obtain ⟨QQ, hQQ⟩ : ∃ Q, Q = MQ below (va_Qv (fun _ : Unit => True) (CQ Γ (wd_X8_plain Γ q0 o_p0_a) A) A) (([.ref q0] : List Value).toArray) s 0 0 A := ⟨_, rfl⟩
  show W p l e ({ frames := 0, cells := 0, slots := 0, locals := 0 } : Room) s m (([.ref q0] : List Value).toArray) below meth c s.heap [] 0 0 (MQ below _ (([.ref q0] : List Value).toArray) s 0 0 A) (F0 m 0 ls [])
  rw [← hQQ]
  have K_71 : ∀ (p0_a : Nat → Int32) {H : Heap} {locs : List Loc} {ls : Array Slot}, va_P Γ.1 vwCl (wd_X8_plain Γ q0 p0_a) H → va_D A (wd_X8_plain Γ q0 p0_a) → va_S A s.heap H locs → lv_has ls 2 [] → f_X8_plain_71 p0_a = some out → W p l e ({ frames := 0, cells := 0, slots := 0, locals := 0 } : Room) s m ([.ref q0] : List Value).toArray below meth c H locs 0 0 QQ (F0 m 71 ls []) := by
    intro p0_a H locs ls hP hD hS hl hf
    unfold f_X8_plain_71 at hf
    subst hout; obtain rfl := Option.some.inj hf
    subst hQQ
    exact W.vret hx hb hr (fun t ht hW => ⟨⟨(), rfl, trivial, by rw [ht]; exact hP, hD⟩, hS.F ht⟩) hS.2.2 dX8_plain_71
  have K_45 : ∀ (p0_a : Nat → Int32) (x1 : Int32) {H : Heap} {locs : List Loc} {ls : Array Slot}, va_P Γ.1 vwCl (wd_X8_plain Γ q0 p0_a) H → va_D A (wd_X8_plain Γ q0 p0_a) → va_S A s.heap H locs → lv_has ls 2 [(0, .ref q0), (1, .int x1)] → f_X8_plain_45 p0_a x1 = some out → W p l e ({ frames := 0, cells := 0, slots := 0, locals := 0 } : Room) s m ([.ref q0] : List Value).toArray below meth c H locs 0 0 QQ (F0 m 45 ls []) := by
    intro p0_a x1 H locs ls hP hD hS hl hf
    unfold f_X8_plain_45 at hf
    obtain ⟨ex45, h1, hX45⟩ := obx_some hf
    have LP : ∀ (n : Nat) (p0_a : Nat → Int32) (x1 : Int32)  {H : Heap} {locs : List Loc} {ls : Array Slot}, va_P Γ.1 vwCl (wd_X8_plain Γ q0 p0_a) H → va_D A (wd_X8_plain Γ q0 p0_a) → va_S A s.heap H locs → lv_has ls 2 [(0, .ref q0), (1, .int x1)] → vm_it (f_X8_plain_45s) n (p0_a, x1) = some ex45 → W p l e ({ frames := 0, cells := 0, slots := 0, locals := 0 } : Room) s m ([.ref q0] : List Value).toArray below meth c H locs 0 0 QQ (F0 m 45 ls []) := by
      clear hP hD hS hl hf h1
      intro n
      induction n with
      | zero => intro p0_a x1 H locs ls hP hD hS hl hf; exact (vm_it_0 hf).elim
      | succ n ih =>
        intro p0_a x1 H locs ls hP hD hS hl hf
        have hf : f_X8_plain_45b p0_a x1 (vm_it (f_X8_plain_45s) n) = some ex45 := hf
        unfold f_X8_plain_45b at hf
        refine lv_iload_n hx hb dX8_plain_45 rfl (lv_at hl 1 rfl) ?_
        refine lv_bipush (v := 36) hx hb dX8_plain_46 (by decide) ?_
        refine lv_icmp_ge (tgt := 71) hx hb dX8_plain_48 (by decide) (fun hc_1 => ?_) (fun hc_1 => ?_)
        · have hf := vm_pos hc_1 hf
          have hX := hX45
          rw [← Option.some.inj hf] at hX
          exact K_71 p0_a hP hD hS (lv_sub hl [] rfl) hX
        · have hf := vm_neg hc_1 hf
          refine lv_aload_n hx hb dX8_plain_51 rfl (lv_at hl 0 rfl) ?_
          refine lv_bipush (v := 9) hx hb dX8_plain_52 (by decide) ?_
          refine lv_iload_n hx hb dX8_plain_54 rfl (lv_at hl 1 rfl) ?_
          refine lv_iadd hx hb dX8_plain_55 ?_
          refine lv_iconst (v := 0) hx hb dX8_plain_56 (by decide) ?_
          obtain ⟨hc_2, hf⟩ := vm_ck hf
          refine vm_iast hx hb hK hP hD hS 0 0 rfl rfl hc_2 (j := ((9 + x1).toNatClampNeg)) rfl dX8_plain_57 (fun H locs hP hD hS => ?_)
          have hP : va_P Γ.1 vwCl (wd_X8_plain Γ q0 (upd p0_a ((9 + x1).toNatClampNeg) 0)) H := hP
          have hD : va_D A (wd_X8_plain Γ q0 (upd p0_a ((9 + x1).toNatClampNeg) 0)) := hD
          refine lv_aload_n hx hb dX8_plain_58 rfl (lv_at hl 0 rfl) ?_
          refine lv_bipush (v := 45) hx hb dX8_plain_59 (by decide) ?_
          refine lv_iload_n hx hb dX8_plain_61 rfl (lv_at hl 1 rfl) ?_
          refine lv_iadd hx hb dX8_plain_62 ?_
          refine lv_iconst (v := 1) hx hb dX8_plain_63 (by decide) ?_
          obtain ⟨hc_3, hf⟩ := vm_ck hf
          refine vm_iast hx hb hK hP hD hS 0 0 rfl rfl hc_3 (j := ((45 + x1).toNatClampNeg)) rfl dX8_plain_64 (fun H locs hP hD hS => ?_)
          have hP : va_P Γ.1 vwCl (wd_X8_plain Γ q0 (upd (upd p0_a ((9 + x1).toNatClampNeg) 0) ((45 + x1).toNatClampNeg) 1)) H := hP
          have hD : va_D A (wd_X8_plain Γ q0 (upd (upd p0_a ((9 + x1).toNatClampNeg) 0) ((45 + x1).toNatClampNeg) 1)) := hD
          refine lv_iinc (v := (x1 + 1)) (lv' := [(1, .int (x1 + 1)), (0, .ref q0)]) hx hb dX8_plain_65 hl (k := 1) rfl rfl (by decide) rfl (fun ls hl => ?_)
          refine lv_goto (tgt := 45) hx hb dX8_plain_68 (by decide) ?_
          exact ih (upd (upd p0_a ((9 + x1).toNatClampNeg) 0) ((45 + x1).toNatClampNeg) 1) (x1 + 1) hP hD hS (lv_sub hl [1, 0] rfl) hf
    exact LP FU p0_a x1 hP hD hS hl h1
  unfold f_X8_plain at hf
  refine lv_aload_n hx hb dX8_plain_0 rfl (lv_at hl 0 rfl) ?_
  refine lv_iconst (v := 0) hx hb dX8_plain_1 (by decide) ?_
  refine lv_iconst (v := 3) hx hb dX8_plain_2 (by decide) ?_
  refine vm_iast hx hb hK hP hD hS 0 0 rfl rfl (by decide +kernel) (j := 0) rfl dX8_plain_3 (fun H locs hP hD hS => ?_)
  have hP : va_P Γ.1 vwCl (wd_X8_plain Γ q0 (upd p0_a 0 3)) H := hP
  have hD : va_D A (wd_X8_plain Γ q0 (upd p0_a 0 3)) := hD
  refine lv_aload_n hx hb dX8_plain_4 rfl (lv_at hl 0 rfl) ?_
  refine lv_iconst (v := 1) hx hb dX8_plain_5 (by decide) ?_
  refine lv_iconst (v := 3) hx hb dX8_plain_6 (by decide) ?_
  refine vm_iast hx hb hK hP hD hS 0 0 rfl rfl (by decide +kernel) (j := 1) rfl dX8_plain_7 (fun H locs hP hD hS => ?_)
  have hP : va_P Γ.1 vwCl (wd_X8_plain Γ q0 (upd (upd p0_a 0 3) 1 3)) H := hP
  have hD : va_D A (wd_X8_plain Γ q0 (upd (upd p0_a 0 3) 1 3)) := hD
  refine lv_aload_n hx hb dX8_plain_8 rfl (lv_at hl 0 rfl) ?_
  refine lv_iconst (v := 2) hx hb dX8_plain_9 (by decide) ?_
  refine lv_iconst (v := 1) hx hb dX8_plain_10 (by decide) ?_
  refine vm_iast hx hb hK hP hD hS 0 0 rfl rfl (by decide +kernel) (j := 2) rfl dX8_plain_11 (fun H locs hP hD hS => ?_)
  have hP : va_P Γ.1 vwCl (wd_X8_plain Γ q0 (upd (upd (upd p0_a 0 3) 1 3) 2 1)) H := hP
  have hD : va_D A (wd_X8_plain Γ q0 (upd (upd (upd p0_a 0 3) 1 3) 2 1)) := hD
  refine lv_aload_n hx hb dX8_plain_12 rfl (lv_at hl 0 rfl) ?_
  refine lv_iconst (v := 3) hx hb dX8_plain_13 (by decide) ?_
  refine lv_iconst (v := 4) hx hb dX8_plain_14 (by decide) ?_
  refine vm_iast hx hb hK hP hD hS 0 0 rfl rfl (by decide +kernel) (j := 3) rfl dX8_plain_15 (fun H locs hP hD hS => ?_)
  have hP : va_P Γ.1 vwCl (wd_X8_plain Γ q0 (upd (upd (upd (upd p0_a 0 3) 1 3) 2 1) 3 4)) H := hP
  have hD : va_D A (wd_X8_plain Γ q0 (upd (upd (upd (upd p0_a 0 3) 1 3) 2 1) 3 4)) := hD
  refine lv_aload_n hx hb dX8_plain_16 rfl (lv_at hl 0 rfl) ?_
  refine lv_iconst (v := 4) hx hb dX8_plain_17 (by decide) ?_
  refine lv_bipush (v := 8) hx hb dX8_plain_18 (by decide) ?_
  refine vm_iast hx hb hK hP hD hS 0 0 rfl rfl (by decide +kernel) (j := 4) rfl dX8_plain_20 (fun H locs hP hD hS => ?_)
  have hP : va_P Γ.1 vwCl (wd_X8_plain Γ q0 (upd (upd (upd (upd (upd p0_a 0 3) 1 3) 2 1) 3 4) 4 8)) H := hP
  have hD : va_D A (wd_X8_plain Γ q0 (upd (upd (upd (upd (upd p0_a 0 3) 1 3) 2 1) 3 4) 4 8)) := hD
  refine lv_aload_n hx hb dX8_plain_21 rfl (lv_at hl 0 rfl) ?_
  refine lv_iconst (v := 5) hx hb dX8_plain_22 (by decide) ?_
  refine lv_bipush (v := 40) hx hb dX8_plain_23 (by decide) ?_
  refine vm_iast hx hb hK hP hD hS 0 0 rfl rfl (by decide +kernel) (j := 5) rfl dX8_plain_25 (fun H locs hP hD hS => ?_)
  have hP : va_P Γ.1 vwCl (wd_X8_plain Γ q0 (upd (upd (upd (upd (upd (upd p0_a 0 3) 1 3) 2 1) 3 4) 4 8) 5 40)) H := hP
  have hD : va_D A (wd_X8_plain Γ q0 (upd (upd (upd (upd (upd (upd p0_a 0 3) 1 3) 2 1) 3 4) 4 8) 5 40)) := hD
  refine lv_aload_n hx hb dX8_plain_26 rfl (lv_at hl 0 rfl) ?_
  refine lv_bipush (v := 6) hx hb dX8_plain_27 (by decide) ?_
  refine lv_bipush (v := 8) hx hb dX8_plain_29 (by decide) ?_
  refine vm_iast hx hb hK hP hD hS 0 0 rfl rfl (by decide +kernel) (j := 6) rfl dX8_plain_31 (fun H locs hP hD hS => ?_)
  have hP : va_P Γ.1 vwCl (wd_X8_plain Γ q0 (upd (upd (upd (upd (upd (upd (upd p0_a 0 3) 1 3) 2 1) 3 4) 4 8) 5 40) 6 8)) H := hP
  have hD : va_D A (wd_X8_plain Γ q0 (upd (upd (upd (upd (upd (upd (upd p0_a 0 3) 1 3) 2 1) 3 4) 4 8) 5 40) 6 8)) := hD
  refine lv_aload_n hx hb dX8_plain_32 rfl (lv_at hl 0 rfl) ?_
  refine lv_bipush (v := 7) hx hb dX8_plain_33 (by decide) ?_
  refine lv_bipush (v := 10) hx hb dX8_plain_35 (by decide) ?_
  refine vm_iast hx hb hK hP hD hS 0 0 rfl rfl (by decide +kernel) (j := 7) rfl dX8_plain_37 (fun H locs hP hD hS => ?_)
  have hP : va_P Γ.1 vwCl (wd_X8_plain Γ q0 (upd (upd (upd (upd (upd (upd (upd (upd p0_a 0 3) 1 3) 2 1) 3 4) 4 8) 5 40) 6 8) 7 10)) H := hP
  have hD : va_D A (wd_X8_plain Γ q0 (upd (upd (upd (upd (upd (upd (upd (upd p0_a 0 3) 1 3) 2 1) 3 4) 4 8) 5 40) 6 8) 7 10)) := hD
  refine lv_aload_n hx hb dX8_plain_38 rfl (lv_at hl 0 rfl) ?_
  refine lv_bipush (v := 8) hx hb dX8_plain_39 (by decide) ?_
  refine lv_iconst (v := 0) hx hb dX8_plain_41 (by decide) ?_
  refine vm_iast hx hb hK hP hD hS 0 0 rfl rfl (by decide +kernel) (j := 8) rfl dX8_plain_42 (fun H locs hP hD hS => ?_)
  have hP : va_P Γ.1 vwCl (wd_X8_plain Γ q0 (upd (upd (upd (upd (upd (upd (upd (upd (upd p0_a 0 3) 1 3) 2 1) 3 4) 4 8) 5 40) 6 8) 7 10) 8 0)) H := hP
  have hD : va_D A (wd_X8_plain Γ q0 (upd (upd (upd (upd (upd (upd (upd (upd (upd p0_a 0 3) 1 3) 2 1) 3 4) 4 8) 5 40) 6 8) 7 10) 8 0)) := hD
  refine lv_iconst (v := 0) hx hb dX8_plain_43 (by decide) ?_
  refine lv_istore_n (lv' := [(1, .int 0), (0, .ref q0)]) hx hb dX8_plain_44 rfl hl (by decide) rfl (fun ls hl => ?_)
  exact K_45 (upd (upd (upd (upd (upd (upd (upd (upd (upd p0_a 0 3) 1 3) 2 1) 3 4) 4 8) 5 40) 6 8) 7 10) 8 0) 0 hP hD hS (lv_sub hl [1, 0] rfl) hf
def wd_X8_type (Γ : GE) (q0 q1 d0 d1 d2 d3 d4 d5 d6 d7 d8 d9 d10 d11 d12 d13 : Nat) (length : Int32) (undoMany : Int32) (zeroKept : Int32) (oneKept : Int32) (seen : Int32) (spot : Int32) (kind : Int32) (begin : Int32) (letters : Int64) (figures : Int32) (value : Int32) (plated : Int32) (driven : Int32) (rows : Int32) (periods : Int32) (leastPeriod : Int32) (text : Nat → Int32) : va_W := [(q0, .inr (8, [.int length, .ref q1, .ref d0, .ref d1, .ref d2, .int undoMany, .ref d3, .int zeroKept, .int oneKept, .ref d4, .ref d5, .int seen, .int spot, .int kind, .int begin, .long letters, .int figures, .int value, .int plated, .int driven, .int rows, .ref d6, .ref d7, .ref d8, .ref d9, .ref d10, .ref d11, .ref d12, .ref d13, .int periods, .int leastPeriod])), (q1, .inl (Γ.2.1 0, 120, .inl text))]
def f_X8_type (length : Int32) (text : Nat → Int32) (x1 : Int32) : Option (Int32 × Int32 × (Nat → Int32)) := ob1 (f_X8_in ((x1).toInt64) 0 255) (fun r_1 => if r_1 = 0 then (some ((-1), length, text)) else (if length = 120 then (some ((-3), length, text)) else (if inb length 120 = true then some ((length + 1), (length + 1), (upd text (length.toNatClampNeg) x1)) else none)))
set_option maxHeartbeats 4000000 in
set_option maxRecDepth 100000 in
theorem c_X8_type (l : Launch) (Γ : GE) (sz : Nat) (q0 q1 d0 d1 d2 d3 d4 d5 d6 d7 d8 d9 d10 d11 d12 d13 : Nat) (length : Int32) (undoMany : Int32) (zeroKept : Int32) (oneKept : Int32) (seen : Int32) (spot : Int32) (kind : Int32) (begin : Int32) (letters : Int64) (figures : Int32) (value : Int32) (plated : Int32) (driven : Int32) (rows : Int32) (periods : Int32) (leastPeriod : Int32) (text : Nat → Int32) (x1 : Int32) (ro : Int32) (o_length : Int32) (o_text : Nat → Int32) (hf : f_X8_type length text x1 = some (ro, o_length, o_text)) : MetI l yX8_type wsX8_type ({ frames := 1, cells := 0, slots := 0, locals := 25 } : Room) Γ [.ref q0, .int x1] (wd_X8_type Γ q0 q1 d0 d1 d2 d3 d4 d5 d6 d7 d8 d9 d10 d11 d12 d13 length undoMany zeroKept oneKept seen spot kind begin letters figures value plated driven rows periods leastPeriod text) (wd_X8_type Γ q0 q1 d0 d1 d2 d3 d4 d5 d6 d7 d8 d9 d10 d11 d12 d13 o_length undoMany zeroKept oneKept seen spot kind begin letters figures value plated driven rows periods leastPeriod o_text) sz ro := by
  refine Met.ofW (cc := cX8_type) (maxL := 2) (ret := (some .int)) (by decide) rfl ?_
  intro p e s m args below meth c s₁ B hml hv
  obtain ⟨rfl, hsz, hE, hP, hD⟩ := hv
  have hx := B.exec
  have hb := B.bytes
  have hr := B.returns
  have hts := atoms_spec (ws := wsX8_type) B.pre
  have hown : s.vm.findClass RX8 = some m.cls := findClass_of_methodNamed B.named
  have hlocks := B.notSynchronized
  subst hsz
  generalize hAe : va_A (wd_X8_type Γ q0 q1 d0 d1 d2 d3 d4 d5 d6 d7 d8 d9 d10 d11 d12 d13 length undoMany zeroKept oneKept seen spot kind begin letters figures value plated driven rows periods leastPeriod text) s.heap.size = A at hE hD ⊢
  have hA : ∀ q : Nat, s.heap.size ≤ q → A q := fun q h => by rw [← hAe]; exact Or.inr h
  clear hAe
  have hS : va_S A s.heap s.heap [] := va_S.rf
  have hK := hE.1
  have hl := lv_entry ([.ref q0, .int x1]) (n := 2) (Nat.le_of_ble_eq_true rfl)
  rw [lg_entry_eq]
  generalize (lg_sl ([.ref q0, .int x1]) ++ List.replicate (2 - (lg_sl ([.ref q0, .int x1])).length) Slot.unset).toArray = ls at hl ⊢
  have hl : lv_has ls 2 [(0, .ref q0), (1, .int x1)] := hl
  have hi8 : ∀ w ∈ u_ws RX8 TX8 31, w ∈ wsX8_type := fun w h => (List.mem_cons_of_mem _ (List.mem_append_right _ h))
  obtain ⟨out, hout⟩ : ∃ o, o = (ro, o_length, o_text) := ⟨_, rfl⟩
  rw [← hout] at hf
  obtain ⟨QQ, hQQ⟩ : ∃ Q, Q = MQ below (va_Qi (fun (r' : Int32) (_ : Unit) => r' = ro) (CQ Γ (wd_X8_type Γ q0 q1 d0 d1 d2 d3 d4 d5 d6 d7 d8 d9 d10 d11 d12 d13 o_length undoMany zeroKept oneKept seen spot kind begin letters figures value plated driven rows periods leastPeriod o_text) A) A) (([.ref q0, .int x1] : List Value).toArray) s 0 0 A := ⟨_, rfl⟩
  show W p l e ({ frames := 1, cells := 0, slots := 0, locals := 25 } : Room) s m (([.ref q0, .int x1] : List Value).toArray) below meth c s.heap [] 0 0 (MQ below _ (([.ref q0, .int x1] : List Value).toArray) s 0 0 A) (F0 m 0 ls [])
  rw [← hQQ]
  unfold f_X8_type at hf
  refine lv_iload_n hx hb dX8_type_0 rfl (lv_at hl 1 rfl) ?_
  refine lv_i2l hx hb dX8_type_1 rfl ?_
  refine lv_lconst (v := 0) hx hb dX8_type_2 (by decide) ?_
  refine lv_ldc2 hx hb hown (hts (.constantLong RX8 59 (255)) (List.mem_of_getElem? (i := 1) rfl)) dX8_type_3 ?_
  obtain ⟨r_1, hq_2, hf⟩ := ob1_some hf
  refine vm_cSi (isC := []) (wc := (wd_X8_in Γ)) (w1 := (wd_X8_in Γ)) (As := [.long ((x1).toInt64), .long 0, .long 255]) (rest := []) ⟨hx, hb, hml, hown, hts⟩ hE hP hD hS hA rfl rfl rfl (c_X8_in l Γ _ ((x1).toInt64) 0 255 r_1 hq_2) (va_cwS 3 hts gX8_type_X8_in rfl rfl rfl (by decide +kernel) ⟨Nat.le_of_ble_eq_true rfl, Nat.le_of_ble_eq_true rfl⟩) rfl hl.1 rfl (Nat.le_of_ble_eq_true rfl) dX8_type_6 ⟨Nat.zero_le _, Nat.zero_le _⟩ (fun H locs hP hD hS => ?_)
  have hP : va_P Γ.1 vwCl (wd_X8_type Γ q0 q1 d0 d1 d2 d3 d4 d5 d6 d7 d8 d9 d10 d11 d12 d13 length undoMany zeroKept oneKept seen spot kind begin letters figures value plated driven rows periods leastPeriod text) H := hP
  have hD : va_D A (wd_X8_type Γ q0 q1 d0 d1 d2 d3 d4 d5 d6 d7 d8 d9 d10 d11 d12 d13 length undoMany zeroKept oneKept seen spot kind begin letters figures value plated driven rows periods leastPeriod text) := hD
  refine lv_if_ne (tgt := 14) hx hb dX8_type_9 (by decide) (fun hc_3 => ?_) (fun hc_3 => ?_)
  · have hf := vm_neg hc_3 hf
    refine lv_aload_n hx hb dX8_type_14 rfl (lv_at hl 0 rfl) ?_
    refine va_get (D := Γ.1) (ci := 8) (v := .int length) (C := RX8) (T := TX8) (N := 31) hx hb hts hi8 hown hK hP 0 rfl rfl 0 (by decide) (hts (.fieldLink RX8 65 "SandPlatesModel" "length" "I") (List.mem_of_getElem? (i := 2) rfl)) (fun _ h9 => h9) rfl dX8_type_15 ?_
    refine lv_bipush (v := 120) hx hb dX8_type_18 (by decide) ?_
    refine lv_icmp_ne (tgt := 26) hx hb dX8_type_20 (by decide) (fun hc_4 => ?_) (fun hc_4 => ?_)
    · have hf := vm_neg hc_4 hf
      refine lv_aload_n hx hb dX8_type_26 rfl (lv_at hl 0 rfl) ?_
      refine va_get (D := Γ.1) (ci := 8) (v := .ref q1) (C := RX8) (T := TX8) (N := 31) hx hb hts hi8 hown hK hP 0 rfl rfl 1 (by decide) (hts (.fieldLink RX8 7 "SandPlatesModel" "text" "[I") (List.mem_of_getElem? (i := 3) rfl)) (fun _ h9 => h9) rfl dX8_type_27 ?_
      refine lv_aload_n hx hb dX8_type_30 rfl (lv_at hl 0 rfl) ?_
      refine va_get (D := Γ.1) (ci := 8) (v := .int length) (C := RX8) (T := TX8) (N := 31) hx hb hts hi8 hown hK hP 0 rfl rfl 0 (by decide) (hts (.fieldLink RX8 65 "SandPlatesModel" "length" "I") (List.mem_of_getElem? (i := 2) rfl)) (fun _ h9 => h9) rfl dX8_type_31 ?_
      refine lv_iload_n hx hb dX8_type_34 rfl (lv_at hl 1 rfl) ?_
      obtain ⟨hc_5, hf⟩ := vm_ck hf
      refine vm_iast hx hb hK hP hD hS 1 0 rfl rfl hc_5 (j := (length.toNatClampNeg)) rfl dX8_type_35 (fun H locs hP hD hS => ?_)
      have hP : va_P Γ.1 vwCl (wd_X8_type Γ q0 q1 d0 d1 d2 d3 d4 d5 d6 d7 d8 d9 d10 d11 d12 d13 length undoMany zeroKept oneKept seen spot kind begin letters figures value plated driven rows periods leastPeriod (upd text (length.toNatClampNeg) x1)) H := hP
      have hD : va_D A (wd_X8_type Γ q0 q1 d0 d1 d2 d3 d4 d5 d6 d7 d8 d9 d10 d11 d12 d13 length undoMany zeroKept oneKept seen spot kind begin letters figures value plated driven rows periods leastPeriod (upd text (length.toNatClampNeg) x1)) := hD
      refine lv_aload_n hx hb dX8_type_36 rfl (lv_at hl 0 rfl) ?_
      refine lv_dup hx hb dX8_type_37 rfl ?_
      refine va_get (D := Γ.1) (ci := 8) (v := .int length) (C := RX8) (T := TX8) (N := 31) hx hb hts hi8 hown hK hP 0 rfl rfl 0 (by decide) (hts (.fieldLink RX8 65 "SandPlatesModel" "length" "I") (List.mem_of_getElem? (i := 2) rfl)) (fun _ h9 => h9) rfl dX8_type_38 ?_
      refine lv_iconst (v := 1) hx hb dX8_type_41 (by decide) ?_
      refine lv_iadd hx hb dX8_type_42 ?_
      refine va_put (D := Γ.1) (ci := 8) (v := .int (length + 1)) (ty := .int) (C := RX8) (T := TX8) (N := 31) hx hb hts hi8 tyX8 tyX8_ok nmX8 hown hK hP hD hS 0 rfl rfl 0 (by decide) (hts (.fieldLink RX8 65 "SandPlatesModel" "length" "I") (List.mem_of_getElem? (i := 2) rfl)) (fun _ h9 => h9) rfl (by decide +kernel) rfl rfl (Nat.le_of_ble_eq_true rfl) dX8_type_43 (fun H locs hP hD hS => ?_)
      have hP : va_P Γ.1 vwCl (wd_X8_type Γ q0 q1 d0 d1 d2 d3 d4 d5 d6 d7 d8 d9 d10 d11 d12 d13 (length + 1) undoMany zeroKept oneKept seen spot kind begin letters figures value plated driven rows periods leastPeriod (upd text (length.toNatClampNeg) x1)) H := hP
      have hD : va_D A (wd_X8_type Γ q0 q1 d0 d1 d2 d3 d4 d5 d6 d7 d8 d9 d10 d11 d12 d13 (length + 1) undoMany zeroKept oneKept seen spot kind begin letters figures value plated driven rows periods leastPeriod (upd text (length.toNatClampNeg) x1)) := hD
      refine lv_aload_n hx hb dX8_type_46 rfl (lv_at hl 0 rfl) ?_
      refine va_get (D := Γ.1) (ci := 8) (v := .int (length + 1)) (C := RX8) (T := TX8) (N := 31) hx hb hts hi8 hown hK hP 0 rfl rfl 0 (by decide) (hts (.fieldLink RX8 65 "SandPlatesModel" "length" "I") (List.mem_of_getElem? (i := 2) rfl)) (fun _ h9 => h9) rfl dX8_type_47 ?_
      subst hout; obtain ⟨rfl, rfl, rfl⟩ := rt3 hf
      subst hQQ
      exact W.iret hx hb hr (fun t ht hW => ⟨⟨_, (), rfl, rfl, by rw [ht]; exact hP, hD⟩, hS.F ht⟩) hS.2.2 dX8_type_50
    · have hf := vm_pos hc_4 hf
      refine lv_bipush (v := (-3)) hx hb dX8_type_23 (by decide) ?_
      subst hout; obtain ⟨rfl, rfl, rfl⟩ := rt3 hf
      subst hQQ
      exact W.iret hx hb hr (fun t ht hW => ⟨⟨_, (), rfl, rfl, by rw [ht]; exact hP, hD⟩, hS.F ht⟩) hS.2.2 dX8_type_25
  · have hf := vm_pos hc_3 hf
    refine lv_iconst (v := (-1)) hx hb dX8_type_12 (by decide) ?_
    subst hout; obtain ⟨rfl, rfl, rfl⟩ := rt3 hf
    subst hQQ
    exact W.iret hx hb hr (fun t ht hW => ⟨⟨_, (), rfl, rfl, by rw [ht]; exact hP, hD⟩, hS.F ht⟩) hS.2.2 dX8_type_13
def wd_X8_clear (Γ : GE) (q0 d0 d1 d2 d3 d4 d5 d6 d7 d8 d9 d10 d11 d12 d13 d14 : Nat) (length : Int32) (undoMany : Int32) (zeroKept : Int32) (oneKept : Int32) (seen : Int32) (spot : Int32) (kind : Int32) (begin : Int32) (letters : Int64) (figures : Int32) (value : Int32) (plated : Int32) (driven : Int32) (rows : Int32) (periods : Int32) (leastPeriod : Int32) : va_W := [(q0, .inr (8, [.int length, .ref d0, .ref d1, .ref d2, .ref d3, .int undoMany, .ref d4, .int zeroKept, .int oneKept, .ref d5, .ref d6, .int seen, .int spot, .int kind, .int begin, .long letters, .int figures, .int value, .int plated, .int driven, .int rows, .ref d7, .ref d8, .ref d9, .ref d10, .ref d11, .ref d12, .ref d13, .ref d14, .int periods, .int leastPeriod]))]
def f_X8_clear (length : Int32) : Option (Int32 × Int32) := some (length, 0)
set_option maxHeartbeats 4000000 in
set_option maxRecDepth 100000 in
theorem c_X8_clear (l : Launch) (Γ : GE) (sz : Nat) (q0 d0 d1 d2 d3 d4 d5 d6 d7 d8 d9 d10 d11 d12 d13 d14 : Nat) (length : Int32) (undoMany : Int32) (zeroKept : Int32) (oneKept : Int32) (seen : Int32) (spot : Int32) (kind : Int32) (begin : Int32) (letters : Int64) (figures : Int32) (value : Int32) (plated : Int32) (driven : Int32) (rows : Int32) (periods : Int32) (leastPeriod : Int32) (ro : Int32) (o_length : Int32) (hf : f_X8_clear length = some (ro, o_length)) : MetI l yX8_clear wsX8_clear ({ frames := 0, cells := 0, slots := 0, locals := 0 } : Room) Γ [.ref q0] (wd_X8_clear Γ q0 d0 d1 d2 d3 d4 d5 d6 d7 d8 d9 d10 d11 d12 d13 d14 length undoMany zeroKept oneKept seen spot kind begin letters figures value plated driven rows periods leastPeriod) (wd_X8_clear Γ q0 d0 d1 d2 d3 d4 d5 d6 d7 d8 d9 d10 d11 d12 d13 d14 o_length undoMany zeroKept oneKept seen spot kind begin letters figures value plated driven rows periods leastPeriod) sz ro := by
  refine Met.ofW (cc := cX8_clear) (maxL := 2) (ret := (some .int)) (by decide) rfl ?_
  intro p e s m args below meth c s₁ B hml hv
  obtain ⟨rfl, hsz, hE, hP, hD⟩ := hv
  have hx := B.exec
  have hb := B.bytes
  have hr := B.returns
  have hts := atoms_spec (ws := wsX8_clear) B.pre
  have hown : s.vm.findClass RX8 = some m.cls := findClass_of_methodNamed B.named
  have hlocks := B.notSynchronized
  subst hsz
  generalize hAe : va_A (wd_X8_clear Γ q0 d0 d1 d2 d3 d4 d5 d6 d7 d8 d9 d10 d11 d12 d13 d14 length undoMany zeroKept oneKept seen spot kind begin letters figures value plated driven rows periods leastPeriod) s.heap.size = A at hE hD ⊢
  have hA : ∀ q : Nat, s.heap.size ≤ q → A q := fun q h => by rw [← hAe]; exact Or.inr h
  clear hAe
  have hS : va_S A s.heap s.heap [] := va_S.rf
  have hK := hE.1
  have hl := lv_entry ([.ref q0]) (n := 2) (Nat.le_of_ble_eq_true rfl)
  rw [lg_entry_eq]
  generalize (lg_sl ([.ref q0]) ++ List.replicate (2 - (lg_sl ([.ref q0])).length) Slot.unset).toArray = ls at hl ⊢
  have hl : lv_has ls 2 [(0, .ref q0)] := hl
  have hi8 : ∀ w ∈ u_ws RX8 TX8 31, w ∈ wsX8_clear := fun w h => (List.mem_cons_of_mem _ (List.mem_append_right _ h))
  obtain ⟨out, hout⟩ : ∃ o, o = (ro, o_length) := ⟨_, rfl⟩
  rw [← hout] at hf
  obtain ⟨QQ, hQQ⟩ : ∃ Q, Q = MQ below (va_Qi (fun (r' : Int32) (_ : Unit) => r' = ro) (CQ Γ (wd_X8_clear Γ q0 d0 d1 d2 d3 d4 d5 d6 d7 d8 d9 d10 d11 d12 d13 d14 o_length undoMany zeroKept oneKept seen spot kind begin letters figures value plated driven rows periods leastPeriod) A) A) (([.ref q0] : List Value).toArray) s 0 0 A := ⟨_, rfl⟩
  show W p l e ({ frames := 0, cells := 0, slots := 0, locals := 0 } : Room) s m (([.ref q0] : List Value).toArray) below meth c s.heap [] 0 0 (MQ below _ (([.ref q0] : List Value).toArray) s 0 0 A) (F0 m 0 ls [])
  rw [← hQQ]
  unfold f_X8_clear at hf
  refine lv_aload_n hx hb dX8_clear_0 rfl (lv_at hl 0 rfl) ?_
  refine va_get (D := Γ.1) (ci := 8) (v := .int length) (C := RX8) (T := TX8) (N := 31) hx hb hts hi8 hown hK hP 0 rfl rfl 0 (by decide) (hts (.fieldLink RX8 65 "SandPlatesModel" "length" "I") (List.mem_of_getElem? (i := 1) rfl)) (fun _ h9 => h9) rfl dX8_clear_1 ?_
  refine lv_istore_n (lv' := [(1, .int length), (0, .ref q0)]) hx hb dX8_clear_4 rfl hl (by decide) rfl (fun ls hl => ?_)
  refine lv_aload_n hx hb dX8_clear_5 rfl (lv_at hl 1 rfl) ?_
  refine lv_iconst (v := 0) hx hb dX8_clear_6 (by decide) ?_
  refine va_put (D := Γ.1) (ci := 8) (v := .int 0) (ty := .int) (C := RX8) (T := TX8) (N := 31) hx hb hts hi8 tyX8 tyX8_ok nmX8 hown hK hP hD hS 0 rfl rfl 0 (by decide) (hts (.fieldLink RX8 65 "SandPlatesModel" "length" "I") (List.mem_of_getElem? (i := 1) rfl)) (fun _ h9 => h9) rfl (by decide +kernel) rfl rfl (Nat.le_of_ble_eq_true rfl) dX8_clear_7 (fun H locs hP hD hS => ?_)
  have hP : va_P Γ.1 vwCl (wd_X8_clear Γ q0 d0 d1 d2 d3 d4 d5 d6 d7 d8 d9 d10 d11 d12 d13 d14 0 undoMany zeroKept oneKept seen spot kind begin letters figures value plated driven rows periods leastPeriod) H := hP
  have hD : va_D A (wd_X8_clear Γ q0 d0 d1 d2 d3 d4 d5 d6 d7 d8 d9 d10 d11 d12 d13 d14 0 undoMany zeroKept oneKept seen spot kind begin letters figures value plated driven rows periods leastPeriod) := hD
  refine lv_iload_n hx hb dX8_clear_10 rfl (lv_at hl 0 rfl) ?_
  subst hout; obtain ⟨rfl, rfl⟩ := rt2 hf
  subst hQQ
  exact W.iret hx hb hr (fun t ht hW => ⟨⟨_, (), rfl, rfl, by rw [ht]; exact hP, hD⟩, hS.F ht⟩) hS.2.2 dX8_clear_11
def wd_X8_isAt (Γ : GE) (q0 q1 d0 d1 d2 d3 d4 d5 d6 d7 d8 d9 d10 d11 d12 d13 : Nat) (length : Int32) (undoMany : Int32) (zeroKept : Int32) (oneKept : Int32) (seen : Int32) (spot : Int32) (kind : Int32) (begin : Int32) (letters : Int64) (figures : Int32) (value : Int32) (plated : Int32) (driven : Int32) (rows : Int32) (periods : Int32) (leastPeriod : Int32) (text : Nat → Int32) : va_W := [(q0, .inr (8, [.int length, .ref q1, .ref d0, .ref d1, .ref d2, .int undoMany, .ref d3, .int zeroKept, .int oneKept, .ref d4, .ref d5, .int seen, .int spot, .int kind, .int begin, .long letters, .int figures, .int value, .int plated, .int driven, .int rows, .ref d6, .ref d7, .ref d8, .ref d9, .ref d10, .ref d11, .ref d12, .ref d13, .int periods, .int leastPeriod])), (q1, .inl (Γ.2.1 0, 120, .inl text))]
def f_X8_isAt_36 (s0 : Int32) : Option Int32 := if s0 = 0 ∨ s0 = 1 then some s0 else none
def f_X8_isAt_35  : Option Int32 := f_X8_isAt_36 0
def f_X8_isAt (length : Int32) (spot : Int32) (text : Nat → Int32) (x1 : Int32) (x2 : Int32) : Option Int32 := if length ≤ spot then f_X8_isAt_35 else (if inb spot 120 = true then ob1 (f_X8_in ((text (spot.toNatClampNeg)).toInt64) ((x1).toInt64) ((x2).toInt64)) (fun r_4 => if r_4 = 0 then f_X8_isAt_35 else (f_X8_isAt_36 1)) else none)
set_option maxHeartbeats 4000000 in
set_option maxRecDepth 100000 in
theorem c_X8_isAt (l : Launch) (Γ : GE) (sz : Nat) (q0 q1 d0 d1 d2 d3 d4 d5 d6 d7 d8 d9 d10 d11 d12 d13 : Nat) (length : Int32) (undoMany : Int32) (zeroKept : Int32) (oneKept : Int32) (seen : Int32) (spot : Int32) (kind : Int32) (begin : Int32) (letters : Int64) (figures : Int32) (value : Int32) (plated : Int32) (driven : Int32) (rows : Int32) (periods : Int32) (leastPeriod : Int32) (text : Nat → Int32) (x1 : Int32) (x2 : Int32) (ro : Int32) (hf : f_X8_isAt length spot text x1 x2 = some ro) : MetI l yX8_isAt wsX8_isAt ({ frames := 1, cells := 0, slots := 0, locals := 25 } : Room) Γ [.ref q0, .int x1, .int x2] (wd_X8_isAt Γ q0 q1 d0 d1 d2 d3 d4 d5 d6 d7 d8 d9 d10 d11 d12 d13 length undoMany zeroKept oneKept seen spot kind begin letters figures value plated driven rows periods leastPeriod text) (wd_X8_isAt Γ q0 q1 d0 d1 d2 d3 d4 d5 d6 d7 d8 d9 d10 d11 d12 d13 length undoMany zeroKept oneKept seen spot kind begin letters figures value plated driven rows periods leastPeriod text) sz ro := by
  refine Met.ofW (cc := cX8_isAt) (maxL := 3) (ret := (some .boolean)) (by decide) rfl ?_
  intro p e s m args below meth c s₁ B hml hv
  obtain ⟨rfl, hsz, hE, hP, hD⟩ := hv
  have hx := B.exec
  have hb := B.bytes
  have hr := B.returns
  have hts := atoms_spec (ws := wsX8_isAt) B.pre
  have hown : s.vm.findClass RX8 = some m.cls := findClass_of_methodNamed B.named
  have hlocks := B.notSynchronized
  subst hsz
  generalize hAe : va_A (wd_X8_isAt Γ q0 q1 d0 d1 d2 d3 d4 d5 d6 d7 d8 d9 d10 d11 d12 d13 length undoMany zeroKept oneKept seen spot kind begin letters figures value plated driven rows periods leastPeriod text) s.heap.size = A at hE hD ⊢
  have hA : ∀ q : Nat, s.heap.size ≤ q → A q := fun q h => by rw [← hAe]; exact Or.inr h
  clear hAe
  have hS : va_S A s.heap s.heap [] := va_S.rf
  have hK := hE.1
  have hl := lv_entry ([.ref q0, .int x1, .int x2]) (n := 3) (Nat.le_of_ble_eq_true rfl)
  rw [lg_entry_eq]
  generalize (lg_sl ([.ref q0, .int x1, .int x2]) ++ List.replicate (3 - (lg_sl ([.ref q0, .int x1, .int x2])).length) Slot.unset).toArray = ls at hl ⊢
  have hl : lv_has ls 3 [(0, .ref q0), (1, .int x1), (2, .int x2)] := hl
  have hi8 : ∀ w ∈ u_ws RX8 TX8 31, w ∈ wsX8_isAt := fun w h => (List.mem_cons_of_mem _ (List.mem_append_right _ h))
  obtain ⟨out, hout⟩ : ∃ o, o = ro := ⟨_, rfl⟩
  rw [← hout] at hf
  obtain ⟨QQ, hQQ⟩ : ∃ Q, Q = MQ below (va_Qi (fun (r' : Int32) (_ : Unit) => r' = ro) (CQ Γ (wd_X8_isAt Γ q0 q1 d0 d1 d2 d3 d4 d5 d6 d7 d8 d9 d10 d11 d12 d13 length undoMany zeroKept oneKept seen spot kind begin letters figures value plated driven rows periods leastPeriod text) A) A) (([.ref q0, .int x1, .int x2] : List Value).toArray) s 0 0 A := ⟨_, rfl⟩
  show W p l e ({ frames := 1, cells := 0, slots := 0, locals := 25 } : Room) s m (([.ref q0, .int x1, .int x2] : List Value).toArray) below meth c s.heap [] 0 0 (MQ below _ (([.ref q0, .int x1, .int x2] : List Value).toArray) s 0 0 A) (F0 m 0 ls [])
  rw [← hQQ]
  have K_36 : ∀ (s0 : Int32) {H : Heap} {locs : List Loc} {ls : Array Slot}, va_P Γ.1 vwCl (wd_X8_isAt Γ q0 q1 d0 d1 d2 d3 d4 d5 d6 d7 d8 d9 d10 d11 d12 d13 length undoMany zeroKept oneKept seen spot kind begin letters figures value plated driven rows periods leastPeriod text) H → va_D A (wd_X8_isAt Γ q0 q1 d0 d1 d2 d3 d4 d5 d6 d7 d8 d9 d10 d11 d12 d13 length undoMany zeroKept oneKept seen spot kind begin letters figures value plated driven rows periods leastPeriod text) → va_S A s.heap H locs → lv_has ls 3 [] → f_X8_isAt_36 s0 = some out → W p l e ({ frames := 1, cells := 0, slots := 0, locals := 25 } : Room) s m ([.ref q0, .int x1, .int x2] : List Value).toArray below meth c H locs 0 0 QQ (F0 m 36 ls [.int s0]) := by
    intro s0 H locs ls hP hD hS hl hf
    unfold f_X8_isAt_36 at hf
    obtain ⟨hc_1, hf⟩ := vm_ck hf
    subst hout; obtain rfl := Option.some.inj hf
    subst hQQ
    exact W.zret hx hb hr (vm_nz hc_1) (fun t ht hW => ⟨⟨_, (), rfl, rfl, by rw [ht]; exact hP, hD⟩, hS.F ht⟩) hS.2.2 dX8_isAt_36
  have K_35 : ∀ {H : Heap} {locs : List Loc} {ls : Array Slot}, va_P Γ.1 vwCl (wd_X8_isAt Γ q0 q1 d0 d1 d2 d3 d4 d5 d6 d7 d8 d9 d10 d11 d12 d13 length undoMany zeroKept oneKept seen spot kind begin letters figures value plated driven rows periods leastPeriod text) H → va_D A (wd_X8_isAt Γ q0 q1 d0 d1 d2 d3 d4 d5 d6 d7 d8 d9 d10 d11 d12 d13 length undoMany zeroKept oneKept seen spot kind begin letters figures value plated driven rows periods leastPeriod text) → va_S A s.heap H locs → lv_has ls 3 [] → f_X8_isAt_35 = some out → W p l e ({ frames := 1, cells := 0, slots := 0, locals := 25 } : Room) s m ([.ref q0, .int x1, .int x2] : List Value).toArray below meth c H locs 0 0 QQ (F0 m 35 ls []) := by
    intro H locs ls hP hD hS hl hf
    unfold f_X8_isAt_35 at hf
    refine lv_iconst (v := 0) hx hb dX8_isAt_35 (by decide) ?_
    exact K_36 0 hP hD hS (lv_sub hl [] rfl) hf
  unfold f_X8_isAt at hf
  refine lv_aload_n hx hb dX8_isAt_0 rfl (lv_at hl 0 rfl) ?_
  refine va_get (D := Γ.1) (ci := 8) (v := .int spot) (C := RX8) (T := TX8) (N := 31) hx hb hts hi8 hown hK hP 0 rfl rfl 12 (by decide) (hts (.fieldLink RX8 69 "SandPlatesModel" "spot" "I") (List.mem_of_getElem? (i := 1) rfl)) (fun _ h9 => h9) rfl dX8_isAt_1 ?_
  refine lv_aload_n hx hb dX8_isAt_4 rfl (lv_at hl 0 rfl) ?_
  refine va_get (D := Γ.1) (ci := 8) (v := .int length) (C := RX8) (T := TX8) (N := 31) hx hb hts hi8 hown hK hP 0 rfl rfl 0 (by decide) (hts (.fieldLink RX8 65 "SandPlatesModel" "length" "I") (List.mem_of_getElem? (i := 2) rfl)) (fun _ h9 => h9) rfl dX8_isAt_5 ?_
  refine lv_icmp_ge (tgt := 35) hx hb dX8_isAt_8 (by decide) (fun hc_2 => ?_) (fun hc_2 => ?_)
  · have hf := vm_pos hc_2 hf
    exact K_35  hP hD hS (lv_sub hl [] rfl) hf
  · have hf := vm_neg hc_2 hf
    refine lv_aload_n hx hb dX8_isAt_11 rfl (lv_at hl 0 rfl) ?_
    refine va_get (D := Γ.1) (ci := 8) (v := .ref q1) (C := RX8) (T := TX8) (N := 31) hx hb hts hi8 hown hK hP 0 rfl rfl 1 (by decide) (hts (.fieldLink RX8 7 "SandPlatesModel" "text" "[I") (List.mem_of_getElem? (i := 3) rfl)) (fun _ h9 => h9) rfl dX8_isAt_12 ?_
    refine lv_aload_n hx hb dX8_isAt_15 rfl (lv_at hl 0 rfl) ?_
    refine va_get (D := Γ.1) (ci := 8) (v := .int spot) (C := RX8) (T := TX8) (N := 31) hx hb hts hi8 hown hK hP 0 rfl rfl 12 (by decide) (hts (.fieldLink RX8 69 "SandPlatesModel" "spot" "I") (List.mem_of_getElem? (i := 1) rfl)) (fun _ h9 => h9) rfl dX8_isAt_16 ?_
    obtain ⟨hc_3, hf⟩ := vm_ck hf
    refine vm_iald hx hb hK hP 1 0 rfl rfl hc_3 (j := spot.toNatClampNeg) rfl dX8_isAt_19 ?_
    refine lv_i2l hx hb dX8_isAt_20 rfl ?_
    refine lv_iload_n hx hb dX8_isAt_21 rfl (lv_at hl 1 rfl) ?_
    refine lv_i2l hx hb dX8_isAt_22 rfl ?_
    refine lv_iload_n hx hb dX8_isAt_23 rfl (lv_at hl 2 rfl) ?_
    refine lv_i2l hx hb dX8_isAt_24 rfl ?_
    obtain ⟨r_4, hq_5, hf⟩ := ob1_some hf
    refine vm_cSi (isC := []) (wc := (wd_X8_in Γ)) (w1 := (wd_X8_in Γ)) (As := [.long ((text (spot.toNatClampNeg)).toInt64), .long ((x1).toInt64), .long ((x2).toInt64)]) (rest := []) ⟨hx, hb, hml, hown, hts⟩ hE hP hD hS hA rfl rfl rfl (c_X8_in l Γ _ ((text (spot.toNatClampNeg)).toInt64) ((x1).toInt64) ((x2).toInt64) r_4 hq_5) (va_cwS 3 hts gX8_isAt_X8_in rfl rfl rfl (by decide +kernel) ⟨Nat.le_of_ble_eq_true rfl, Nat.le_of_ble_eq_true rfl⟩) rfl hl.1 rfl (Nat.le_of_ble_eq_true rfl) dX8_isAt_25 ⟨Nat.zero_le _, Nat.zero_le _⟩ (fun H locs hP hD hS => ?_)
    have hP : va_P Γ.1 vwCl (wd_X8_isAt Γ q0 q1 d0 d1 d2 d3 d4 d5 d6 d7 d8 d9 d10 d11 d12 d13 length undoMany zeroKept oneKept seen spot kind begin letters figures value plated driven rows periods leastPeriod text) H := hP
    have hD : va_D A (wd_X8_isAt Γ q0 q1 d0 d1 d2 d3 d4 d5 d6 d7 d8 d9 d10 d11 d12 d13 length undoMany zeroKept oneKept seen spot kind begin letters figures value plated driven rows periods leastPeriod text) := hD
    refine lv_if_eq (tgt := 35) hx hb dX8_isAt_28 (by decide) (fun hc_6 => ?_) (fun hc_6 => ?_)
    · have hf := vm_pos hc_6 hf
      exact K_35  hP hD hS (lv_sub hl [] rfl) hf
    · have hf := vm_neg hc_6 hf
      refine lv_iconst (v := 1) hx hb dX8_isAt_31 (by decide) ?_
      refine lv_goto (tgt := 36) hx hb dX8_isAt_32 (by decide) ?_
      exact K_36 1 hP hD hS (lv_sub hl [] rfl) hf
def wd_X8_takes (Γ : GE) (q0 q1 d0 d1 d2 d3 d4 d5 d6 d7 d8 d9 d10 d11 d12 d13 : Nat) (length : Int32) (undoMany : Int32) (zeroKept : Int32) (oneKept : Int32) (seen : Int32) (spot : Int32) (kind : Int32) (begin : Int32) (letters : Int64) (figures : Int32) (value : Int32) (plated : Int32) (driven : Int32) (rows : Int32) (periods : Int32) (leastPeriod : Int32) (text : Nat → Int32) : va_W := [(q0, .inr (8, [.int length, .ref q1, .ref d0, .ref d1, .ref d2, .int undoMany, .ref d3, .int zeroKept, .int oneKept, .ref d4, .ref d5, .int seen, .int spot, .int kind, .int begin, .long letters, .int figures, .int value, .int plated, .int driven, .int rows, .ref d6, .ref d7, .ref d8, .ref d9, .ref d10, .ref d11, .ref d12, .ref d13, .int periods, .int leastPeriod])), (q1, .inl (Γ.2.1 0, 120, .inl text))]
def f_X8_takes_273 (spot : Int32) (kind : Int32) (begin : Int32) (letters : Int64) (figures : Int32) (value : Int32) : Option (Int32 × Int32 × Int32 × Int64 × Int32 × Int32) := some (spot, kind, begin, letters, figures, value)
def f_X8_takes_260 (spot : Int32) (begin : Int32) (letters : Int64) (figures : Int32) (value : Int32) (s1 : Int32) : Option (Int32 × Int32 × Int32 × Int64 × Int32 × Int32) := f_X8_takes_273 (spot + 1) s1 begin letters figures value
def f_X8_takes_227 (length : Int32) (spot : Int32) (kind : Int32) (begin : Int32) (letters : Int64) (figures : Int32) (text : Nat → Int32) (s1 : Int32) (k : ((Int32 × Int32 × Int32) → Option (Int32 × Int32 × Int32))) : Option (Int32 × Int32 × Int32) := k ((spot + 1), figures, s1)
def f_X8_takes_169b (length : Int32) (kind : Int32) (begin : Int32) (letters : Int64) (text : Nat → Int32) (spot : Int32) (figures : Int32) (value : Int32) (k : ((Int32 × Int32 × Int32) → Option (Int32 × Int32 × Int32))) : Option (Int32 × Int32 × Int32) := ob1 (f_X8_isAt length spot text 48 57) (fun r_1 => if r_1 = 0 then (some (spot, figures, value)) else (if 8 ≤ (figures + 1) then (f_X8_takes_227 length spot kind begin letters (figures + 1) text value k) else (if inb spot 120 = true then f_X8_takes_227 length spot kind begin letters (figures + 1) text (((10 * value) + (text (spot.toNatClampNeg))) - 48) k else none)))
def f_X8_takes_169s (length : Int32) (kind : Int32) (begin : Int32) (letters : Int64) (text : Nat → Int32) : (Int32 × Int32 × Int32) → ((Int32 × Int32 × Int32) → Option (Int32 × Int32 × Int32)) → Option (Int32 × Int32 × Int32) := fun t k => f_X8_takes_169b length kind begin letters text t.1 t.2.1 t.2.2 k
def f_X8_takes_169 (length : Int32) (spot : Int32) (kind : Int32) (begin : Int32) (letters : Int64) (figures : Int32) (value : Int32) (text : Nat → Int32) : Option (Int32 × Int32 × Int32 × Int64 × Int32 × Int32) := obx (vm_it (f_X8_takes_169s length kind begin letters text) FU (spot, figures, value)) (un3 (fun spot figures value => f_X8_takes_273 spot kind begin letters figures value))
def f_X8_takes_137 (length : Int32) (spot : Int32) (kind : Int32) (begin : Int32) (figures : Int32) (value : Int32) (text : Nat → Int32) (s1 : Int64) (k : ((Int32 × Int64) → Option (Int32 × Int64))) : Option (Int32 × Int64) := k ((spot + 1), s1)
def f_X8_takes_82b (length : Int32) (kind : Int32) (begin : Int32) (figures : Int32) (value : Int32) (text : Nat → Int32) (spot : Int32) (letters : Int64) (k : ((Int32 × Int64) → Option (Int32 × Int64))) : Option (Int32 × Int64) := ob1 (f_X8_isAt length spot text 97 122) (fun r_6 => if r_6 = 0 then (some (spot, letters)) else (if 9 ≤ (spot - begin) then (f_X8_takes_137 length spot kind begin figures value text (-1) k) else (if inb spot 120 = true then f_X8_takes_137 length spot kind begin figures value text (((32 * letters) + ((text (spot.toNatClampNeg)).toInt64)) - 96) k else none)))
def f_X8_takes_82s (length : Int32) (kind : Int32) (begin : Int32) (figures : Int32) (value : Int32) (text : Nat → Int32) : (Int32 × Int64) → ((Int32 × Int64) → Option (Int32 × Int64)) → Option (Int32 × Int64) := fun t k => f_X8_takes_82b length kind begin figures value text t.1 t.2 k
def f_X8_takes_82 (length : Int32) (spot : Int32) (kind : Int32) (begin : Int32) (letters : Int64) (figures : Int32) (value : Int32) (text : Nat → Int32) : Option (Int32 × Int32 × Int32 × Int64 × Int32 × Int32) := obx (vm_it (f_X8_takes_82s length kind begin figures value text) FU (spot, letters)) (un2 (fun spot letters => f_X8_takes_273 spot kind begin letters figures value))
def f_X8_takes_24 (length : Int32) (spot : Int32) (text : Nat → Int32) : Option (Int32 × Int32 × Int32 × Int64 × Int32 × Int32) := if spot = length then (f_X8_takes_273 spot 0 spot 0 0 0) else (ob1 (f_X8_isAt length spot text 97 122) (fun r_12 => if r_12 = 0 then (ob1 (f_X8_isAt length spot text 48 57) (fun r_15 => if r_15 = 0 then (ob1 (f_X8_isAt length spot text 59 59) (fun r_18 => if r_18 = 0 then (f_X8_takes_260 spot spot 0 0 0 4) else (f_X8_takes_260 spot spot 0 0 0 3))) else (f_X8_takes_169 length spot 2 spot 0 0 0 text))) else (f_X8_takes_82 length spot 1 spot 0 0 0 text)))
def f_X8_takes_0b (length : Int32) (text : Nat → Int32) (spot : Int32) (k : (Int32 → Option Int32)) : Option Int32 := ob1 (f_X8_isAt length spot text 32 32) (fun r_21 => if r_21 = 0 then (some spot) else (k (spot + 1)))
def f_X8_takes_0s (length : Int32) (text : Nat → Int32) : Int32 → (Int32 → Option Int32) → Option Int32 := fun t k => f_X8_takes_0b length text t k
def f_X8_takes_0 (length : Int32) (spot : Int32) (text : Nat → Int32) : Option (Int32 × Int32 × Int32 × Int64 × Int32 × Int32) := obx (vm_it (f_X8_takes_0s length text) FU spot) (fun spot => f_X8_takes_24 length spot text)
def f_X8_takes (length : Int32) (spot : Int32) (text : Nat → Int32) : Option (Int32 × Int32 × Int32 × Int64 × Int32 × Int32) := f_X8_takes_0 length spot text
set_option maxHeartbeats 4000000 in
set_option maxRecDepth 100000 in
theorem c_X8_takes (l : Launch) (Γ : GE) (sz : Nat) (q0 q1 d0 d1 d2 d3 d4 d5 d6 d7 d8 d9 d10 d11 d12 d13 : Nat) (length : Int32) (undoMany : Int32) (zeroKept : Int32) (oneKept : Int32) (seen : Int32) (spot : Int32) (kind : Int32) (begin : Int32) (letters : Int64) (figures : Int32) (value : Int32) (plated : Int32) (driven : Int32) (rows : Int32) (periods : Int32) (leastPeriod : Int32) (text : Nat → Int32) (o_spot : Int32) (o_kind : Int32) (o_begin : Int32) (o_letters : Int64) (o_figures : Int32) (o_value : Int32) (hf : f_X8_takes length spot text = some (o_spot, o_kind, o_begin, o_letters, o_figures, o_value)) : MetV l yX8_takes wsX8_takes ({ frames := 2, cells := 0, slots := 0, locals := 47 } : Room) Γ [.ref q0] (wd_X8_takes Γ q0 q1 d0 d1 d2 d3 d4 d5 d6 d7 d8 d9 d10 d11 d12 d13 length undoMany zeroKept oneKept seen spot kind begin letters figures value plated driven rows periods leastPeriod text) (wd_X8_takes Γ q0 q1 d0 d1 d2 d3 d4 d5 d6 d7 d8 d9 d10 d11 d12 d13 length undoMany zeroKept oneKept seen o_spot o_kind o_begin o_letters o_figures o_value plated driven rows periods leastPeriod text) sz := by
  refine Met.ofW (cc := cX8_takes) (maxL := 1) (ret := none) (by decide) rfl ?_
  intro p e s m args below meth c s₁ B hml hv
  obtain ⟨rfl, hsz, hE, hP, hD⟩ := hv
  have hx := B.exec
  have hb := B.bytes
  have hr := B.returns
  have hts := atoms_spec (ws := wsX8_takes) B.pre
  have hown : s.vm.findClass RX8 = some m.cls := findClass_of_methodNamed B.named
  have hlocks := B.notSynchronized
  subst hsz
  generalize hAe : va_A (wd_X8_takes Γ q0 q1 d0 d1 d2 d3 d4 d5 d6 d7 d8 d9 d10 d11 d12 d13 length undoMany zeroKept oneKept seen spot kind begin letters figures value plated driven rows periods leastPeriod text) s.heap.size = A at hE hD ⊢
  have hA : ∀ q : Nat, s.heap.size ≤ q → A q := fun q h => by rw [← hAe]; exact Or.inr h
  clear hAe
  have hS : va_S A s.heap s.heap [] := va_S.rf
  have hK := hE.1
  have hl := lv_entry ([.ref q0]) (n := 1) (Nat.le_of_ble_eq_true rfl)
  rw [lg_entry_eq]
  generalize (lg_sl ([.ref q0]) ++ List.replicate (1 - (lg_sl ([.ref q0])).length) Slot.unset).toArray = ls at hl ⊢
  have hl : lv_has ls 1 [(0, .ref q0)] := hl
  have hi8 : ∀ w ∈ u_ws RX8 TX8 31, w ∈ wsX8_takes := fun w h => (List.mem_cons_of_mem _ (List.mem_append_right _ h))
  obtain ⟨out, hout⟩ : ∃ o, o = (o_spot, o_kind, o_begin, o_letters, o_figures, o_value) := ⟨_, rfl⟩
  rw [← hout] at hf
  obtain ⟨QQ, hQQ⟩ : ∃ Q, Q = MQ below (va_Qv (fun _ : Unit => True) (CQ Γ (wd_X8_takes Γ q0 q1 d0 d1 d2 d3 d4 d5 d6 d7 d8 d9 d10 d11 d12 d13 length undoMany zeroKept oneKept seen o_spot o_kind o_begin o_letters o_figures o_value plated driven rows periods leastPeriod text) A) A) (([.ref q0] : List Value).toArray) s 0 0 A := ⟨_, rfl⟩
  show W p l e ({ frames := 2, cells := 0, slots := 0, locals := 47 } : Room) s m (([.ref q0] : List Value).toArray) below meth c s.heap [] 0 0 (MQ below _ (([.ref q0] : List Value).toArray) s 0 0 A) (F0 m 0 ls [])
  rw [← hQQ]
  have K_273 : ∀ (spot : Int32) (kind : Int32) (begin : Int32) (letters : Int64) (figures : Int32) (value : Int32) {H : Heap} {locs : List Loc} {ls : Array Slot}, va_P Γ.1 vwCl (wd_X8_takes Γ q0 q1 d0 d1 d2 d3 d4 d5 d6 d7 d8 d9 d10 d11 d12 d13 length undoMany zeroKept oneKept seen spot kind begin letters figures value plated driven rows periods leastPeriod text) H → va_D A (wd_X8_takes Γ q0 q1 d0 d1 d2 d3 d4 d5 d6 d7 d8 d9 d10 d11 d12 d13 length undoMany zeroKept oneKept seen spot kind begin letters figures value plated driven rows periods leastPeriod text) → va_S A s.heap H locs → lv_has ls 1 [] → f_X8_takes_273 spot kind begin letters figures value = some out → W p l e ({ frames := 2, cells := 0, slots := 0, locals := 47 } : Room) s m ([.ref q0] : List Value).toArray below meth c H locs 0 0 QQ (F0 m 273 ls []) := by
    intro spot kind begin letters figures value H locs ls hP hD hS hl hf
    unfold f_X8_takes_273 at hf
    subst hout; obtain ⟨rfl, rfl, rfl, rfl, rfl, rfl⟩ := rt6 hf
    subst hQQ
    exact W.vret hx hb hr (fun t ht hW => ⟨⟨(), rfl, trivial, by rw [ht]; exact hP, hD⟩, hS.F ht⟩) hS.2.2 dX8_takes_273
  have K_260 : ∀ (spot : Int32) (begin : Int32) (letters : Int64) (figures : Int32) (value : Int32) (s1 : Int32) {kind : Int32} {H : Heap} {locs : List Loc} {ls : Array Slot}, va_P Γ.1 vwCl (wd_X8_takes Γ q0 q1 d0 d1 d2 d3 d4 d5 d6 d7 d8 d9 d10 d11 d12 d13 length undoMany zeroKept oneKept seen spot kind begin letters figures value plated driven rows periods leastPeriod text) H → va_D A (wd_X8_takes Γ q0 q1 d0 d1 d2 d3 d4 d5 d6 d7 d8 d9 d10 d11 d12 d13 length undoMany zeroKept oneKept seen spot kind begin letters figures value plated driven rows periods leastPeriod text) → va_S A s.heap H locs → lv_has ls 1 [(0, .ref q0)] → f_X8_takes_260 spot begin letters figures value s1 = some out → W p l e ({ frames := 2, cells := 0, slots := 0, locals := 47 } : Room) s m ([.ref q0] : List Value).toArray below meth c H locs 0 0 QQ (F0 m 260 ls [.int s1, .ref q0]) := by
    intro spot begin letters figures value s1 kind H locs ls hP hD hS hl hf
    unfold f_X8_takes_260 at hf
    refine va_put (D := Γ.1) (ci := 8) (v := .int s1) (ty := .int) (C := RX8) (T := TX8) (N := 31) hx hb hts hi8 tyX8 tyX8_ok nmX8 hown hK hP hD hS 0 rfl rfl 13 (by decide) (hts (.fieldLink RX8 89 "SandPlatesModel" "kind" "I") (List.mem_of_getElem? (i := 7) rfl)) (fun _ h9 => h9) rfl (by decide +kernel) rfl rfl (Nat.le_of_ble_eq_true rfl) dX8_takes_260 (fun H locs hP hD hS => ?_)
    have hP : va_P Γ.1 vwCl (wd_X8_takes Γ q0 q1 d0 d1 d2 d3 d4 d5 d6 d7 d8 d9 d10 d11 d12 d13 length undoMany zeroKept oneKept seen spot s1 begin letters figures value plated driven rows periods leastPeriod text) H := hP
    have hD : va_D A (wd_X8_takes Γ q0 q1 d0 d1 d2 d3 d4 d5 d6 d7 d8 d9 d10 d11 d12 d13 length undoMany zeroKept oneKept seen spot s1 begin letters figures value plated driven rows periods leastPeriod text) := hD
    refine lv_aload_n hx hb dX8_takes_263 rfl (lv_at hl 0 rfl) ?_
    refine lv_dup hx hb dX8_takes_264 rfl ?_
    refine va_get (D := Γ.1) (ci := 8) (v := .int spot) (C := RX8) (T := TX8) (N := 31) hx hb hts hi8 hown hK hP 0 rfl rfl 12 (by decide) (hts (.fieldLink RX8 69 "SandPlatesModel" "spot" "I") (List.mem_of_getElem? (i := 1) rfl)) (fun _ h9 => h9) rfl dX8_takes_265 ?_
    refine lv_iconst (v := 1) hx hb dX8_takes_268 (by decide) ?_
    refine lv_iadd hx hb dX8_takes_269 ?_
    refine va_put (D := Γ.1) (ci := 8) (v := .int (spot + 1)) (ty := .int) (C := RX8) (T := TX8) (N := 31) hx hb hts hi8 tyX8 tyX8_ok nmX8 hown hK hP hD hS 0 rfl rfl 12 (by decide) (hts (.fieldLink RX8 69 "SandPlatesModel" "spot" "I") (List.mem_of_getElem? (i := 1) rfl)) (fun _ h9 => h9) rfl (by decide +kernel) rfl rfl (Nat.le_of_ble_eq_true rfl) dX8_takes_270 (fun H locs hP hD hS => ?_)
    have hP : va_P Γ.1 vwCl (wd_X8_takes Γ q0 q1 d0 d1 d2 d3 d4 d5 d6 d7 d8 d9 d10 d11 d12 d13 length undoMany zeroKept oneKept seen (spot + 1) s1 begin letters figures value plated driven rows periods leastPeriod text) H := hP
    have hD : va_D A (wd_X8_takes Γ q0 q1 d0 d1 d2 d3 d4 d5 d6 d7 d8 d9 d10 d11 d12 d13 length undoMany zeroKept oneKept seen (spot + 1) s1 begin letters figures value plated driven rows periods leastPeriod text) := hD
    exact K_273 (spot + 1) s1 begin letters figures value hP hD hS (lv_sub hl [] rfl) hf
  have K_169 : ∀ (spot : Int32) (kind : Int32) (begin : Int32) (letters : Int64) (figures : Int32) (value : Int32) {H : Heap} {locs : List Loc} {ls : Array Slot}, va_P Γ.1 vwCl (wd_X8_takes Γ q0 q1 d0 d1 d2 d3 d4 d5 d6 d7 d8 d9 d10 d11 d12 d13 length undoMany zeroKept oneKept seen spot kind begin letters figures value plated driven rows periods leastPeriod text) H → va_D A (wd_X8_takes Γ q0 q1 d0 d1 d2 d3 d4 d5 d6 d7 d8 d9 d10 d11 d12 d13 length undoMany zeroKept oneKept seen spot kind begin letters figures value plated driven rows periods leastPeriod text) → va_S A s.heap H locs → lv_has ls 1 [(0, .ref q0)] → f_X8_takes_169 length spot kind begin letters figures value text = some out → W p l e ({ frames := 2, cells := 0, slots := 0, locals := 47 } : Room) s m ([.ref q0] : List Value).toArray below meth c H locs 0 0 QQ (F0 m 169 ls []) := by
    intro spot kind begin letters figures value H locs ls hP hD hS hl hf
    unfold f_X8_takes_169 at hf
    obtain ⟨ex169, h1, hX169⟩ := obx_some hf
    have LP : ∀ (n : Nat) (spot : Int32) (figures : Int32) (value : Int32)  {H : Heap} {locs : List Loc} {ls : Array Slot}, va_P Γ.1 vwCl (wd_X8_takes Γ q0 q1 d0 d1 d2 d3 d4 d5 d6 d7 d8 d9 d10 d11 d12 d13 length undoMany zeroKept oneKept seen spot kind begin letters figures value plated driven rows periods leastPeriod text) H → va_D A (wd_X8_takes Γ q0 q1 d0 d1 d2 d3 d4 d5 d6 d7 d8 d9 d10 d11 d12 d13 length undoMany zeroKept oneKept seen spot kind begin letters figures value plated driven rows periods leastPeriod text) → va_S A s.heap H locs → lv_has ls 1 [(0, .ref q0)] → vm_it (f_X8_takes_169s length kind begin letters text) n (spot, figures, value) = some ex169 → W p l e ({ frames := 2, cells := 0, slots := 0, locals := 47 } : Room) s m ([.ref q0] : List Value).toArray below meth c H locs 0 0 QQ (F0 m 169 ls []) := by
      clear hP hD hS hl hf h1
      intro n
      induction n with
      | zero => intro spot figures value H locs ls hP hD hS hl hf; exact (vm_it_0 hf).elim
      | succ n ih =>
        intro spot figures value H locs ls hP hD hS hl hf
        have hf : f_X8_takes_169b length kind begin letters text spot figures value (vm_it (f_X8_takes_169s length kind begin letters text) n) = some ex169 := hf
        have K_227 : ∀ (spot : Int32) (figures : Int32) (s1 : Int32) {value : Int32} {H : Heap} {locs : List Loc} {ls : Array Slot}, va_P Γ.1 vwCl (wd_X8_takes Γ q0 q1 d0 d1 d2 d3 d4 d5 d6 d7 d8 d9 d10 d11 d12 d13 length undoMany zeroKept oneKept seen spot kind begin letters figures value plated driven rows periods leastPeriod text) H → va_D A (wd_X8_takes Γ q0 q1 d0 d1 d2 d3 d4 d5 d6 d7 d8 d9 d10 d11 d12 d13 length undoMany zeroKept oneKept seen spot kind begin letters figures value plated driven rows periods leastPeriod text) → va_S A s.heap H locs → lv_has ls 1 [(0, .ref q0)] → f_X8_takes_227 length spot kind begin letters figures text s1 (vm_it (f_X8_takes_169s length kind begin letters text) n) = some ex169 → W p l e ({ frames := 2, cells := 0, slots := 0, locals := 47 } : Room) s m ([.ref q0] : List Value).toArray below meth c H locs 0 0 QQ (F0 m 227 ls [.int s1, .ref q0]) := by
          intro spot figures s1 value H locs ls hP hD hS hl hf
          unfold f_X8_takes_227 at hf
          refine va_put (D := Γ.1) (ci := 8) (v := .int s1) (ty := .int) (C := RX8) (T := TX8) (N := 31) hx hb hts hi8 tyX8 tyX8_ok nmX8 hown hK hP hD hS 0 rfl rfl 17 (by decide) (hts (.fieldLink RX8 86 "SandPlatesModel" "value" "I") (List.mem_of_getElem? (i := 5) rfl)) (fun _ h9 => h9) rfl (by decide +kernel) rfl rfl (Nat.le_of_ble_eq_true rfl) dX8_takes_227 (fun H locs hP hD hS => ?_)
          have hP : va_P Γ.1 vwCl (wd_X8_takes Γ q0 q1 d0 d1 d2 d3 d4 d5 d6 d7 d8 d9 d10 d11 d12 d13 length undoMany zeroKept oneKept seen spot kind begin letters figures s1 plated driven rows periods leastPeriod text) H := hP
          have hD : va_D A (wd_X8_takes Γ q0 q1 d0 d1 d2 d3 d4 d5 d6 d7 d8 d9 d10 d11 d12 d13 length undoMany zeroKept oneKept seen spot kind begin letters figures s1 plated driven rows periods leastPeriod text) := hD
          refine lv_aload_n hx hb dX8_takes_230 rfl (lv_at hl 0 rfl) ?_
          refine lv_dup hx hb dX8_takes_231 rfl ?_
          refine va_get (D := Γ.1) (ci := 8) (v := .int spot) (C := RX8) (T := TX8) (N := 31) hx hb hts hi8 hown hK hP 0 rfl rfl 12 (by decide) (hts (.fieldLink RX8 69 "SandPlatesModel" "spot" "I") (List.mem_of_getElem? (i := 1) rfl)) (fun _ h9 => h9) rfl dX8_takes_232 ?_
          refine lv_iconst (v := 1) hx hb dX8_takes_235 (by decide) ?_
          refine lv_iadd hx hb dX8_takes_236 ?_
          refine va_put (D := Γ.1) (ci := 8) (v := .int (spot + 1)) (ty := .int) (C := RX8) (T := TX8) (N := 31) hx hb hts hi8 tyX8 tyX8_ok nmX8 hown hK hP hD hS 0 rfl rfl 12 (by decide) (hts (.fieldLink RX8 69 "SandPlatesModel" "spot" "I") (List.mem_of_getElem? (i := 1) rfl)) (fun _ h9 => h9) rfl (by decide +kernel) rfl rfl (Nat.le_of_ble_eq_true rfl) dX8_takes_237 (fun H locs hP hD hS => ?_)
          have hP : va_P Γ.1 vwCl (wd_X8_takes Γ q0 q1 d0 d1 d2 d3 d4 d5 d6 d7 d8 d9 d10 d11 d12 d13 length undoMany zeroKept oneKept seen (spot + 1) kind begin letters figures s1 plated driven rows periods leastPeriod text) H := hP
          have hD : va_D A (wd_X8_takes Γ q0 q1 d0 d1 d2 d3 d4 d5 d6 d7 d8 d9 d10 d11 d12 d13 length undoMany zeroKept oneKept seen (spot + 1) kind begin letters figures s1 plated driven rows periods leastPeriod text) := hD
          refine lv_goto (tgt := 169) hx hb dX8_takes_240 (by decide) ?_
          exact ih (spot + 1) figures s1 hP hD hS (lv_sub hl [0] rfl) hf
        unfold f_X8_takes_169b at hf
        refine lv_aload_n hx hb dX8_takes_169 rfl (lv_at hl 0 rfl) ?_
        refine lv_bipush (v := 48) hx hb dX8_takes_170 (by decide) ?_
        refine lv_bipush (v := 57) hx hb dX8_takes_172 (by decide) ?_
        obtain ⟨r_1, hq_2, hf⟩ := ob1_some hf
        refine vm_cVi (isC := [0, 1]) (wc := (wd_X8_isAt Γ q0 q1 d0 d1 d2 d3 d4 d5 d6 d7 d8 d9 d10 d11 d12 d13 length undoMany zeroKept oneKept seen spot kind begin letters figures value plated driven rows periods leastPeriod text)) (w1 := (wd_X8_isAt Γ q0 q1 d0 d1 d2 d3 d4 d5 d6 d7 d8 d9 d10 d11 d12 d13 length undoMany zeroKept oneKept seen spot kind begin letters figures value plated driven rows periods leastPeriod text)) (As := [.int 48, .int 57]) (rest := []) ⟨hx, hb, hml, hown, hts⟩ hE hP hD hS hA rfl rfl rfl (c_X8_isAt l Γ _ q0 q1 d0 d1 d2 d3 d4 d5 d6 d7 d8 d9 d10 d11 d12 d13 length undoMany zeroKept oneKept seen spot kind begin letters figures value plated driven rows periods leastPeriod text 48 57 r_1 hq_2) (cwV 2 hts gX8_takes_X8_isAt rfl rfl rfl (by decide +kernel) ⟨Nat.le_of_ble_eq_true rfl, Nat.le_of_ble_eq_true rfl⟩) (va_recv (ci := 8) (q0 := 0) hK hP rfl rfl) rfl hl.1 rfl (Nat.le_of_ble_eq_true rfl) dX8_takes_174 ⟨Nat.zero_le _, Nat.zero_le _⟩ (fun H locs hP hD hS => ?_)
        have hP : va_P Γ.1 vwCl (wd_X8_takes Γ q0 q1 d0 d1 d2 d3 d4 d5 d6 d7 d8 d9 d10 d11 d12 d13 length undoMany zeroKept oneKept seen spot kind begin letters figures value plated driven rows periods leastPeriod text) H := hP
        have hD : va_D A (wd_X8_takes Γ q0 q1 d0 d1 d2 d3 d4 d5 d6 d7 d8 d9 d10 d11 d12 d13 length undoMany zeroKept oneKept seen spot kind begin letters figures value plated driven rows periods leastPeriod text) := hD
        refine lv_if_eq (tgt := 273) hx hb dX8_takes_177 (by decide) (fun hc_3 => ?_) (fun hc_3 => ?_)
        · have hf := vm_pos hc_3 hf
          have hX := hX169
          rw [← Option.some.inj hf] at hX
          exact K_273 spot kind begin letters figures value hP hD hS (lv_sub hl [] rfl) hX
        · have hf := vm_neg hc_3 hf
          refine lv_aload_n hx hb dX8_takes_180 rfl (lv_at hl 0 rfl) ?_
          refine lv_dup hx hb dX8_takes_181 rfl ?_
          refine va_get (D := Γ.1) (ci := 8) (v := .int figures) (C := RX8) (T := TX8) (N := 31) hx hb hts hi8 hown hK hP 0 rfl rfl 16 (by decide) (hts (.fieldLink RX8 83 "SandPlatesModel" "figures" "I") (List.mem_of_getElem? (i := 4) rfl)) (fun _ h9 => h9) rfl dX8_takes_182 ?_
          refine lv_iconst (v := 1) hx hb dX8_takes_185 (by decide) ?_
          refine lv_iadd hx hb dX8_takes_186 ?_
          refine va_put (D := Γ.1) (ci := 8) (v := .int (figures + 1)) (ty := .int) (C := RX8) (T := TX8) (N := 31) hx hb hts hi8 tyX8 tyX8_ok nmX8 hown hK hP hD hS 0 rfl rfl 16 (by decide) (hts (.fieldLink RX8 83 "SandPlatesModel" "figures" "I") (List.mem_of_getElem? (i := 4) rfl)) (fun _ h9 => h9) rfl (by decide +kernel) rfl rfl (Nat.le_of_ble_eq_true rfl) dX8_takes_187 (fun H locs hP hD hS => ?_)
          have hP : va_P Γ.1 vwCl (wd_X8_takes Γ q0 q1 d0 d1 d2 d3 d4 d5 d6 d7 d8 d9 d10 d11 d12 d13 length undoMany zeroKept oneKept seen spot kind begin letters (figures + 1) value plated driven rows periods leastPeriod text) H := hP
          have hD : va_D A (wd_X8_takes Γ q0 q1 d0 d1 d2 d3 d4 d5 d6 d7 d8 d9 d10 d11 d12 d13 length undoMany zeroKept oneKept seen spot kind begin letters (figures + 1) value plated driven rows periods leastPeriod text) := hD
          refine lv_aload_n hx hb dX8_takes_190 rfl (lv_at hl 0 rfl) ?_
          refine lv_aload_n hx hb dX8_takes_191 rfl (lv_at hl 0 rfl) ?_
          refine va_get (D := Γ.1) (ci := 8) (v := .int (figures + 1)) (C := RX8) (T := TX8) (N := 31) hx hb hts hi8 hown hK hP 0 rfl rfl 16 (by decide) (hts (.fieldLink RX8 83 "SandPlatesModel" "figures" "I") (List.mem_of_getElem? (i := 4) rfl)) (fun _ h9 => h9) rfl dX8_takes_192 ?_
          refine lv_bipush (v := 8) hx hb dX8_takes_195 (by decide) ?_
          refine lv_icmp_ge (tgt := 223) hx hb dX8_takes_197 (by decide) (fun hc_4 => ?_) (fun hc_4 => ?_)
          · have hf := vm_pos hc_4 hf
            refine lv_aload_n hx hb dX8_takes_223 rfl (lv_at hl 0 rfl) ?_
            refine va_get (D := Γ.1) (ci := 8) (v := .int value) (C := RX8) (T := TX8) (N := 31) hx hb hts hi8 hown hK hP 0 rfl rfl 17 (by decide) (hts (.fieldLink RX8 86 "SandPlatesModel" "value" "I") (List.mem_of_getElem? (i := 5) rfl)) (fun _ h9 => h9) rfl dX8_takes_224 ?_
            exact K_227 spot (figures + 1) value hP hD hS (lv_sub hl [0] rfl) hf
          · have hf := vm_neg hc_4 hf
            refine lv_bipush (v := 10) hx hb dX8_takes_200 (by decide) ?_
            refine lv_aload_n hx hb dX8_takes_202 rfl (lv_at hl 0 rfl) ?_
            refine va_get (D := Γ.1) (ci := 8) (v := .int value) (C := RX8) (T := TX8) (N := 31) hx hb hts hi8 hown hK hP 0 rfl rfl 17 (by decide) (hts (.fieldLink RX8 86 "SandPlatesModel" "value" "I") (List.mem_of_getElem? (i := 5) rfl)) (fun _ h9 => h9) rfl dX8_takes_203 ?_
            refine lv_imul hx hb dX8_takes_206 ?_
            refine lv_aload_n hx hb dX8_takes_207 rfl (lv_at hl 0 rfl) ?_
            refine va_get (D := Γ.1) (ci := 8) (v := .ref q1) (C := RX8) (T := TX8) (N := 31) hx hb hts hi8 hown hK hP 0 rfl rfl 1 (by decide) (hts (.fieldLink RX8 7 "SandPlatesModel" "text" "[I") (List.mem_of_getElem? (i := 9) rfl)) (fun _ h9 => h9) rfl dX8_takes_208 ?_
            refine lv_aload_n hx hb dX8_takes_211 rfl (lv_at hl 0 rfl) ?_
            refine va_get (D := Γ.1) (ci := 8) (v := .int spot) (C := RX8) (T := TX8) (N := 31) hx hb hts hi8 hown hK hP 0 rfl rfl 12 (by decide) (hts (.fieldLink RX8 69 "SandPlatesModel" "spot" "I") (List.mem_of_getElem? (i := 1) rfl)) (fun _ h9 => h9) rfl dX8_takes_212 ?_
            obtain ⟨hc_5, hf⟩ := vm_ck hf
            refine vm_iald hx hb hK hP 1 0 rfl rfl hc_5 (j := spot.toNatClampNeg) rfl dX8_takes_215 ?_
            refine lv_iadd hx hb dX8_takes_216 ?_
            refine lv_bipush (v := 48) hx hb dX8_takes_217 (by decide) ?_
            refine lv_isub hx hb dX8_takes_219 ?_
            refine lv_goto (tgt := 227) hx hb dX8_takes_220 (by decide) ?_
            exact K_227 spot (figures + 1) (((10 * value) + (text (spot.toNatClampNeg))) - 48) hP hD hS (lv_sub hl [0] rfl) hf
    exact LP FU spot figures value hP hD hS hl h1
  have K_82 : ∀ (spot : Int32) (kind : Int32) (begin : Int32) (letters : Int64) (figures : Int32) (value : Int32) {H : Heap} {locs : List Loc} {ls : Array Slot}, va_P Γ.1 vwCl (wd_X8_takes Γ q0 q1 d0 d1 d2 d3 d4 d5 d6 d7 d8 d9 d10 d11 d12 d13 length undoMany zeroKept oneKept seen spot kind begin letters figures value plated driven rows periods leastPeriod text) H → va_D A (wd_X8_takes Γ q0 q1 d0 d1 d2 d3 d4 d5 d6 d7 d8 d9 d10 d11 d12 d13 length undoMany zeroKept oneKept seen spot kind begin letters figures value plated driven rows periods leastPeriod text) → va_S A s.heap H locs → lv_has ls 1 [(0, .ref q0)] → f_X8_takes_82 length spot kind begin letters figures value text = some out → W p l e ({ frames := 2, cells := 0, slots := 0, locals := 47 } : Room) s m ([.ref q0] : List Value).toArray below meth c H locs 0 0 QQ (F0 m 82 ls []) := by
    intro spot kind begin letters figures value H locs ls hP hD hS hl hf
    unfold f_X8_takes_82 at hf
    obtain ⟨ex82, h1, hX82⟩ := obx_some hf
    have LP : ∀ (n : Nat) (spot : Int32) (letters : Int64)  {H : Heap} {locs : List Loc} {ls : Array Slot}, va_P Γ.1 vwCl (wd_X8_takes Γ q0 q1 d0 d1 d2 d3 d4 d5 d6 d7 d8 d9 d10 d11 d12 d13 length undoMany zeroKept oneKept seen spot kind begin letters figures value plated driven rows periods leastPeriod text) H → va_D A (wd_X8_takes Γ q0 q1 d0 d1 d2 d3 d4 d5 d6 d7 d8 d9 d10 d11 d12 d13 length undoMany zeroKept oneKept seen spot kind begin letters figures value plated driven rows periods leastPeriod text) → va_S A s.heap H locs → lv_has ls 1 [(0, .ref q0)] → vm_it (f_X8_takes_82s length kind begin figures value text) n (spot, letters) = some ex82 → W p l e ({ frames := 2, cells := 0, slots := 0, locals := 47 } : Room) s m ([.ref q0] : List Value).toArray below meth c H locs 0 0 QQ (F0 m 82 ls []) := by
      clear hP hD hS hl hf h1
      intro n
      induction n with
      | zero => intro spot letters H locs ls hP hD hS hl hf; exact (vm_it_0 hf).elim
      | succ n ih =>
        intro spot letters H locs ls hP hD hS hl hf
        have hf : f_X8_takes_82b length kind begin figures value text spot letters (vm_it (f_X8_takes_82s length kind begin figures value text) n) = some ex82 := hf
        have K_137 : ∀ (spot : Int32) (s1 : Int64) {letters : Int64} {H : Heap} {locs : List Loc} {ls : Array Slot}, va_P Γ.1 vwCl (wd_X8_takes Γ q0 q1 d0 d1 d2 d3 d4 d5 d6 d7 d8 d9 d10 d11 d12 d13 length undoMany zeroKept oneKept seen spot kind begin letters figures value plated driven rows periods leastPeriod text) H → va_D A (wd_X8_takes Γ q0 q1 d0 d1 d2 d3 d4 d5 d6 d7 d8 d9 d10 d11 d12 d13 length undoMany zeroKept oneKept seen spot kind begin letters figures value plated driven rows periods leastPeriod text) → va_S A s.heap H locs → lv_has ls 1 [(0, .ref q0)] → f_X8_takes_137 length spot kind begin figures value text s1 (vm_it (f_X8_takes_82s length kind begin figures value text) n) = some ex82 → W p l e ({ frames := 2, cells := 0, slots := 0, locals := 47 } : Room) s m ([.ref q0] : List Value).toArray below meth c H locs 0 0 QQ (F0 m 137 ls [.long s1, .ref q0]) := by
          intro spot s1 letters H locs ls hP hD hS hl hf
          unfold f_X8_takes_137 at hf
          refine va_put (D := Γ.1) (ci := 8) (v := .long s1) (ty := .long) (C := RX8) (T := TX8) (N := 31) hx hb hts hi8 tyX8 tyX8_ok nmX8 hown hK hP hD hS 0 rfl rfl 15 (by decide) (hts (.fieldLink RX8 79 "SandPlatesModel" "letters" "J") (List.mem_of_getElem? (i := 3) rfl)) (fun _ h9 => h9) rfl (by decide +kernel) rfl rfl (Nat.le_of_ble_eq_true rfl) dX8_takes_137 (fun H locs hP hD hS => ?_)
          have hP : va_P Γ.1 vwCl (wd_X8_takes Γ q0 q1 d0 d1 d2 d3 d4 d5 d6 d7 d8 d9 d10 d11 d12 d13 length undoMany zeroKept oneKept seen spot kind begin s1 figures value plated driven rows periods leastPeriod text) H := hP
          have hD : va_D A (wd_X8_takes Γ q0 q1 d0 d1 d2 d3 d4 d5 d6 d7 d8 d9 d10 d11 d12 d13 length undoMany zeroKept oneKept seen spot kind begin s1 figures value plated driven rows periods leastPeriod text) := hD
          refine lv_aload_n hx hb dX8_takes_140 rfl (lv_at hl 0 rfl) ?_
          refine lv_dup hx hb dX8_takes_141 rfl ?_
          refine va_get (D := Γ.1) (ci := 8) (v := .int spot) (C := RX8) (T := TX8) (N := 31) hx hb hts hi8 hown hK hP 0 rfl rfl 12 (by decide) (hts (.fieldLink RX8 69 "SandPlatesModel" "spot" "I") (List.mem_of_getElem? (i := 1) rfl)) (fun _ h9 => h9) rfl dX8_takes_142 ?_
          refine lv_iconst (v := 1) hx hb dX8_takes_145 (by decide) ?_
          refine lv_iadd hx hb dX8_takes_146 ?_
          refine va_put (D := Γ.1) (ci := 8) (v := .int (spot + 1)) (ty := .int) (C := RX8) (T := TX8) (N := 31) hx hb hts hi8 tyX8 tyX8_ok nmX8 hown hK hP hD hS 0 rfl rfl 12 (by decide) (hts (.fieldLink RX8 69 "SandPlatesModel" "spot" "I") (List.mem_of_getElem? (i := 1) rfl)) (fun _ h9 => h9) rfl (by decide +kernel) rfl rfl (Nat.le_of_ble_eq_true rfl) dX8_takes_147 (fun H locs hP hD hS => ?_)
          have hP : va_P Γ.1 vwCl (wd_X8_takes Γ q0 q1 d0 d1 d2 d3 d4 d5 d6 d7 d8 d9 d10 d11 d12 d13 length undoMany zeroKept oneKept seen (spot + 1) kind begin s1 figures value plated driven rows periods leastPeriod text) H := hP
          have hD : va_D A (wd_X8_takes Γ q0 q1 d0 d1 d2 d3 d4 d5 d6 d7 d8 d9 d10 d11 d12 d13 length undoMany zeroKept oneKept seen (spot + 1) kind begin s1 figures value plated driven rows periods leastPeriod text) := hD
          refine lv_goto (tgt := 82) hx hb dX8_takes_150 (by decide) ?_
          exact ih (spot + 1) s1 hP hD hS (lv_sub hl [0] rfl) hf
        unfold f_X8_takes_82b at hf
        refine lv_aload_n hx hb dX8_takes_82 rfl (lv_at hl 0 rfl) ?_
        refine lv_bipush (v := 97) hx hb dX8_takes_83 (by decide) ?_
        refine lv_bipush (v := 122) hx hb dX8_takes_85 (by decide) ?_
        obtain ⟨r_6, hq_7, hf⟩ := ob1_some hf
        refine vm_cVi (isC := [0, 1]) (wc := (wd_X8_isAt Γ q0 q1 d0 d1 d2 d3 d4 d5 d6 d7 d8 d9 d10 d11 d12 d13 length undoMany zeroKept oneKept seen spot kind begin letters figures value plated driven rows periods leastPeriod text)) (w1 := (wd_X8_isAt Γ q0 q1 d0 d1 d2 d3 d4 d5 d6 d7 d8 d9 d10 d11 d12 d13 length undoMany zeroKept oneKept seen spot kind begin letters figures value plated driven rows periods leastPeriod text)) (As := [.int 97, .int 122]) (rest := []) ⟨hx, hb, hml, hown, hts⟩ hE hP hD hS hA rfl rfl rfl (c_X8_isAt l Γ _ q0 q1 d0 d1 d2 d3 d4 d5 d6 d7 d8 d9 d10 d11 d12 d13 length undoMany zeroKept oneKept seen spot kind begin letters figures value plated driven rows periods leastPeriod text 97 122 r_6 hq_7) (cwV 2 hts gX8_takes_X8_isAt rfl rfl rfl (by decide +kernel) ⟨Nat.le_of_ble_eq_true rfl, Nat.le_of_ble_eq_true rfl⟩) (va_recv (ci := 8) (q0 := 0) hK hP rfl rfl) rfl hl.1 rfl (Nat.le_of_ble_eq_true rfl) dX8_takes_87 ⟨Nat.zero_le _, Nat.zero_le _⟩ (fun H locs hP hD hS => ?_)
        have hP : va_P Γ.1 vwCl (wd_X8_takes Γ q0 q1 d0 d1 d2 d3 d4 d5 d6 d7 d8 d9 d10 d11 d12 d13 length undoMany zeroKept oneKept seen spot kind begin letters figures value plated driven rows periods leastPeriod text) H := hP
        have hD : va_D A (wd_X8_takes Γ q0 q1 d0 d1 d2 d3 d4 d5 d6 d7 d8 d9 d10 d11 d12 d13 length undoMany zeroKept oneKept seen spot kind begin letters figures value plated driven rows periods leastPeriod text) := hD
        refine lv_if_eq (tgt := 273) hx hb dX8_takes_90 (by decide) (fun hc_8 => ?_) (fun hc_8 => ?_)
        · have hf := vm_pos hc_8 hf
          have hX := hX82
          rw [← Option.some.inj hf] at hX
          exact K_273 spot kind begin letters figures value hP hD hS (lv_sub hl [] rfl) hX
        · have hf := vm_neg hc_8 hf
          refine lv_aload_n hx hb dX8_takes_93 rfl (lv_at hl 0 rfl) ?_
          refine lv_aload_n hx hb dX8_takes_94 rfl (lv_at hl 0 rfl) ?_
          refine va_get (D := Γ.1) (ci := 8) (v := .int spot) (C := RX8) (T := TX8) (N := 31) hx hb hts hi8 hown hK hP 0 rfl rfl 12 (by decide) (hts (.fieldLink RX8 69 "SandPlatesModel" "spot" "I") (List.mem_of_getElem? (i := 1) rfl)) (fun _ h9 => h9) rfl dX8_takes_95 ?_
          refine lv_aload_n hx hb dX8_takes_98 rfl (lv_at hl 0 rfl) ?_
          refine va_get (D := Γ.1) (ci := 8) (v := .int begin) (C := RX8) (T := TX8) (N := 31) hx hb hts hi8 hown hK hP 0 rfl rfl 14 (by decide) (hts (.fieldLink RX8 76 "SandPlatesModel" "begin" "I") (List.mem_of_getElem? (i := 2) rfl)) (fun _ h9 => h9) rfl dX8_takes_99 ?_
          refine lv_isub hx hb dX8_takes_102 ?_
          refine lv_bipush (v := 9) hx hb dX8_takes_103 (by decide) ?_
          refine lv_icmp_ge (tgt := 134) hx hb dX8_takes_105 (by decide) (fun hc_9 => ?_) (fun hc_9 => ?_)
          · have hf := vm_pos hc_9 hf
            refine lv_ldc2 hx hb hown (hts (.constantLong RX8 96 (-1)) (List.mem_of_getElem? (i := 11) rfl)) dX8_takes_134 ?_
            exact K_137 spot (-1) hP hD hS (lv_sub hl [0] rfl) hf
          · have hf := vm_neg hc_9 hf
            refine lv_ldc2 hx hb hown (hts (.constantLong RX8 92 (32)) (List.mem_of_getElem? (i := 8) rfl)) dX8_takes_108 ?_
            refine lv_aload_n hx hb dX8_takes_111 rfl (lv_at hl 0 rfl) ?_
            refine va_get (D := Γ.1) (ci := 8) (v := .long letters) (C := RX8) (T := TX8) (N := 31) hx hb hts hi8 hown hK hP 0 rfl rfl 15 (by decide) (hts (.fieldLink RX8 79 "SandPlatesModel" "letters" "J") (List.mem_of_getElem? (i := 3) rfl)) (fun _ h9 => h9) rfl dX8_takes_112 ?_
            refine lv_lmul hx hb dX8_takes_115 ?_
            refine lv_aload_n hx hb dX8_takes_116 rfl (lv_at hl 0 rfl) ?_
            refine va_get (D := Γ.1) (ci := 8) (v := .ref q1) (C := RX8) (T := TX8) (N := 31) hx hb hts hi8 hown hK hP 0 rfl rfl 1 (by decide) (hts (.fieldLink RX8 7 "SandPlatesModel" "text" "[I") (List.mem_of_getElem? (i := 9) rfl)) (fun _ h9 => h9) rfl dX8_takes_117 ?_
            refine lv_aload_n hx hb dX8_takes_120 rfl (lv_at hl 0 rfl) ?_
            refine va_get (D := Γ.1) (ci := 8) (v := .int spot) (C := RX8) (T := TX8) (N := 31) hx hb hts hi8 hown hK hP 0 rfl rfl 12 (by decide) (hts (.fieldLink RX8 69 "SandPlatesModel" "spot" "I") (List.mem_of_getElem? (i := 1) rfl)) (fun _ h9 => h9) rfl dX8_takes_121 ?_
            obtain ⟨hc_10, hf⟩ := vm_ck hf
            refine vm_iald hx hb hK hP 1 0 rfl rfl hc_10 (j := spot.toNatClampNeg) rfl dX8_takes_124 ?_
            refine lv_i2l hx hb dX8_takes_125 rfl ?_
            refine lv_ladd hx hb dX8_takes_126 ?_
            refine lv_ldc2 hx hb hown (hts (.constantLong RX8 94 (96)) (List.mem_of_getElem? (i := 10) rfl)) dX8_takes_127 ?_
            refine lv_lsub hx hb dX8_takes_130 ?_
            refine lv_goto (tgt := 137) hx hb dX8_takes_131 (by decide) ?_
            exact K_137 spot (((32 * letters) + ((text (spot.toNatClampNeg)).toInt64)) - 96) hP hD hS (lv_sub hl [0] rfl) hf
    exact LP FU spot letters hP hD hS hl h1
  have K_24 : ∀ (spot : Int32) {kind : Int32} {begin : Int32} {letters : Int64} {figures : Int32} {value : Int32} {H : Heap} {locs : List Loc} {ls : Array Slot}, va_P Γ.1 vwCl (wd_X8_takes Γ q0 q1 d0 d1 d2 d3 d4 d5 d6 d7 d8 d9 d10 d11 d12 d13 length undoMany zeroKept oneKept seen spot kind begin letters figures value plated driven rows periods leastPeriod text) H → va_D A (wd_X8_takes Γ q0 q1 d0 d1 d2 d3 d4 d5 d6 d7 d8 d9 d10 d11 d12 d13 length undoMany zeroKept oneKept seen spot kind begin letters figures value plated driven rows periods leastPeriod text) → va_S A s.heap H locs → lv_has ls 1 [(0, .ref q0)] → f_X8_takes_24 length spot text = some out → W p l e ({ frames := 2, cells := 0, slots := 0, locals := 47 } : Room) s m ([.ref q0] : List Value).toArray below meth c H locs 0 0 QQ (F0 m 24 ls []) := by
    intro spot kind begin letters figures value H locs ls hP hD hS hl hf
    unfold f_X8_takes_24 at hf
    refine lv_aload_n hx hb dX8_takes_24 rfl (lv_at hl 0 rfl) ?_
    refine lv_aload_n hx hb dX8_takes_25 rfl (lv_at hl 0 rfl) ?_
    refine va_get (D := Γ.1) (ci := 8) (v := .int spot) (C := RX8) (T := TX8) (N := 31) hx hb hts hi8 hown hK hP 0 rfl rfl 12 (by decide) (hts (.fieldLink RX8 69 "SandPlatesModel" "spot" "I") (List.mem_of_getElem? (i := 1) rfl)) (fun _ h9 => h9) rfl dX8_takes_26 ?_
    refine va_put (D := Γ.1) (ci := 8) (v := .int spot) (ty := .int) (C := RX8) (T := TX8) (N := 31) hx hb hts hi8 tyX8 tyX8_ok nmX8 hown hK hP hD hS 0 rfl rfl 14 (by decide) (hts (.fieldLink RX8 76 "SandPlatesModel" "begin" "I") (List.mem_of_getElem? (i := 2) rfl)) (fun _ h9 => h9) rfl (by decide +kernel) rfl rfl (Nat.le_of_ble_eq_true rfl) dX8_takes_29 (fun H locs hP hD hS => ?_)
    have hP : va_P Γ.1 vwCl (wd_X8_takes Γ q0 q1 d0 d1 d2 d3 d4 d5 d6 d7 d8 d9 d10 d11 d12 d13 length undoMany zeroKept oneKept seen spot kind spot letters figures value plated driven rows periods leastPeriod text) H := hP
    have hD : va_D A (wd_X8_takes Γ q0 q1 d0 d1 d2 d3 d4 d5 d6 d7 d8 d9 d10 d11 d12 d13 length undoMany zeroKept oneKept seen spot kind spot letters figures value plated driven rows periods leastPeriod text) := hD
    refine lv_aload_n hx hb dX8_takes_32 rfl (lv_at hl 0 rfl) ?_
    refine lv_lconst (v := 0) hx hb dX8_takes_33 (by decide) ?_
    refine va_put (D := Γ.1) (ci := 8) (v := .long 0) (ty := .long) (C := RX8) (T := TX8) (N := 31) hx hb hts hi8 tyX8 tyX8_ok nmX8 hown hK hP hD hS 0 rfl rfl 15 (by decide) (hts (.fieldLink RX8 79 "SandPlatesModel" "letters" "J") (List.mem_of_getElem? (i := 3) rfl)) (fun _ h9 => h9) rfl (by decide +kernel) rfl rfl (Nat.le_of_ble_eq_true rfl) dX8_takes_34 (fun H locs hP hD hS => ?_)
    have hP : va_P Γ.1 vwCl (wd_X8_takes Γ q0 q1 d0 d1 d2 d3 d4 d5 d6 d7 d8 d9 d10 d11 d12 d13 length undoMany zeroKept oneKept seen spot kind spot 0 figures value plated driven rows periods leastPeriod text) H := hP
    have hD : va_D A (wd_X8_takes Γ q0 q1 d0 d1 d2 d3 d4 d5 d6 d7 d8 d9 d10 d11 d12 d13 length undoMany zeroKept oneKept seen spot kind spot 0 figures value plated driven rows periods leastPeriod text) := hD
    refine lv_aload_n hx hb dX8_takes_37 rfl (lv_at hl 0 rfl) ?_
    refine lv_iconst (v := 0) hx hb dX8_takes_38 (by decide) ?_
    refine va_put (D := Γ.1) (ci := 8) (v := .int 0) (ty := .int) (C := RX8) (T := TX8) (N := 31) hx hb hts hi8 tyX8 tyX8_ok nmX8 hown hK hP hD hS 0 rfl rfl 16 (by decide) (hts (.fieldLink RX8 83 "SandPlatesModel" "figures" "I") (List.mem_of_getElem? (i := 4) rfl)) (fun _ h9 => h9) rfl (by decide +kernel) rfl rfl (Nat.le_of_ble_eq_true rfl) dX8_takes_39 (fun H locs hP hD hS => ?_)
    have hP : va_P Γ.1 vwCl (wd_X8_takes Γ q0 q1 d0 d1 d2 d3 d4 d5 d6 d7 d8 d9 d10 d11 d12 d13 length undoMany zeroKept oneKept seen spot kind spot 0 0 value plated driven rows periods leastPeriod text) H := hP
    have hD : va_D A (wd_X8_takes Γ q0 q1 d0 d1 d2 d3 d4 d5 d6 d7 d8 d9 d10 d11 d12 d13 length undoMany zeroKept oneKept seen spot kind spot 0 0 value plated driven rows periods leastPeriod text) := hD
    refine lv_aload_n hx hb dX8_takes_42 rfl (lv_at hl 0 rfl) ?_
    refine lv_iconst (v := 0) hx hb dX8_takes_43 (by decide) ?_
    refine va_put (D := Γ.1) (ci := 8) (v := .int 0) (ty := .int) (C := RX8) (T := TX8) (N := 31) hx hb hts hi8 tyX8 tyX8_ok nmX8 hown hK hP hD hS 0 rfl rfl 17 (by decide) (hts (.fieldLink RX8 86 "SandPlatesModel" "value" "I") (List.mem_of_getElem? (i := 5) rfl)) (fun _ h9 => h9) rfl (by decide +kernel) rfl rfl (Nat.le_of_ble_eq_true rfl) dX8_takes_44 (fun H locs hP hD hS => ?_)
    have hP : va_P Γ.1 vwCl (wd_X8_takes Γ q0 q1 d0 d1 d2 d3 d4 d5 d6 d7 d8 d9 d10 d11 d12 d13 length undoMany zeroKept oneKept seen spot kind spot 0 0 0 plated driven rows periods leastPeriod text) H := hP
    have hD : va_D A (wd_X8_takes Γ q0 q1 d0 d1 d2 d3 d4 d5 d6 d7 d8 d9 d10 d11 d12 d13 length undoMany zeroKept oneKept seen spot kind spot 0 0 0 plated driven rows periods leastPeriod text) := hD
    refine lv_aload_n hx hb dX8_takes_47 rfl (lv_at hl 0 rfl) ?_
    refine va_get (D := Γ.1) (ci := 8) (v := .int spot) (C := RX8) (T := TX8) (N := 31) hx hb hts hi8 hown hK hP 0 rfl rfl 12 (by decide) (hts (.fieldLink RX8 69 "SandPlatesModel" "spot" "I") (List.mem_of_getElem? (i := 1) rfl)) (fun _ h9 => h9) rfl dX8_takes_48 ?_
    refine lv_aload_n hx hb dX8_takes_51 rfl (lv_at hl 0 rfl) ?_
    refine va_get (D := Γ.1) (ci := 8) (v := .int length) (C := RX8) (T := TX8) (N := 31) hx hb hts hi8 hown hK hP 0 rfl rfl 0 (by decide) (hts (.fieldLink RX8 65 "SandPlatesModel" "length" "I") (List.mem_of_getElem? (i := 6) rfl)) (fun _ h9 => h9) rfl dX8_takes_52 ?_
    refine lv_icmp_ne (tgt := 66) hx hb dX8_takes_55 (by decide) (fun hc_11 => ?_) (fun hc_11 => ?_)
    · have hf := vm_neg hc_11 hf
      refine lv_aload_n hx hb dX8_takes_66 rfl (lv_at hl 0 rfl) ?_
      refine lv_bipush (v := 97) hx hb dX8_takes_67 (by decide) ?_
      refine lv_bipush (v := 122) hx hb dX8_takes_69 (by decide) ?_
      obtain ⟨r_12, hq_13, hf⟩ := ob1_some hf
      refine vm_cVi (isC := [0, 1]) (wc := (wd_X8_isAt Γ q0 q1 d0 d1 d2 d3 d4 d5 d6 d7 d8 d9 d10 d11 d12 d13 length undoMany zeroKept oneKept seen spot kind spot 0 0 0 plated driven rows periods leastPeriod text)) (w1 := (wd_X8_isAt Γ q0 q1 d0 d1 d2 d3 d4 d5 d6 d7 d8 d9 d10 d11 d12 d13 length undoMany zeroKept oneKept seen spot kind spot 0 0 0 plated driven rows periods leastPeriod text)) (As := [.int 97, .int 122]) (rest := []) ⟨hx, hb, hml, hown, hts⟩ hE hP hD hS hA rfl rfl rfl (c_X8_isAt l Γ _ q0 q1 d0 d1 d2 d3 d4 d5 d6 d7 d8 d9 d10 d11 d12 d13 length undoMany zeroKept oneKept seen spot kind spot 0 0 0 plated driven rows periods leastPeriod text 97 122 r_12 hq_13) (cwV 2 hts gX8_takes_X8_isAt rfl rfl rfl (by decide +kernel) ⟨Nat.le_of_ble_eq_true rfl, Nat.le_of_ble_eq_true rfl⟩) (va_recv (ci := 8) (q0 := 0) hK hP rfl rfl) rfl hl.1 rfl (Nat.le_of_ble_eq_true rfl) dX8_takes_71 ⟨Nat.zero_le _, Nat.zero_le _⟩ (fun H locs hP hD hS => ?_)
      have hP : va_P Γ.1 vwCl (wd_X8_takes Γ q0 q1 d0 d1 d2 d3 d4 d5 d6 d7 d8 d9 d10 d11 d12 d13 length undoMany zeroKept oneKept seen spot kind spot 0 0 0 plated driven rows periods leastPeriod text) H := hP
      have hD : va_D A (wd_X8_takes Γ q0 q1 d0 d1 d2 d3 d4 d5 d6 d7 d8 d9 d10 d11 d12 d13 length undoMany zeroKept oneKept seen spot kind spot 0 0 0 plated driven rows periods leastPeriod text) := hD
      refine lv_if_eq (tgt := 153) hx hb dX8_takes_74 (by decide) (fun hc_14 => ?_) (fun hc_14 => ?_)
      · have hf := vm_pos hc_14 hf
        refine lv_aload_n hx hb dX8_takes_153 rfl (lv_at hl 0 rfl) ?_
        refine lv_bipush (v := 48) hx hb dX8_takes_154 (by decide) ?_
        refine lv_bipush (v := 57) hx hb dX8_takes_156 (by decide) ?_
        obtain ⟨r_15, hq_16, hf⟩ := ob1_some hf
        refine vm_cVi (isC := [0, 1]) (wc := (wd_X8_isAt Γ q0 q1 d0 d1 d2 d3 d4 d5 d6 d7 d8 d9 d10 d11 d12 d13 length undoMany zeroKept oneKept seen spot kind spot 0 0 0 plated driven rows periods leastPeriod text)) (w1 := (wd_X8_isAt Γ q0 q1 d0 d1 d2 d3 d4 d5 d6 d7 d8 d9 d10 d11 d12 d13 length undoMany zeroKept oneKept seen spot kind spot 0 0 0 plated driven rows periods leastPeriod text)) (As := [.int 48, .int 57]) (rest := []) ⟨hx, hb, hml, hown, hts⟩ hE hP hD hS hA rfl rfl rfl (c_X8_isAt l Γ _ q0 q1 d0 d1 d2 d3 d4 d5 d6 d7 d8 d9 d10 d11 d12 d13 length undoMany zeroKept oneKept seen spot kind spot 0 0 0 plated driven rows periods leastPeriod text 48 57 r_15 hq_16) (cwV 2 hts gX8_takes_X8_isAt rfl rfl rfl (by decide +kernel) ⟨Nat.le_of_ble_eq_true rfl, Nat.le_of_ble_eq_true rfl⟩) (va_recv (ci := 8) (q0 := 0) hK hP rfl rfl) rfl hl.1 rfl (Nat.le_of_ble_eq_true rfl) dX8_takes_158 ⟨Nat.zero_le _, Nat.zero_le _⟩ (fun H locs hP hD hS => ?_)
        have hP : va_P Γ.1 vwCl (wd_X8_takes Γ q0 q1 d0 d1 d2 d3 d4 d5 d6 d7 d8 d9 d10 d11 d12 d13 length undoMany zeroKept oneKept seen spot kind spot 0 0 0 plated driven rows periods leastPeriod text) H := hP
        have hD : va_D A (wd_X8_takes Γ q0 q1 d0 d1 d2 d3 d4 d5 d6 d7 d8 d9 d10 d11 d12 d13 length undoMany zeroKept oneKept seen spot kind spot 0 0 0 plated driven rows periods leastPeriod text) := hD
        refine lv_if_eq (tgt := 243) hx hb dX8_takes_161 (by decide) (fun hc_17 => ?_) (fun hc_17 => ?_)
        · have hf := vm_pos hc_17 hf
          refine lv_aload_n hx hb dX8_takes_243 rfl (lv_at hl 0 rfl) ?_
          refine lv_aload_n hx hb dX8_takes_244 rfl (lv_at hl 0 rfl) ?_
          refine lv_bipush (v := 59) hx hb dX8_takes_245 (by decide) ?_
          refine lv_bipush (v := 59) hx hb dX8_takes_247 (by decide) ?_
          obtain ⟨r_18, hq_19, hf⟩ := ob1_some hf
          refine vm_cVi (isC := [0, 1]) (wc := (wd_X8_isAt Γ q0 q1 d0 d1 d2 d3 d4 d5 d6 d7 d8 d9 d10 d11 d12 d13 length undoMany zeroKept oneKept seen spot kind spot 0 0 0 plated driven rows periods leastPeriod text)) (w1 := (wd_X8_isAt Γ q0 q1 d0 d1 d2 d3 d4 d5 d6 d7 d8 d9 d10 d11 d12 d13 length undoMany zeroKept oneKept seen spot kind spot 0 0 0 plated driven rows periods leastPeriod text)) (As := [.int 59, .int 59]) (rest := [.ref q0]) ⟨hx, hb, hml, hown, hts⟩ hE hP hD hS hA rfl rfl rfl (c_X8_isAt l Γ _ q0 q1 d0 d1 d2 d3 d4 d5 d6 d7 d8 d9 d10 d11 d12 d13 length undoMany zeroKept oneKept seen spot kind spot 0 0 0 plated driven rows periods leastPeriod text 59 59 r_18 hq_19) (cwV 2 hts gX8_takes_X8_isAt rfl rfl rfl (by decide +kernel) ⟨Nat.le_of_ble_eq_true rfl, Nat.le_of_ble_eq_true rfl⟩) (va_recv (ci := 8) (q0 := 0) hK hP rfl rfl) rfl hl.1 rfl (Nat.le_of_ble_eq_true rfl) dX8_takes_249 ⟨Nat.zero_le _, Nat.zero_le _⟩ (fun H locs hP hD hS => ?_)
          have hP : va_P Γ.1 vwCl (wd_X8_takes Γ q0 q1 d0 d1 d2 d3 d4 d5 d6 d7 d8 d9 d10 d11 d12 d13 length undoMany zeroKept oneKept seen spot kind spot 0 0 0 plated driven rows periods leastPeriod text) H := hP
          have hD : va_D A (wd_X8_takes Γ q0 q1 d0 d1 d2 d3 d4 d5 d6 d7 d8 d9 d10 d11 d12 d13 length undoMany zeroKept oneKept seen spot kind spot 0 0 0 plated driven rows periods leastPeriod text) := hD
          refine lv_if_eq (tgt := 259) hx hb dX8_takes_252 (by decide) (fun hc_20 => ?_) (fun hc_20 => ?_)
          · have hf := vm_pos hc_20 hf
            refine lv_iconst (v := 4) hx hb dX8_takes_259 (by decide) ?_
            exact K_260 spot spot 0 0 0 4 hP hD hS (lv_sub hl [0] rfl) hf
          · have hf := vm_neg hc_20 hf
            refine lv_iconst (v := 3) hx hb dX8_takes_255 (by decide) ?_
            refine lv_goto (tgt := 260) hx hb dX8_takes_256 (by decide) ?_
            exact K_260 spot spot 0 0 0 3 hP hD hS (lv_sub hl [0] rfl) hf
        · have hf := vm_neg hc_17 hf
          refine lv_aload_n hx hb dX8_takes_164 rfl (lv_at hl 0 rfl) ?_
          refine lv_iconst (v := 2) hx hb dX8_takes_165 (by decide) ?_
          refine va_put (D := Γ.1) (ci := 8) (v := .int 2) (ty := .int) (C := RX8) (T := TX8) (N := 31) hx hb hts hi8 tyX8 tyX8_ok nmX8 hown hK hP hD hS 0 rfl rfl 13 (by decide) (hts (.fieldLink RX8 89 "SandPlatesModel" "kind" "I") (List.mem_of_getElem? (i := 7) rfl)) (fun _ h9 => h9) rfl (by decide +kernel) rfl rfl (Nat.le_of_ble_eq_true rfl) dX8_takes_166 (fun H locs hP hD hS => ?_)
          have hP : va_P Γ.1 vwCl (wd_X8_takes Γ q0 q1 d0 d1 d2 d3 d4 d5 d6 d7 d8 d9 d10 d11 d12 d13 length undoMany zeroKept oneKept seen spot 2 spot 0 0 0 plated driven rows periods leastPeriod text) H := hP
          have hD : va_D A (wd_X8_takes Γ q0 q1 d0 d1 d2 d3 d4 d5 d6 d7 d8 d9 d10 d11 d12 d13 length undoMany zeroKept oneKept seen spot 2 spot 0 0 0 plated driven rows periods leastPeriod text) := hD
          exact K_169 spot 2 spot 0 0 0 hP hD hS (lv_sub hl [0] rfl) hf
      · have hf := vm_neg hc_14 hf
        refine lv_aload_n hx hb dX8_takes_77 rfl (lv_at hl 0 rfl) ?_
        refine lv_iconst (v := 1) hx hb dX8_takes_78 (by decide) ?_
        refine va_put (D := Γ.1) (ci := 8) (v := .int 1) (ty := .int) (C := RX8) (T := TX8) (N := 31) hx hb hts hi8 tyX8 tyX8_ok nmX8 hown hK hP hD hS 0 rfl rfl 13 (by decide) (hts (.fieldLink RX8 89 "SandPlatesModel" "kind" "I") (List.mem_of_getElem? (i := 7) rfl)) (fun _ h9 => h9) rfl (by decide +kernel) rfl rfl (Nat.le_of_ble_eq_true rfl) dX8_takes_79 (fun H locs hP hD hS => ?_)
        have hP : va_P Γ.1 vwCl (wd_X8_takes Γ q0 q1 d0 d1 d2 d3 d4 d5 d6 d7 d8 d9 d10 d11 d12 d13 length undoMany zeroKept oneKept seen spot 1 spot 0 0 0 plated driven rows periods leastPeriod text) H := hP
        have hD : va_D A (wd_X8_takes Γ q0 q1 d0 d1 d2 d3 d4 d5 d6 d7 d8 d9 d10 d11 d12 d13 length undoMany zeroKept oneKept seen spot 1 spot 0 0 0 plated driven rows periods leastPeriod text) := hD
        exact K_82 spot 1 spot 0 0 0 hP hD hS (lv_sub hl [0] rfl) hf
    · have hf := vm_pos hc_11 hf
      refine lv_aload_n hx hb dX8_takes_58 rfl (lv_at hl 0 rfl) ?_
      refine lv_iconst (v := 0) hx hb dX8_takes_59 (by decide) ?_
      refine va_put (D := Γ.1) (ci := 8) (v := .int 0) (ty := .int) (C := RX8) (T := TX8) (N := 31) hx hb hts hi8 tyX8 tyX8_ok nmX8 hown hK hP hD hS 0 rfl rfl 13 (by decide) (hts (.fieldLink RX8 89 "SandPlatesModel" "kind" "I") (List.mem_of_getElem? (i := 7) rfl)) (fun _ h9 => h9) rfl (by decide +kernel) rfl rfl (Nat.le_of_ble_eq_true rfl) dX8_takes_60 (fun H locs hP hD hS => ?_)
      have hP : va_P Γ.1 vwCl (wd_X8_takes Γ q0 q1 d0 d1 d2 d3 d4 d5 d6 d7 d8 d9 d10 d11 d12 d13 length undoMany zeroKept oneKept seen spot 0 spot 0 0 0 plated driven rows periods leastPeriod text) H := hP
      have hD : va_D A (wd_X8_takes Γ q0 q1 d0 d1 d2 d3 d4 d5 d6 d7 d8 d9 d10 d11 d12 d13 length undoMany zeroKept oneKept seen spot 0 spot 0 0 0 plated driven rows periods leastPeriod text) := hD
      refine lv_goto (tgt := 273) hx hb dX8_takes_63 (by decide) ?_
      exact K_273 spot 0 spot 0 0 0 hP hD hS (lv_sub hl [] rfl) hf
  have K_0 : ∀ (spot : Int32) {kind : Int32} {begin : Int32} {letters : Int64} {figures : Int32} {value : Int32} {H : Heap} {locs : List Loc} {ls : Array Slot}, va_P Γ.1 vwCl (wd_X8_takes Γ q0 q1 d0 d1 d2 d3 d4 d5 d6 d7 d8 d9 d10 d11 d12 d13 length undoMany zeroKept oneKept seen spot kind begin letters figures value plated driven rows periods leastPeriod text) H → va_D A (wd_X8_takes Γ q0 q1 d0 d1 d2 d3 d4 d5 d6 d7 d8 d9 d10 d11 d12 d13 length undoMany zeroKept oneKept seen spot kind begin letters figures value plated driven rows periods leastPeriod text) → va_S A s.heap H locs → lv_has ls 1 [(0, .ref q0)] → f_X8_takes_0 length spot text = some out → W p l e ({ frames := 2, cells := 0, slots := 0, locals := 47 } : Room) s m ([.ref q0] : List Value).toArray below meth c H locs 0 0 QQ (F0 m 0 ls []) := by
    intro spot kind begin letters figures value H locs ls hP hD hS hl hf
    unfold f_X8_takes_0 at hf
    obtain ⟨ex0, h1, hX0⟩ := obx_some hf
    have LP : ∀ (n : Nat) (spot : Int32)  {H : Heap} {locs : List Loc} {ls : Array Slot}, va_P Γ.1 vwCl (wd_X8_takes Γ q0 q1 d0 d1 d2 d3 d4 d5 d6 d7 d8 d9 d10 d11 d12 d13 length undoMany zeroKept oneKept seen spot kind begin letters figures value plated driven rows periods leastPeriod text) H → va_D A (wd_X8_takes Γ q0 q1 d0 d1 d2 d3 d4 d5 d6 d7 d8 d9 d10 d11 d12 d13 length undoMany zeroKept oneKept seen spot kind begin letters figures value plated driven rows periods leastPeriod text) → va_S A s.heap H locs → lv_has ls 1 [(0, .ref q0)] → vm_it (f_X8_takes_0s length text) n spot = some ex0 → W p l e ({ frames := 2, cells := 0, slots := 0, locals := 47 } : Room) s m ([.ref q0] : List Value).toArray below meth c H locs 0 0 QQ (F0 m 0 ls []) := by
      clear hP hD hS hl hf h1
      intro n
      induction n with
      | zero => intro spot H locs ls hP hD hS hl hf; exact (vm_it_0 hf).elim
      | succ n ih =>
        intro spot H locs ls hP hD hS hl hf
        have hf : f_X8_takes_0b length text spot (vm_it (f_X8_takes_0s length text) n) = some ex0 := hf
        unfold f_X8_takes_0b at hf
        refine lv_aload_n hx hb dX8_takes_0 rfl (lv_at hl 0 rfl) ?_
        refine lv_bipush (v := 32) hx hb dX8_takes_1 (by decide) ?_
        refine lv_bipush (v := 32) hx hb dX8_takes_3 (by decide) ?_
        obtain ⟨r_21, hq_22, hf⟩ := ob1_some hf
        refine vm_cVi (isC := [0, 1]) (wc := (wd_X8_isAt Γ q0 q1 d0 d1 d2 d3 d4 d5 d6 d7 d8 d9 d10 d11 d12 d13 length undoMany zeroKept oneKept seen spot kind begin letters figures value plated driven rows periods leastPeriod text)) (w1 := (wd_X8_isAt Γ q0 q1 d0 d1 d2 d3 d4 d5 d6 d7 d8 d9 d10 d11 d12 d13 length undoMany zeroKept oneKept seen spot kind begin letters figures value plated driven rows periods leastPeriod text)) (As := [.int 32, .int 32]) (rest := []) ⟨hx, hb, hml, hown, hts⟩ hE hP hD hS hA rfl rfl rfl (c_X8_isAt l Γ _ q0 q1 d0 d1 d2 d3 d4 d5 d6 d7 d8 d9 d10 d11 d12 d13 length undoMany zeroKept oneKept seen spot kind begin letters figures value plated driven rows periods leastPeriod text 32 32 r_21 hq_22) (cwV 2 hts gX8_takes_X8_isAt rfl rfl rfl (by decide +kernel) ⟨Nat.le_of_ble_eq_true rfl, Nat.le_of_ble_eq_true rfl⟩) (va_recv (ci := 8) (q0 := 0) hK hP rfl rfl) rfl hl.1 rfl (Nat.le_of_ble_eq_true rfl) dX8_takes_5 ⟨Nat.zero_le _, Nat.zero_le _⟩ (fun H locs hP hD hS => ?_)
        have hP : va_P Γ.1 vwCl (wd_X8_takes Γ q0 q1 d0 d1 d2 d3 d4 d5 d6 d7 d8 d9 d10 d11 d12 d13 length undoMany zeroKept oneKept seen spot kind begin letters figures value plated driven rows periods leastPeriod text) H := hP
        have hD : va_D A (wd_X8_takes Γ q0 q1 d0 d1 d2 d3 d4 d5 d6 d7 d8 d9 d10 d11 d12 d13 length undoMany zeroKept oneKept seen spot kind begin letters figures value plated driven rows periods leastPeriod text) := hD
        refine lv_if_eq (tgt := 24) hx hb dX8_takes_8 (by decide) (fun hc_23 => ?_) (fun hc_23 => ?_)
        · have hf := vm_pos hc_23 hf
          have hX := hX0
          rw [← Option.some.inj hf] at hX
          exact K_24 spot hP hD hS (lv_sub hl [0] rfl) hX
        · have hf := vm_neg hc_23 hf
          refine lv_aload_n hx hb dX8_takes_11 rfl (lv_at hl 0 rfl) ?_
          refine lv_dup hx hb dX8_takes_12 rfl ?_
          refine va_get (D := Γ.1) (ci := 8) (v := .int spot) (C := RX8) (T := TX8) (N := 31) hx hb hts hi8 hown hK hP 0 rfl rfl 12 (by decide) (hts (.fieldLink RX8 69 "SandPlatesModel" "spot" "I") (List.mem_of_getElem? (i := 1) rfl)) (fun _ h9 => h9) rfl dX8_takes_13 ?_
          refine lv_iconst (v := 1) hx hb dX8_takes_16 (by decide) ?_
          refine lv_iadd hx hb dX8_takes_17 ?_
          refine va_put (D := Γ.1) (ci := 8) (v := .int (spot + 1)) (ty := .int) (C := RX8) (T := TX8) (N := 31) hx hb hts hi8 tyX8 tyX8_ok nmX8 hown hK hP hD hS 0 rfl rfl 12 (by decide) (hts (.fieldLink RX8 69 "SandPlatesModel" "spot" "I") (List.mem_of_getElem? (i := 1) rfl)) (fun _ h9 => h9) rfl (by decide +kernel) rfl rfl (Nat.le_of_ble_eq_true rfl) dX8_takes_18 (fun H locs hP hD hS => ?_)
          have hP : va_P Γ.1 vwCl (wd_X8_takes Γ q0 q1 d0 d1 d2 d3 d4 d5 d6 d7 d8 d9 d10 d11 d12 d13 length undoMany zeroKept oneKept seen (spot + 1) kind begin letters figures value plated driven rows periods leastPeriod text) H := hP
          have hD : va_D A (wd_X8_takes Γ q0 q1 d0 d1 d2 d3 d4 d5 d6 d7 d8 d9 d10 d11 d12 d13 length undoMany zeroKept oneKept seen (spot + 1) kind begin letters figures value plated driven rows periods leastPeriod text) := hD
          refine lv_goto (tgt := 0) hx hb dX8_takes_21 (by decide) ?_
          exact ih (spot + 1) hP hD hS (lv_sub hl [0] rfl) hf
    exact LP FU spot hP hD hS hl h1
  unfold f_X8_takes at hf
  exact K_0 spot hP hD hS (lv_sub hl [0] rfl) hf
def wd_X8_five (Γ : GE) : va_W := []
def f_X8_five (x0 : Int32) (x1 : Int32) (x2 : Int32) (x3 : Int32) (x4 : Int32) : Option Int64 := some ((((((((((((32 * ((x0 - 96).toInt64)) + ((x1).toInt64)) - 96) * 32) + ((x2).toInt64)) - 96) * 32) + ((x3).toInt64)) - 96) * 32) + ((x4).toInt64)) - 96)
set_option maxHeartbeats 4000000 in
set_option maxRecDepth 100000 in
theorem c_X8_five (l : Launch) (Γ : GE) (sz : Nat) (x0 : Int32) (x1 : Int32) (x2 : Int32) (x3 : Int32) (x4 : Int32) (ro : Int64) (hf : f_X8_five x0 x1 x2 x3 x4 = some ro) : MetL l yX8_five wsX8_five ({ frames := 0, cells := 0, slots := 0, locals := 0 } : Room) Γ [.int x0, .int x1, .int x2, .int x3, .int x4] (wd_X8_five Γ) (wd_X8_five Γ) sz ro := by
  refine Met.ofW (cc := cX8_five) (maxL := 5) (ret := (some .long)) (by decide) rfl ?_
  intro p e s m args below meth c s₁ B hml hv
  obtain ⟨rfl, hsz, hE, hP, hD⟩ := hv
  have hx := B.exec
  have hb := B.bytes
  have hr := B.returns
  have hts := atoms_spec (ws := wsX8_five) B.pre
  have hown : s.vm.findClass RX8 = some m.cls := findClass_of_methodNamed B.named
  have hlocks := B.notSynchronized
  subst hsz
  generalize hAe : va_A (wd_X8_five Γ) s.heap.size = A at hE hD ⊢
  have hA : ∀ q : Nat, s.heap.size ≤ q → A q := fun q h => by rw [← hAe]; exact Or.inr h
  clear hAe
  have hS : va_S A s.heap s.heap [] := va_S.rf
  have hK := hE.1
  have hl := lv_entry ([.int x0, .int x1, .int x2, .int x3, .int x4]) (n := 5) (Nat.le_of_ble_eq_true rfl)
  rw [lg_entry_eq]
  generalize (lg_sl ([.int x0, .int x1, .int x2, .int x3, .int x4]) ++ List.replicate (5 - (lg_sl ([.int x0, .int x1, .int x2, .int x3, .int x4])).length) Slot.unset).toArray = ls at hl ⊢
  have hl : lv_has ls 5 [(0, .int x0), (1, .int x1), (2, .int x2), (3, .int x3), (4, .int x4)] := hl
  obtain ⟨out, hout⟩ : ∃ o, o = ro := ⟨_, rfl⟩
  rw [← hout] at hf
  obtain ⟨QQ, hQQ⟩ : ∃ Q, Q = MQ below (va_Ql (fun (r' : Int64) (_ : Unit) => r' = ro) (CQ Γ (wd_X8_five Γ) A) A) (([.int x0, .int x1, .int x2, .int x3, .int x4] : List Value).toArray) s 0 0 A := ⟨_, rfl⟩
  show W p l e ({ frames := 0, cells := 0, slots := 0, locals := 0 } : Room) s m (([.int x0, .int x1, .int x2, .int x3, .int x4] : List Value).toArray) below meth c s.heap [] 0 0 (MQ below _ (([.int x0, .int x1, .int x2, .int x3, .int x4] : List Value).toArray) s 0 0 A) (F0 m 0 ls [])
  rw [← hQQ]
  unfold f_X8_five at hf
  refine lv_ldc2 hx hb hown (hts (.constantLong RX8 92 (32)) (List.mem_of_getElem? (i := 1) rfl)) dX8_five_0 ?_
  refine lv_iload_n hx hb dX8_five_3 rfl (lv_at hl 0 rfl) ?_
  refine lv_bipush (v := 96) hx hb dX8_five_4 (by decide) ?_
  refine lv_isub hx hb dX8_five_6 ?_
  refine lv_i2l hx hb dX8_five_7 rfl ?_
  refine lv_lmul hx hb dX8_five_8 ?_
  refine lv_iload_n hx hb dX8_five_9 rfl (lv_at hl 1 rfl) ?_
  refine lv_i2l hx hb dX8_five_10 rfl ?_
  refine lv_ladd hx hb dX8_five_11 ?_
  refine lv_ldc2 hx hb hown (hts (.constantLong RX8 94 (96)) (List.mem_of_getElem? (i := 2) rfl)) dX8_five_12 ?_
  refine lv_lsub hx hb dX8_five_15 ?_
  refine lv_ldc2 hx hb hown (hts (.constantLong RX8 92 (32)) (List.mem_of_getElem? (i := 1) rfl)) dX8_five_16 ?_
  refine lv_lmul hx hb dX8_five_19 ?_
  refine lv_iload_n hx hb dX8_five_20 rfl (lv_at hl 2 rfl) ?_
  refine lv_i2l hx hb dX8_five_21 rfl ?_
  refine lv_ladd hx hb dX8_five_22 ?_
  refine lv_ldc2 hx hb hown (hts (.constantLong RX8 94 (96)) (List.mem_of_getElem? (i := 2) rfl)) dX8_five_23 ?_
  refine lv_lsub hx hb dX8_five_26 ?_
  refine lv_ldc2 hx hb hown (hts (.constantLong RX8 92 (32)) (List.mem_of_getElem? (i := 1) rfl)) dX8_five_27 ?_
  refine lv_lmul hx hb dX8_five_30 ?_
  refine lv_iload_n hx hb dX8_five_31 rfl (lv_at hl 3 rfl) ?_
  refine lv_i2l hx hb dX8_five_32 rfl ?_
  refine lv_ladd hx hb dX8_five_33 ?_
  refine lv_ldc2 hx hb hown (hts (.constantLong RX8 94 (96)) (List.mem_of_getElem? (i := 2) rfl)) dX8_five_34 ?_
  refine lv_lsub hx hb dX8_five_37 ?_
  refine lv_ldc2 hx hb hown (hts (.constantLong RX8 92 (32)) (List.mem_of_getElem? (i := 1) rfl)) dX8_five_38 ?_
  refine lv_lmul hx hb dX8_five_41 ?_
  refine lv_iload hx hb dX8_five_42 (lv_at hl 4 rfl) ?_
  refine lv_i2l hx hb dX8_five_44 rfl ?_
  refine lv_ladd hx hb dX8_five_45 ?_
  refine lv_ldc2 hx hb hown (hts (.constantLong RX8 94 (96)) (List.mem_of_getElem? (i := 2) rfl)) dX8_five_46 ?_
  refine lv_lsub hx hb dX8_five_49 ?_
  subst hout; obtain rfl := Option.some.inj hf
  subst hQQ
  exact W.lret hx hb hr (fun t ht hW => ⟨⟨_, (), rfl, rfl, by rw [ht]; exact hP, hD⟩, hS.F ht⟩) hS.2.2 dX8_five_50
def wd_X8_four (Γ : GE) : va_W := []
def f_X8_four (x0 : Int32) (x1 : Int32) (x2 : Int32) (x3 : Int32) : Option Int64 := some (((((((((32 * ((x0 - 96).toInt64)) + ((x1).toInt64)) - 96) * 32) + ((x2).toInt64)) - 96) * 32) + ((x3).toInt64)) - 96)
set_option maxHeartbeats 4000000 in
set_option maxRecDepth 100000 in
theorem c_X8_four (l : Launch) (Γ : GE) (sz : Nat) (x0 : Int32) (x1 : Int32) (x2 : Int32) (x3 : Int32) (ro : Int64) (hf : f_X8_four x0 x1 x2 x3 = some ro) : MetL l yX8_four wsX8_four ({ frames := 0, cells := 0, slots := 0, locals := 0 } : Room) Γ [.int x0, .int x1, .int x2, .int x3] (wd_X8_four Γ) (wd_X8_four Γ) sz ro := by
  refine Met.ofW (cc := cX8_four) (maxL := 4) (ret := (some .long)) (by decide) rfl ?_
  intro p e s m args below meth c s₁ B hml hv
  obtain ⟨rfl, hsz, hE, hP, hD⟩ := hv
  have hx := B.exec
  have hb := B.bytes
  have hr := B.returns
  have hts := atoms_spec (ws := wsX8_four) B.pre
  have hown : s.vm.findClass RX8 = some m.cls := findClass_of_methodNamed B.named
  have hlocks := B.notSynchronized
  subst hsz
  generalize hAe : va_A (wd_X8_four Γ) s.heap.size = A at hE hD ⊢
  have hA : ∀ q : Nat, s.heap.size ≤ q → A q := fun q h => by rw [← hAe]; exact Or.inr h
  clear hAe
  have hS : va_S A s.heap s.heap [] := va_S.rf
  have hK := hE.1
  have hl := lv_entry ([.int x0, .int x1, .int x2, .int x3]) (n := 4) (Nat.le_of_ble_eq_true rfl)
  rw [lg_entry_eq]
  generalize (lg_sl ([.int x0, .int x1, .int x2, .int x3]) ++ List.replicate (4 - (lg_sl ([.int x0, .int x1, .int x2, .int x3])).length) Slot.unset).toArray = ls at hl ⊢
  have hl : lv_has ls 4 [(0, .int x0), (1, .int x1), (2, .int x2), (3, .int x3)] := hl
  obtain ⟨out, hout⟩ : ∃ o, o = ro := ⟨_, rfl⟩
  rw [← hout] at hf
  obtain ⟨QQ, hQQ⟩ : ∃ Q, Q = MQ below (va_Ql (fun (r' : Int64) (_ : Unit) => r' = ro) (CQ Γ (wd_X8_four Γ) A) A) (([.int x0, .int x1, .int x2, .int x3] : List Value).toArray) s 0 0 A := ⟨_, rfl⟩
  show W p l e ({ frames := 0, cells := 0, slots := 0, locals := 0 } : Room) s m (([.int x0, .int x1, .int x2, .int x3] : List Value).toArray) below meth c s.heap [] 0 0 (MQ below _ (([.int x0, .int x1, .int x2, .int x3] : List Value).toArray) s 0 0 A) (F0 m 0 ls [])
  rw [← hQQ]
  unfold f_X8_four at hf
  refine lv_ldc2 hx hb hown (hts (.constantLong RX8 92 (32)) (List.mem_of_getElem? (i := 1) rfl)) dX8_four_0 ?_
  refine lv_iload_n hx hb dX8_four_3 rfl (lv_at hl 0 rfl) ?_
  refine lv_bipush (v := 96) hx hb dX8_four_4 (by decide) ?_
  refine lv_isub hx hb dX8_four_6 ?_
  refine lv_i2l hx hb dX8_four_7 rfl ?_
  refine lv_lmul hx hb dX8_four_8 ?_
  refine lv_iload_n hx hb dX8_four_9 rfl (lv_at hl 1 rfl) ?_
  refine lv_i2l hx hb dX8_four_10 rfl ?_
  refine lv_ladd hx hb dX8_four_11 ?_
  refine lv_ldc2 hx hb hown (hts (.constantLong RX8 94 (96)) (List.mem_of_getElem? (i := 2) rfl)) dX8_four_12 ?_
  refine lv_lsub hx hb dX8_four_15 ?_
  refine lv_ldc2 hx hb hown (hts (.constantLong RX8 92 (32)) (List.mem_of_getElem? (i := 1) rfl)) dX8_four_16 ?_
  refine lv_lmul hx hb dX8_four_19 ?_
  refine lv_iload_n hx hb dX8_four_20 rfl (lv_at hl 2 rfl) ?_
  refine lv_i2l hx hb dX8_four_21 rfl ?_
  refine lv_ladd hx hb dX8_four_22 ?_
  refine lv_ldc2 hx hb hown (hts (.constantLong RX8 94 (96)) (List.mem_of_getElem? (i := 2) rfl)) dX8_four_23 ?_
  refine lv_lsub hx hb dX8_four_26 ?_
  refine lv_ldc2 hx hb hown (hts (.constantLong RX8 92 (32)) (List.mem_of_getElem? (i := 1) rfl)) dX8_four_27 ?_
  refine lv_lmul hx hb dX8_four_30 ?_
  refine lv_iload_n hx hb dX8_four_31 rfl (lv_at hl 3 rfl) ?_
  refine lv_i2l hx hb dX8_four_32 rfl ?_
  refine lv_ladd hx hb dX8_four_33 ?_
  refine lv_ldc2 hx hb hown (hts (.constantLong RX8 94 (96)) (List.mem_of_getElem? (i := 2) rfl)) dX8_four_34 ?_
  refine lv_lsub hx hb dX8_four_37 ?_
  subst hout; obtain rfl := Option.some.inj hf
  subst hQQ
  exact W.lret hx hb hr (fun t ht hW => ⟨⟨_, (), rfl, rfl, by rw [ht]; exact hP, hD⟩, hS.F ht⟩) hS.2.2 dX8_four_38
def wd_X8_number (Γ : GE) (q0 q1 q2 d0 d1 d2 d3 d4 d5 d6 d7 d8 d9 d10 d11 d12 : Nat) (length : Int32) (undoMany : Int32) (zeroKept : Int32) (oneKept : Int32) (seen : Int32) (spot : Int32) (kind : Int32) (begin : Int32) (letters : Int64) (figures : Int32) (value : Int32) (plated : Int32) (driven : Int32) (rows : Int32) (periods : Int32) (leastPeriod : Int32) (text : Nat → Int32) (read : Nat → Int32) : va_W := [(q0, .inr (8, [.int length, .ref q1, .ref d0, .ref q2, .ref d1, .int undoMany, .ref d2, .int zeroKept, .int oneKept, .ref d3, .ref d4, .int seen, .int spot, .int kind, .int begin, .long letters, .int figures, .int value, .int plated, .int driven, .int rows, .ref d5, .ref d6, .ref d7, .ref d8, .ref d9, .ref d10, .ref d11, .ref d12, .int periods, .int leastPeriod])), (q1, .inl (Γ.2.1 0, 120, .inl text)), (q2, .inl (Γ.2.1 0, 81, .inl read))]
def f_X8_number_72 (spot : Int32) (kind : Int32) (begin : Int32) (letters : Int64) (figures : Int32) (value : Int32) (read : Nat → Int32) (s0 : Int32) : Option (Int32 × Int32 × Int32 × Int32 × Int64 × Int32 × Int32 × (Nat → Int32)) := if s0 = 0 ∨ s0 = 1 then some (s0, spot, kind, begin, letters, figures, value, read) else none
def f_X8_number_71 (spot : Int32) (kind : Int32) (begin : Int32) (letters : Int64) (figures : Int32) (value : Int32) (read : Nat → Int32) : Option (Int32 × Int32 × Int32 × Int32 × Int64 × Int32 × Int32 × (Nat → Int32)) := f_X8_number_72 spot kind begin letters figures value read 0
def f_X8_number_52 (spot : Int32) (kind : Int32) (begin : Int32) (letters : Int64) (figures : Int32) (value : Int32) (read : Nat → Int32) (x2 : Int32) (x3 : Int32) : Option (Int32 × Int32 × Int32 × Int32 × Int64 × Int32 × Int32 × (Nat → Int32)) := ob1 (f_X8_in ((value).toInt64) ((x2).toInt64) ((x3).toInt64)) (fun r_2 => if r_2 = 0 then (f_X8_number_71 spot kind begin letters figures value read) else (f_X8_number_72 spot kind begin letters figures value read 1))
def f_X8_number (length : Int32) (spot : Int32) (text : Nat → Int32) (read : Nat → Int32) (x1 : Int32) (x2 : Int32) (x3 : Int32) : Option (Int32 × Int32 × Int32 × Int32 × Int64 × Int32 × Int32 × (Nat → Int32)) := ob6 (f_X8_takes length spot text) (fun spot_5 kind_6 begin_7 letters_8 figures_9 value_10 => if inb x1 81 = true then if kind_6 = 2 then (if 3 ≤ figures_9 then (f_X8_number_71 spot_5 kind_6 begin_7 letters_8 figures_9 value_10 (upd read (x1.toNatClampNeg) value_10)) else (if figures_9 = 1 then (f_X8_number_52 spot_5 kind_6 begin_7 letters_8 figures_9 value_10 (upd read (x1.toNatClampNeg) value_10) x2 x3) else (if inb begin_7 120 = true then if (text (begin_7.toNatClampNeg)) = 48 then (f_X8_number_71 spot_5 kind_6 begin_7 letters_8 figures_9 value_10 (upd read (x1.toNatClampNeg) value_10)) else (f_X8_number_52 spot_5 kind_6 begin_7 letters_8 figures_9 value_10 (upd read (x1.toNatClampNeg) value_10) x2 x3) else none))) else (f_X8_number_71 spot_5 kind_6 begin_7 letters_8 figures_9 value_10 (upd read (x1.toNatClampNeg) value_10)) else none)
set_option maxHeartbeats 4000000 in
set_option maxRecDepth 100000 in
theorem c_X8_number (l : Launch) (Γ : GE) (sz : Nat) (q0 q1 q2 d0 d1 d2 d3 d4 d5 d6 d7 d8 d9 d10 d11 d12 : Nat) (length : Int32) (undoMany : Int32) (zeroKept : Int32) (oneKept : Int32) (seen : Int32) (spot : Int32) (kind : Int32) (begin : Int32) (letters : Int64) (figures : Int32) (value : Int32) (plated : Int32) (driven : Int32) (rows : Int32) (periods : Int32) (leastPeriod : Int32) (text : Nat → Int32) (read : Nat → Int32) (x1 : Int32) (x2 : Int32) (x3 : Int32) (ro : Int32) (o_spot : Int32) (o_kind : Int32) (o_begin : Int32) (o_letters : Int64) (o_figures : Int32) (o_value : Int32) (o_read : Nat → Int32) (hf : f_X8_number length spot text read x1 x2 x3 = some (ro, o_spot, o_kind, o_begin, o_letters, o_figures, o_value, o_read)) : MetI l yX8_number wsX8_number ({ frames := 3, cells := 0, slots := 0, locals := 67 } : Room) Γ [.ref q0, .int x1, .int x2, .int x3] (wd_X8_number Γ q0 q1 q2 d0 d1 d2 d3 d4 d5 d6 d7 d8 d9 d10 d11 d12 length undoMany zeroKept oneKept seen spot kind begin letters figures value plated driven rows periods leastPeriod text read) (wd_X8_number Γ q0 q1 q2 d0 d1 d2 d3 d4 d5 d6 d7 d8 d9 d10 d11 d12 length undoMany zeroKept oneKept seen o_spot o_kind o_begin o_letters o_figures o_value plated driven rows periods leastPeriod text o_read) sz ro := by
  refine Met.ofW (cc := cX8_number) (maxL := 4) (ret := (some .boolean)) (by decide) rfl ?_
  intro p e s m args below meth c s₁ B hml hv
  obtain ⟨rfl, hsz, hE, hP, hD⟩ := hv
  have hx := B.exec
  have hb := B.bytes
  have hr := B.returns
  have hts := atoms_spec (ws := wsX8_number) B.pre
  have hown : s.vm.findClass RX8 = some m.cls := findClass_of_methodNamed B.named
  have hlocks := B.notSynchronized
  subst hsz
  generalize hAe : va_A (wd_X8_number Γ q0 q1 q2 d0 d1 d2 d3 d4 d5 d6 d7 d8 d9 d10 d11 d12 length undoMany zeroKept oneKept seen spot kind begin letters figures value plated driven rows periods leastPeriod text read) s.heap.size = A at hE hD ⊢
  have hA : ∀ q : Nat, s.heap.size ≤ q → A q := fun q h => by rw [← hAe]; exact Or.inr h
  clear hAe
  have hS : va_S A s.heap s.heap [] := va_S.rf
  have hK := hE.1
  have hl := lv_entry ([.ref q0, .int x1, .int x2, .int x3]) (n := 4) (Nat.le_of_ble_eq_true rfl)
  rw [lg_entry_eq]
  generalize (lg_sl ([.ref q0, .int x1, .int x2, .int x3]) ++ List.replicate (4 - (lg_sl ([.ref q0, .int x1, .int x2, .int x3])).length) Slot.unset).toArray = ls at hl ⊢
  have hl : lv_has ls 4 [(0, .ref q0), (1, .int x1), (2, .int x2), (3, .int x3)] := hl
  have hi8 : ∀ w ∈ u_ws RX8 TX8 31, w ∈ wsX8_number := fun w h => (List.mem_cons_of_mem _ (List.mem_append_right _ h))
  obtain ⟨out, hout⟩ : ∃ o, o = (ro, o_spot, o_kind, o_begin, o_letters, o_figures, o_value, o_read) := ⟨_, rfl⟩
  rw [← hout] at hf
  obtain ⟨QQ, hQQ⟩ : ∃ Q, Q = MQ below (va_Qi (fun (r' : Int32) (_ : Unit) => r' = ro) (CQ Γ (wd_X8_number Γ q0 q1 q2 d0 d1 d2 d3 d4 d5 d6 d7 d8 d9 d10 d11 d12 length undoMany zeroKept oneKept seen o_spot o_kind o_begin o_letters o_figures o_value plated driven rows periods leastPeriod text o_read) A) A) (([.ref q0, .int x1, .int x2, .int x3] : List Value).toArray) s 0 0 A := ⟨_, rfl⟩
  show W p l e ({ frames := 3, cells := 0, slots := 0, locals := 67 } : Room) s m (([.ref q0, .int x1, .int x2, .int x3] : List Value).toArray) below meth c s.heap [] 0 0 (MQ below _ (([.ref q0, .int x1, .int x2, .int x3] : List Value).toArray) s 0 0 A) (F0 m 0 ls [])
  rw [← hQQ]
  have K_72 : ∀ (spot : Int32) (kind : Int32) (begin : Int32) (letters : Int64) (figures : Int32) (value : Int32) (read : Nat → Int32) (s0 : Int32) {H : Heap} {locs : List Loc} {ls : Array Slot}, va_P Γ.1 vwCl (wd_X8_number Γ q0 q1 q2 d0 d1 d2 d3 d4 d5 d6 d7 d8 d9 d10 d11 d12 length undoMany zeroKept oneKept seen spot kind begin letters figures value plated driven rows periods leastPeriod text read) H → va_D A (wd_X8_number Γ q0 q1 q2 d0 d1 d2 d3 d4 d5 d6 d7 d8 d9 d10 d11 d12 length undoMany zeroKept oneKept seen spot kind begin letters figures value plated driven rows periods leastPeriod text read) → va_S A s.heap H locs → lv_has ls 4 [] → f_X8_number_72 spot kind begin letters figures value read s0 = some out → W p l e ({ frames := 3, cells := 0, slots := 0, locals := 67 } : Room) s m ([.ref q0, .int x1, .int x2, .int x3] : List Value).toArray below meth c H locs 0 0 QQ (F0 m 72 ls [.int s0]) := by
    intro spot kind begin letters figures value read s0 H locs ls hP hD hS hl hf
    unfold f_X8_number_72 at hf
    obtain ⟨hc_1, hf⟩ := vm_ck hf
    subst hout; obtain ⟨rfl, rfl, rfl, rfl, rfl, rfl, rfl, rfl⟩ := rt8 hf
    subst hQQ
    exact W.zret hx hb hr (vm_nz hc_1) (fun t ht hW => ⟨⟨_, (), rfl, rfl, by rw [ht]; exact hP, hD⟩, hS.F ht⟩) hS.2.2 dX8_number_72
  have K_71 : ∀ (spot : Int32) (kind : Int32) (begin : Int32) (letters : Int64) (figures : Int32) (value : Int32) (read : Nat → Int32) {H : Heap} {locs : List Loc} {ls : Array Slot}, va_P Γ.1 vwCl (wd_X8_number Γ q0 q1 q2 d0 d1 d2 d3 d4 d5 d6 d7 d8 d9 d10 d11 d12 length undoMany zeroKept oneKept seen spot kind begin letters figures value plated driven rows periods leastPeriod text read) H → va_D A (wd_X8_number Γ q0 q1 q2 d0 d1 d2 d3 d4 d5 d6 d7 d8 d9 d10 d11 d12 length undoMany zeroKept oneKept seen spot kind begin letters figures value plated driven rows periods leastPeriod text read) → va_S A s.heap H locs → lv_has ls 4 [] → f_X8_number_71 spot kind begin letters figures value read = some out → W p l e ({ frames := 3, cells := 0, slots := 0, locals := 67 } : Room) s m ([.ref q0, .int x1, .int x2, .int x3] : List Value).toArray below meth c H locs 0 0 QQ (F0 m 71 ls []) := by
    intro spot kind begin letters figures value read H locs ls hP hD hS hl hf
    unfold f_X8_number_71 at hf
    refine lv_iconst (v := 0) hx hb dX8_number_71 (by decide) ?_
    exact K_72 spot kind begin letters figures value read 0 hP hD hS (lv_sub hl [] rfl) hf
  have K_52 : ∀ (spot : Int32) (kind : Int32) (begin : Int32) (letters : Int64) (figures : Int32) (value : Int32) (read : Nat → Int32) {H : Heap} {locs : List Loc} {ls : Array Slot}, va_P Γ.1 vwCl (wd_X8_number Γ q0 q1 q2 d0 d1 d2 d3 d4 d5 d6 d7 d8 d9 d10 d11 d12 length undoMany zeroKept oneKept seen spot kind begin letters figures value plated driven rows periods leastPeriod text read) H → va_D A (wd_X8_number Γ q0 q1 q2 d0 d1 d2 d3 d4 d5 d6 d7 d8 d9 d10 d11 d12 length undoMany zeroKept oneKept seen spot kind begin letters figures value plated driven rows periods leastPeriod text read) → va_S A s.heap H locs → lv_has ls 4 [(0, .ref q0), (2, .int x2), (3, .int x3)] → f_X8_number_52 spot kind begin letters figures value read x2 x3 = some out → W p l e ({ frames := 3, cells := 0, slots := 0, locals := 67 } : Room) s m ([.ref q0, .int x1, .int x2, .int x3] : List Value).toArray below meth c H locs 0 0 QQ (F0 m 52 ls []) := by
    intro spot kind begin letters figures value read H locs ls hP hD hS hl hf
    unfold f_X8_number_52 at hf
    refine lv_aload_n hx hb dX8_number_52 rfl (lv_at hl 0 rfl) ?_
    refine va_get (D := Γ.1) (ci := 8) (v := .int value) (C := RX8) (T := TX8) (N := 31) hx hb hts hi8 hown hK hP 0 rfl rfl 17 (by decide) (hts (.fieldLink RX8 86 "SandPlatesModel" "value" "I") (List.mem_of_getElem? (i := 2) rfl)) (fun _ h9 => h9) rfl dX8_number_53 ?_
    refine lv_i2l hx hb dX8_number_56 rfl ?_
    refine lv_iload_n hx hb dX8_number_57 rfl (lv_at hl 1 rfl) ?_
    refine lv_i2l hx hb dX8_number_58 rfl ?_
    refine lv_iload_n hx hb dX8_number_59 rfl (lv_at hl 2 rfl) ?_
    refine lv_i2l hx hb dX8_number_60 rfl ?_
    obtain ⟨r_2, hq_3, hf⟩ := ob1_some hf
    refine vm_cSi (isC := []) (wc := (wd_X8_in Γ)) (w1 := (wd_X8_in Γ)) (As := [.long ((value).toInt64), .long ((x2).toInt64), .long ((x3).toInt64)]) (rest := []) ⟨hx, hb, hml, hown, hts⟩ hE hP hD hS hA rfl rfl rfl (c_X8_in l Γ _ ((value).toInt64) ((x2).toInt64) ((x3).toInt64) r_2 hq_3) (va_cwS 3 hts gX8_number_X8_in rfl rfl rfl (by decide +kernel) ⟨Nat.le_of_ble_eq_true rfl, Nat.le_of_ble_eq_true rfl⟩) rfl hl.1 rfl (Nat.le_of_ble_eq_true rfl) dX8_number_61 ⟨Nat.zero_le _, Nat.zero_le _⟩ (fun H locs hP hD hS => ?_)
    have hP : va_P Γ.1 vwCl (wd_X8_number Γ q0 q1 q2 d0 d1 d2 d3 d4 d5 d6 d7 d8 d9 d10 d11 d12 length undoMany zeroKept oneKept seen spot kind begin letters figures value plated driven rows periods leastPeriod text read) H := hP
    have hD : va_D A (wd_X8_number Γ q0 q1 q2 d0 d1 d2 d3 d4 d5 d6 d7 d8 d9 d10 d11 d12 length undoMany zeroKept oneKept seen spot kind begin letters figures value plated driven rows periods leastPeriod text read) := hD
    refine lv_if_eq (tgt := 71) hx hb dX8_number_64 (by decide) (fun hc_4 => ?_) (fun hc_4 => ?_)
    · have hf := vm_pos hc_4 hf
      exact K_71 spot kind begin letters figures value read hP hD hS (lv_sub hl [] rfl) hf
    · have hf := vm_neg hc_4 hf
      refine lv_iconst (v := 1) hx hb dX8_number_67 (by decide) ?_
      refine lv_goto (tgt := 72) hx hb dX8_number_68 (by decide) ?_
      exact K_72 spot kind begin letters figures value read 1 hP hD hS (lv_sub hl [] rfl) hf
  unfold f_X8_number at hf
  refine lv_aload_n hx hb dX8_number_0 rfl (lv_at hl 0 rfl) ?_
  obtain ⟨spot_5, kind_6, begin_7, letters_8, figures_9, value_10, hq_11, hf⟩ := ob6_some hf
  refine vm_cVv (isC := [0, 1]) (wc := (wd_X8_takes Γ q0 q1 d0 q2 d1 d2 d3 d4 d5 d6 d7 d8 d9 d10 d11 d12 length undoMany zeroKept oneKept seen spot kind begin letters figures value plated driven rows periods leastPeriod text)) (w1 := (wd_X8_takes Γ q0 q1 d0 q2 d1 d2 d3 d4 d5 d6 d7 d8 d9 d10 d11 d12 length undoMany zeroKept oneKept seen spot_5 kind_6 begin_7 letters_8 figures_9 value_10 plated driven rows periods leastPeriod text)) (As := []) (rest := []) ⟨hx, hb, hml, hown, hts⟩ hE hP hD hS hA rfl rfl rfl (c_X8_takes l Γ _ q0 q1 d0 q2 d1 d2 d3 d4 d5 d6 d7 d8 d9 d10 d11 d12 length undoMany zeroKept oneKept seen spot kind begin letters figures value plated driven rows periods leastPeriod text spot_5 kind_6 begin_7 letters_8 figures_9 value_10 hq_11) (cwV 0 hts gX8_number_X8_takes rfl rfl rfl (by decide +kernel) ⟨Nat.le_of_ble_eq_true rfl, Nat.le_of_ble_eq_true rfl⟩) (va_recv (ci := 8) (q0 := 0) hK hP rfl rfl) rfl hl.1 rfl (Nat.le_of_ble_eq_true rfl) dX8_number_1 ⟨Nat.zero_le _, Nat.zero_le _⟩ (fun H locs hP hD hS => ?_)
  have hP : va_P Γ.1 vwCl (wd_X8_number Γ q0 q1 q2 d0 d1 d2 d3 d4 d5 d6 d7 d8 d9 d10 d11 d12 length undoMany zeroKept oneKept seen spot_5 kind_6 begin_7 letters_8 figures_9 value_10 plated driven rows periods leastPeriod text read) H := hP
  have hD : va_D A (wd_X8_number Γ q0 q1 q2 d0 d1 d2 d3 d4 d5 d6 d7 d8 d9 d10 d11 d12 length undoMany zeroKept oneKept seen spot_5 kind_6 begin_7 letters_8 figures_9 value_10 plated driven rows periods leastPeriod text read) := hD
  refine lv_aload_n hx hb dX8_number_4 rfl (lv_at hl 0 rfl) ?_
  refine va_get (D := Γ.1) (ci := 8) (v := .ref q2) (C := RX8) (T := TX8) (N := 31) hx hb hts hi8 hown hK hP 0 rfl rfl 3 (by decide) (hts (.fieldLink RX8 16 "SandPlatesModel" "read" "[I") (List.mem_of_getElem? (i := 1) rfl)) (fun _ h9 => h9) rfl dX8_number_5 ?_
  refine lv_iload_n hx hb dX8_number_8 rfl (lv_at hl 1 rfl) ?_
  refine lv_aload_n hx hb dX8_number_9 rfl (lv_at hl 0 rfl) ?_
  refine va_get (D := Γ.1) (ci := 8) (v := .int value_10) (C := RX8) (T := TX8) (N := 31) hx hb hts hi8 hown hK hP 0 rfl rfl 17 (by decide) (hts (.fieldLink RX8 86 "SandPlatesModel" "value" "I") (List.mem_of_getElem? (i := 2) rfl)) (fun _ h9 => h9) rfl dX8_number_10 ?_
  obtain ⟨hc_12, hf⟩ := vm_ck hf
  refine vm_iast hx hb hK hP hD hS 2 0 rfl rfl hc_12 (j := (x1.toNatClampNeg)) rfl dX8_number_13 (fun H locs hP hD hS => ?_)
  have hP : va_P Γ.1 vwCl (wd_X8_number Γ q0 q1 q2 d0 d1 d2 d3 d4 d5 d6 d7 d8 d9 d10 d11 d12 length undoMany zeroKept oneKept seen spot_5 kind_6 begin_7 letters_8 figures_9 value_10 plated driven rows periods leastPeriod text (upd read (x1.toNatClampNeg) value_10)) H := hP
  have hD : va_D A (wd_X8_number Γ q0 q1 q2 d0 d1 d2 d3 d4 d5 d6 d7 d8 d9 d10 d11 d12 length undoMany zeroKept oneKept seen spot_5 kind_6 begin_7 letters_8 figures_9 value_10 plated driven rows periods leastPeriod text (upd read (x1.toNatClampNeg) value_10)) := hD
  refine lv_aload_n hx hb dX8_number_14 rfl (lv_at hl 0 rfl) ?_
  refine va_get (D := Γ.1) (ci := 8) (v := .int kind_6) (C := RX8) (T := TX8) (N := 31) hx hb hts hi8 hown hK hP 0 rfl rfl 13 (by decide) (hts (.fieldLink RX8 89 "SandPlatesModel" "kind" "I") (List.mem_of_getElem? (i := 3) rfl)) (fun _ h9 => h9) rfl dX8_number_15 ?_
  refine lv_iconst (v := 2) hx hb dX8_number_18 (by decide) ?_
  refine lv_icmp_ne (tgt := 71) hx hb dX8_number_19 (by decide) (fun hc_13 => ?_) (fun hc_13 => ?_)
  · have hf := vm_neg hc_13 hf
    exact K_71 spot_5 kind_6 begin_7 letters_8 figures_9 value_10 (upd read (x1.toNatClampNeg) value_10) hP hD hS (lv_sub hl [] rfl) hf
  · have hf := vm_pos hc_13 hf
    refine lv_aload_n hx hb dX8_number_22 rfl (lv_at hl 0 rfl) ?_
    refine va_get (D := Γ.1) (ci := 8) (v := .int figures_9) (C := RX8) (T := TX8) (N := 31) hx hb hts hi8 hown hK hP 0 rfl rfl 16 (by decide) (hts (.fieldLink RX8 83 "SandPlatesModel" "figures" "I") (List.mem_of_getElem? (i := 4) rfl)) (fun _ h9 => h9) rfl dX8_number_23 ?_
    refine lv_iconst (v := 3) hx hb dX8_number_26 (by decide) ?_
    refine lv_icmp_ge (tgt := 71) hx hb dX8_number_27 (by decide) (fun hc_14 => ?_) (fun hc_14 => ?_)
    · have hf := vm_pos hc_14 hf
      exact K_71 spot_5 kind_6 begin_7 letters_8 figures_9 value_10 (upd read (x1.toNatClampNeg) value_10) hP hD hS (lv_sub hl [] rfl) hf
    · have hf := vm_neg hc_14 hf
      refine lv_aload_n hx hb dX8_number_30 rfl (lv_at hl 0 rfl) ?_
      refine va_get (D := Γ.1) (ci := 8) (v := .int figures_9) (C := RX8) (T := TX8) (N := 31) hx hb hts hi8 hown hK hP 0 rfl rfl 16 (by decide) (hts (.fieldLink RX8 83 "SandPlatesModel" "figures" "I") (List.mem_of_getElem? (i := 4) rfl)) (fun _ h9 => h9) rfl dX8_number_31 ?_
      refine lv_iconst (v := 1) hx hb dX8_number_34 (by decide) ?_
      refine lv_icmp_eq (tgt := 52) hx hb dX8_number_35 (by decide) (fun hc_15 => ?_) (fun hc_15 => ?_)
      · have hf := vm_pos hc_15 hf
        exact K_52 spot_5 kind_6 begin_7 letters_8 figures_9 value_10 (upd read (x1.toNatClampNeg) value_10) hP hD hS (lv_sub hl [0, 2, 3] rfl) hf
      · have hf := vm_neg hc_15 hf
        refine lv_aload_n hx hb dX8_number_38 rfl (lv_at hl 0 rfl) ?_
        refine va_get (D := Γ.1) (ci := 8) (v := .ref q1) (C := RX8) (T := TX8) (N := 31) hx hb hts hi8 hown hK hP 0 rfl rfl 1 (by decide) (hts (.fieldLink RX8 7 "SandPlatesModel" "text" "[I") (List.mem_of_getElem? (i := 5) rfl)) (fun _ h9 => h9) rfl dX8_number_39 ?_
        refine lv_aload_n hx hb dX8_number_42 rfl (lv_at hl 0 rfl) ?_
        refine va_get (D := Γ.1) (ci := 8) (v := .int begin_7) (C := RX8) (T := TX8) (N := 31) hx hb hts hi8 hown hK hP 0 rfl rfl 14 (by decide) (hts (.fieldLink RX8 76 "SandPlatesModel" "begin" "I") (List.mem_of_getElem? (i := 6) rfl)) (fun _ h9 => h9) rfl dX8_number_43 ?_
        obtain ⟨hc_16, hf⟩ := vm_ck hf
        refine vm_iald hx hb hK hP 1 0 rfl rfl hc_16 (j := begin_7.toNatClampNeg) rfl dX8_number_46 ?_
        refine lv_bipush (v := 48) hx hb dX8_number_47 (by decide) ?_
        refine lv_icmp_eq (tgt := 71) hx hb dX8_number_49 (by decide) (fun hc_17 => ?_) (fun hc_17 => ?_)
        · have hf := vm_pos hc_17 hf
          exact K_71 spot_5 kind_6 begin_7 letters_8 figures_9 value_10 (upd read (x1.toNatClampNeg) value_10) hP hD hS (lv_sub hl [] rfl) hf
        · have hf := vm_neg hc_17 hf
          exact K_52 spot_5 kind_6 begin_7 letters_8 figures_9 value_10 (upd read (x1.toNatClampNeg) value_10) hP hD hS (lv_sub hl [0, 2, 3] rfl) hf
def wd_X8_stops (Γ : GE) (q0 q1 d0 d1 d2 d3 d4 d5 d6 d7 d8 d9 d10 d11 d12 d13 : Nat) (length : Int32) (undoMany : Int32) (zeroKept : Int32) (oneKept : Int32) (seen : Int32) (spot : Int32) (kind : Int32) (begin : Int32) (letters : Int64) (figures : Int32) (value : Int32) (plated : Int32) (driven : Int32) (rows : Int32) (periods : Int32) (leastPeriod : Int32) (text : Nat → Int32) : va_W := [(q0, .inr (8, [.int length, .ref q1, .ref d0, .ref d1, .ref d2, .int undoMany, .ref d3, .int zeroKept, .int oneKept, .ref d4, .ref d5, .int seen, .int spot, .int kind, .int begin, .long letters, .int figures, .int value, .int plated, .int driven, .int rows, .ref d6, .ref d7, .ref d8, .ref d9, .ref d10, .ref d11, .ref d12, .ref d13, .int periods, .int leastPeriod])), (q1, .inl (Γ.2.1 0, 120, .inl text))]
def f_X8_stops_17 (spot : Int32) (kind : Int32) (begin : Int32) (letters : Int64) (figures : Int32) (value : Int32) (s0 : Int32) : Option (Int32 × Int32 × Int32 × Int32 × Int64 × Int32 × Int32) := if s0 = 0 ∨ s0 = 1 then some (s0, spot, kind, begin, letters, figures, value) else none
def f_X8_stops (length : Int32) (spot : Int32) (text : Nat → Int32) : Option (Int32 × Int32 × Int32 × Int32 × Int64 × Int32 × Int32) := ob6 (f_X8_takes length spot text) (fun spot_2 kind_3 begin_4 letters_5 figures_6 value_7 => if kind_3 = 3 then (f_X8_stops_17 spot_2 kind_3 begin_4 letters_5 figures_6 value_7 1) else (f_X8_stops_17 spot_2 kind_3 begin_4 letters_5 figures_6 value_7 0))
set_option maxHeartbeats 4000000 in
set_option maxRecDepth 100000 in
theorem c_X8_stops (l : Launch) (Γ : GE) (sz : Nat) (q0 q1 d0 d1 d2 d3 d4 d5 d6 d7 d8 d9 d10 d11 d12 d13 : Nat) (length : Int32) (undoMany : Int32) (zeroKept : Int32) (oneKept : Int32) (seen : Int32) (spot : Int32) (kind : Int32) (begin : Int32) (letters : Int64) (figures : Int32) (value : Int32) (plated : Int32) (driven : Int32) (rows : Int32) (periods : Int32) (leastPeriod : Int32) (text : Nat → Int32) (ro : Int32) (o_spot : Int32) (o_kind : Int32) (o_begin : Int32) (o_letters : Int64) (o_figures : Int32) (o_value : Int32) (hf : f_X8_stops length spot text = some (ro, o_spot, o_kind, o_begin, o_letters, o_figures, o_value)) : MetI l yX8_stops wsX8_stops ({ frames := 3, cells := 0, slots := 0, locals := 67 } : Room) Γ [.ref q0] (wd_X8_stops Γ q0 q1 d0 d1 d2 d3 d4 d5 d6 d7 d8 d9 d10 d11 d12 d13 length undoMany zeroKept oneKept seen spot kind begin letters figures value plated driven rows periods leastPeriod text) (wd_X8_stops Γ q0 q1 d0 d1 d2 d3 d4 d5 d6 d7 d8 d9 d10 d11 d12 d13 length undoMany zeroKept oneKept seen o_spot o_kind o_begin o_letters o_figures o_value plated driven rows periods leastPeriod text) sz ro := by
  refine Met.ofW (cc := cX8_stops) (maxL := 1) (ret := (some .boolean)) (by decide) rfl ?_
  intro p e s m args below meth c s₁ B hml hv
  obtain ⟨rfl, hsz, hE, hP, hD⟩ := hv
  have hx := B.exec
  have hb := B.bytes
  have hr := B.returns
  have hts := atoms_spec (ws := wsX8_stops) B.pre
  have hown : s.vm.findClass RX8 = some m.cls := findClass_of_methodNamed B.named
  have hlocks := B.notSynchronized
  subst hsz
  generalize hAe : va_A (wd_X8_stops Γ q0 q1 d0 d1 d2 d3 d4 d5 d6 d7 d8 d9 d10 d11 d12 d13 length undoMany zeroKept oneKept seen spot kind begin letters figures value plated driven rows periods leastPeriod text) s.heap.size = A at hE hD ⊢
  have hA : ∀ q : Nat, s.heap.size ≤ q → A q := fun q h => by rw [← hAe]; exact Or.inr h
  clear hAe
  have hS : va_S A s.heap s.heap [] := va_S.rf
  have hK := hE.1
  have hl := lv_entry ([.ref q0]) (n := 1) (Nat.le_of_ble_eq_true rfl)
  rw [lg_entry_eq]
  generalize (lg_sl ([.ref q0]) ++ List.replicate (1 - (lg_sl ([.ref q0])).length) Slot.unset).toArray = ls at hl ⊢
  have hl : lv_has ls 1 [(0, .ref q0)] := hl
  have hi8 : ∀ w ∈ u_ws RX8 TX8 31, w ∈ wsX8_stops := fun w h => (List.mem_cons_of_mem _ (List.mem_append_right _ h))
  obtain ⟨out, hout⟩ : ∃ o, o = (ro, o_spot, o_kind, o_begin, o_letters, o_figures, o_value) := ⟨_, rfl⟩
  rw [← hout] at hf
  obtain ⟨QQ, hQQ⟩ : ∃ Q, Q = MQ below (va_Qi (fun (r' : Int32) (_ : Unit) => r' = ro) (CQ Γ (wd_X8_stops Γ q0 q1 d0 d1 d2 d3 d4 d5 d6 d7 d8 d9 d10 d11 d12 d13 length undoMany zeroKept oneKept seen o_spot o_kind o_begin o_letters o_figures o_value plated driven rows periods leastPeriod text) A) A) (([.ref q0] : List Value).toArray) s 0 0 A := ⟨_, rfl⟩
  show W p l e ({ frames := 3, cells := 0, slots := 0, locals := 67 } : Room) s m (([.ref q0] : List Value).toArray) below meth c s.heap [] 0 0 (MQ below _ (([.ref q0] : List Value).toArray) s 0 0 A) (F0 m 0 ls [])
  rw [← hQQ]
  have K_17 : ∀ (spot : Int32) (kind : Int32) (begin : Int32) (letters : Int64) (figures : Int32) (value : Int32) (s0 : Int32) {H : Heap} {locs : List Loc} {ls : Array Slot}, va_P Γ.1 vwCl (wd_X8_stops Γ q0 q1 d0 d1 d2 d3 d4 d5 d6 d7 d8 d9 d10 d11 d12 d13 length undoMany zeroKept oneKept seen spot kind begin letters figures value plated driven rows periods leastPeriod text) H → va_D A (wd_X8_stops Γ q0 q1 d0 d1 d2 d3 d4 d5 d6 d7 d8 d9 d10 d11 d12 d13 length undoMany zeroKept oneKept seen spot kind begin letters figures value plated driven rows periods leastPeriod text) → va_S A s.heap H locs → lv_has ls 1 [] → f_X8_stops_17 spot kind begin letters figures value s0 = some out → W p l e ({ frames := 3, cells := 0, slots := 0, locals := 67 } : Room) s m ([.ref q0] : List Value).toArray below meth c H locs 0 0 QQ (F0 m 17 ls [.int s0]) := by
    intro spot kind begin letters figures value s0 H locs ls hP hD hS hl hf
    unfold f_X8_stops_17 at hf
    obtain ⟨hc_1, hf⟩ := vm_ck hf
    subst hout; obtain ⟨rfl, rfl, rfl, rfl, rfl, rfl, rfl⟩ := rt7 hf
    subst hQQ
    exact W.zret hx hb hr (vm_nz hc_1) (fun t ht hW => ⟨⟨_, (), rfl, rfl, by rw [ht]; exact hP, hD⟩, hS.F ht⟩) hS.2.2 dX8_stops_17
  unfold f_X8_stops at hf
  refine lv_aload_n hx hb dX8_stops_0 rfl (lv_at hl 0 rfl) ?_
  obtain ⟨spot_2, kind_3, begin_4, letters_5, figures_6, value_7, hq_8, hf⟩ := ob6_some hf
  refine vm_cVv (isC := [0, 1]) (wc := (wd_X8_takes Γ q0 q1 d0 d1 d2 d3 d4 d5 d6 d7 d8 d9 d10 d11 d12 d13 length undoMany zeroKept oneKept seen spot kind begin letters figures value plated driven rows periods leastPeriod text)) (w1 := (wd_X8_takes Γ q0 q1 d0 d1 d2 d3 d4 d5 d6 d7 d8 d9 d10 d11 d12 d13 length undoMany zeroKept oneKept seen spot_2 kind_3 begin_4 letters_5 figures_6 value_7 plated driven rows periods leastPeriod text)) (As := []) (rest := []) ⟨hx, hb, hml, hown, hts⟩ hE hP hD hS hA rfl rfl rfl (c_X8_takes l Γ _ q0 q1 d0 d1 d2 d3 d4 d5 d6 d7 d8 d9 d10 d11 d12 d13 length undoMany zeroKept oneKept seen spot kind begin letters figures value plated driven rows periods leastPeriod text spot_2 kind_3 begin_4 letters_5 figures_6 value_7 hq_8) (cwV 0 hts gX8_stops_X8_takes rfl rfl rfl (by decide +kernel) ⟨Nat.le_of_ble_eq_true rfl, Nat.le_of_ble_eq_true rfl⟩) (va_recv (ci := 8) (q0 := 0) hK hP rfl rfl) rfl hl.1 rfl (Nat.le_of_ble_eq_true rfl) dX8_stops_1 ⟨Nat.zero_le _, Nat.zero_le _⟩ (fun H locs hP hD hS => ?_)
  have hP : va_P Γ.1 vwCl (wd_X8_stops Γ q0 q1 d0 d1 d2 d3 d4 d5 d6 d7 d8 d9 d10 d11 d12 d13 length undoMany zeroKept oneKept seen spot_2 kind_3 begin_4 letters_5 figures_6 value_7 plated driven rows periods leastPeriod text) H := hP
  have hD : va_D A (wd_X8_stops Γ q0 q1 d0 d1 d2 d3 d4 d5 d6 d7 d8 d9 d10 d11 d12 d13 length undoMany zeroKept oneKept seen spot_2 kind_3 begin_4 letters_5 figures_6 value_7 plated driven rows periods leastPeriod text) := hD
  refine lv_aload_n hx hb dX8_stops_4 rfl (lv_at hl 0 rfl) ?_
  refine va_get (D := Γ.1) (ci := 8) (v := .int kind_3) (C := RX8) (T := TX8) (N := 31) hx hb hts hi8 hown hK hP 0 rfl rfl 13 (by decide) (hts (.fieldLink RX8 89 "SandPlatesModel" "kind" "I") (List.mem_of_getElem? (i := 1) rfl)) (fun _ h9 => h9) rfl dX8_stops_5 ?_
  refine lv_iconst (v := 3) hx hb dX8_stops_8 (by decide) ?_
  refine lv_icmp_ne (tgt := 16) hx hb dX8_stops_9 (by decide) (fun hc_9 => ?_) (fun hc_9 => ?_)
  · have hf := vm_neg hc_9 hf
    refine lv_iconst (v := 0) hx hb dX8_stops_16 (by decide) ?_
    exact K_17 spot_2 kind_3 begin_4 letters_5 figures_6 value_7 0 hP hD hS (lv_sub hl [] rfl) hf
  · have hf := vm_pos hc_9 hf
    refine lv_iconst (v := 1) hx hb dX8_stops_12 (by decide) ?_
    refine lv_goto (tgt := 17) hx hb dX8_stops_13 (by decide) ?_
    exact K_17 spot_2 kind_3 begin_4 letters_5 figures_6 value_7 1 hP hD hS (lv_sub hl [] rfl) hf
def wd_X8_rowItem (Γ : GE) (q0 q1 q2 d0 d1 d2 d3 d4 d5 d6 d7 d8 d9 d10 d11 d12 : Nat) (length : Int32) (undoMany : Int32) (zeroKept : Int32) (oneKept : Int32) (seen : Int32) (spot : Int32) (kind : Int32) (begin : Int32) (letters : Int64) (figures : Int32) (value : Int32) (plated : Int32) (driven : Int32) (rows : Int32) (periods : Int32) (leastPeriod : Int32) (text : Nat → Int32) (read : Nat → Int32) : va_W := [(q0, .inr (8, [.int length, .ref q1, .ref d0, .ref q2, .ref d1, .int undoMany, .ref d2, .int zeroKept, .int oneKept, .ref d3, .ref d4, .int seen, .int spot, .int kind, .int begin, .long letters, .int figures, .int value, .int plated, .int driven, .int rows, .ref d5, .ref d6, .ref d7, .ref d8, .ref d9, .ref d10, .ref d11, .ref d12, .int periods, .int leastPeriod])), (q1, .inl (Γ.2.1 0, 120, .inl text)), (q2, .inl (Γ.2.1 0, 81, .inl read))]
def f_X8_rowItem_123 (spot : Int32) (kind : Int32) (begin : Int32) (letters : Int64) (figures : Int32) (value : Int32) (rows : Int32) (read : Nat → Int32) (x1 : Int32) : Option (Int32 × Int32 × Int32 × Int32 × Int64 × Int32 × Int32 × Int32 × (Nat → Int32)) := if x1 = 0 ∨ x1 = 1 then some (x1, spot, kind, begin, letters, figures, value, (rows + 1), read) else none
def f_X8_rowItem_116 (spot : Int32) (kind : Int32) (begin : Int32) (letters : Int64) (figures : Int32) (value : Int32) (rows : Int32) (text : Nat → Int32) (read : Nat → Int32) (x2 : Int32) (s0 : Int32) (k : (((Nat → Int32) × Int32 × Int32) → Option ((Nat → Int32) × Int32))) : Option ((Nat → Int32) × Int32) := k (read, s0, (x2 + 1))
def f_X8_rowItem_48b (spot : Int32) (kind : Int32) (begin : Int32) (letters : Int64) (figures : Int32) (value : Int32) (rows : Int32) (text : Nat → Int32) (read : Nat → Int32) (x1 : Int32) (x2 : Int32) (k : (((Nat → Int32) × Int32 × Int32) → Option ((Nat → Int32) × Int32))) : Option ((Nat → Int32) × Int32) := if figures ≤ x2 then (some (read, x1)) else (if x1 = 0 then (some (read, x1)) else (if inb (begin + x2) 120 = true then if inb ((9 + ((read 0) * rows)) + x2) 81 = true then if inb (begin + x2) 120 = true then if 50 ≤ (text ((begin + x2).toNatClampNeg)) then (f_X8_rowItem_116 spot kind begin letters figures value rows text (upd read (((9 + ((read 0) * rows)) + x2).toNatClampNeg) ((text ((begin + x2).toNatClampNeg)) - 48)) x2 0 k) else (f_X8_rowItem_116 spot kind begin letters figures value rows text (upd read (((9 + ((read 0) * rows)) + x2).toNatClampNeg) ((text ((begin + x2).toNatClampNeg)) - 48)) x2 1 k) else none else none else none))
def f_X8_rowItem_48s (spot : Int32) (kind : Int32) (begin : Int32) (letters : Int64) (figures : Int32) (value : Int32) (rows : Int32) (text : Nat → Int32) : ((Nat → Int32) × Int32 × Int32) → (((Nat → Int32) × Int32 × Int32) → Option ((Nat → Int32) × Int32)) → Option ((Nat → Int32) × Int32) := fun t k => f_X8_rowItem_48b spot kind begin letters figures value rows text t.1 t.2.1 t.2.2 k
def f_X8_rowItem_48 (spot : Int32) (kind : Int32) (begin : Int32) (letters : Int64) (figures : Int32) (value : Int32) (rows : Int32) (text : Nat → Int32) (read : Nat → Int32) (x1 : Int32) (x2 : Int32) : Option (Int32 × Int32 × Int32 × Int32 × Int64 × Int32 × Int32 × Int32 × (Nat → Int32)) := obx (vm_it (f_X8_rowItem_48s spot kind begin letters figures value rows text) FU (read, x1, x2)) (un2 (fun read x1 => f_X8_rowItem_123 spot kind begin letters figures value rows read x1))
def f_X8_rowItem_45 (spot : Int32) (kind : Int32) (begin : Int32) (letters : Int64) (figures : Int32) (value : Int32) (rows : Int32) (text : Nat → Int32) (read : Nat → Int32) (s0 : Int32) : Option (Int32 × Int32 × Int32 × Int32 × Int64 × Int32 × Int32 × Int32 × (Nat → Int32)) := f_X8_rowItem_48 spot kind begin letters figures value rows text read s0 0
def f_X8_rowItem_44 (spot : Int32) (kind : Int32) (begin : Int32) (letters : Int64) (figures : Int32) (value : Int32) (rows : Int32) (text : Nat → Int32) (read : Nat → Int32) : Option (Int32 × Int32 × Int32 × Int32 × Int64 × Int32 × Int32 × Int32 × (Nat → Int32)) := f_X8_rowItem_45 spot kind begin letters figures value rows text read 0
def f_X8_rowItem (length : Int32) (spot : Int32) (kind : Int32) (begin : Int32) (letters : Int64) (figures : Int32) (value : Int32) (rows : Int32) (text : Nat → Int32) (read : Nat → Int32) : Option (Int32 × Int32 × Int32 × Int32 × Int64 × Int32 × Int32 × Int32 × (Nat → Int32)) := if rows = (read 1) then (some (0, spot, kind, begin, letters, figures, value, rows, read)) else (ob6 (f_X8_takes length spot text) (fun spot_9 kind_10 begin_11 letters_12 figures_13 value_14 => if kind_10 = 2 then (if figures_13 = (read 0) then (f_X8_rowItem_45 spot_9 kind_10 begin_11 letters_12 figures_13 value_14 rows text read 1) else (f_X8_rowItem_44 spot_9 kind_10 begin_11 letters_12 figures_13 value_14 rows text read)) else (f_X8_rowItem_44 spot_9 kind_10 begin_11 letters_12 figures_13 value_14 rows text read)))
set_option maxHeartbeats 4000000 in
set_option maxRecDepth 100000 in
theorem c_X8_rowItem (l : Launch) (Γ : GE) (sz : Nat) (q0 q1 q2 d0 d1 d2 d3 d4 d5 d6 d7 d8 d9 d10 d11 d12 : Nat) (length : Int32) (undoMany : Int32) (zeroKept : Int32) (oneKept : Int32) (seen : Int32) (spot : Int32) (kind : Int32) (begin : Int32) (letters : Int64) (figures : Int32) (value : Int32) (plated : Int32) (driven : Int32) (rows : Int32) (periods : Int32) (leastPeriod : Int32) (text : Nat → Int32) (read : Nat → Int32) (ro : Int32) (o_spot : Int32) (o_kind : Int32) (o_begin : Int32) (o_letters : Int64) (o_figures : Int32) (o_value : Int32) (o_rows : Int32) (o_read : Nat → Int32) (hf : f_X8_rowItem length spot kind begin letters figures value rows text read = some (ro, o_spot, o_kind, o_begin, o_letters, o_figures, o_value, o_rows, o_read)) : MetI l yX8_rowItem wsX8_rowItem ({ frames := 3, cells := 0, slots := 0, locals := 67 } : Room) Γ [.ref q0] (wd_X8_rowItem Γ q0 q1 q2 d0 d1 d2 d3 d4 d5 d6 d7 d8 d9 d10 d11 d12 length undoMany zeroKept oneKept seen spot kind begin letters figures value plated driven rows periods leastPeriod text read) (wd_X8_rowItem Γ q0 q1 q2 d0 d1 d2 d3 d4 d5 d6 d7 d8 d9 d10 d11 d12 length undoMany zeroKept oneKept seen o_spot o_kind o_begin o_letters o_figures o_value plated driven o_rows periods leastPeriod text o_read) sz ro := by
  refine Met.ofW (cc := cX8_rowItem) (maxL := 3) (ret := (some .boolean)) (by decide) rfl ?_
  intro p e s m args below meth c s₁ B hml hv
  obtain ⟨rfl, hsz, hE, hP, hD⟩ := hv
  have hx := B.exec
  have hb := B.bytes
  have hr := B.returns
  have hts := atoms_spec (ws := wsX8_rowItem) B.pre
  have hown : s.vm.findClass RX8 = some m.cls := findClass_of_methodNamed B.named
  have hlocks := B.notSynchronized
  subst hsz
  generalize hAe : va_A (wd_X8_rowItem Γ q0 q1 q2 d0 d1 d2 d3 d4 d5 d6 d7 d8 d9 d10 d11 d12 length undoMany zeroKept oneKept seen spot kind begin letters figures value plated driven rows periods leastPeriod text read) s.heap.size = A at hE hD ⊢
  have hA : ∀ q : Nat, s.heap.size ≤ q → A q := fun q h => by rw [← hAe]; exact Or.inr h
  clear hAe
  have hS : va_S A s.heap s.heap [] := va_S.rf
  have hK := hE.1
  have hl := lv_entry ([.ref q0]) (n := 3) (Nat.le_of_ble_eq_true rfl)
  rw [lg_entry_eq]
  generalize (lg_sl ([.ref q0]) ++ List.replicate (3 - (lg_sl ([.ref q0])).length) Slot.unset).toArray = ls at hl ⊢
  have hl : lv_has ls 3 [(0, .ref q0)] := hl
  have hi8 : ∀ w ∈ u_ws RX8 TX8 31, w ∈ wsX8_rowItem := fun w h => (List.mem_cons_of_mem _ (List.mem_append_right _ h))
  obtain ⟨out, hout⟩ : ∃ o, o = (ro, o_spot, o_kind, o_begin, o_letters, o_figures, o_value, o_rows, o_read) := ⟨_, rfl⟩
  rw [← hout] at hf
  obtain ⟨QQ, hQQ⟩ : ∃ Q, Q = MQ below (va_Qi (fun (r' : Int32) (_ : Unit) => r' = ro) (CQ Γ (wd_X8_rowItem Γ q0 q1 q2 d0 d1 d2 d3 d4 d5 d6 d7 d8 d9 d10 d11 d12 length undoMany zeroKept oneKept seen o_spot o_kind o_begin o_letters o_figures o_value plated driven o_rows periods leastPeriod text o_read) A) A) (([.ref q0] : List Value).toArray) s 0 0 A := ⟨_, rfl⟩
  show W p l e ({ frames := 3, cells := 0, slots := 0, locals := 67 } : Room) s m (([.ref q0] : List Value).toArray) below meth c s.heap [] 0 0 (MQ below _ (([.ref q0] : List Value).toArray) s 0 0 A) (F0 m 0 ls [])
  rw [← hQQ]
  have K_123 : ∀ (spot : Int32) (kind : Int32) (begin : Int32) (letters : Int64) (figures : Int32) (value : Int32) (rows : Int32) (read : Nat → Int32) (x1 : Int32) {H : Heap} {locs : List Loc} {ls : Array Slot}, va_P Γ.1 vwCl (wd_X8_rowItem Γ q0 q1 q2 d0 d1 d2 d3 d4 d5 d6 d7 d8 d9 d10 d11 d12 length undoMany zeroKept oneKept seen spot kind begin letters figures value plated driven rows periods leastPeriod text read) H → va_D A (wd_X8_rowItem Γ q0 q1 q2 d0 d1 d2 d3 d4 d5 d6 d7 d8 d9 d10 d11 d12 length undoMany zeroKept oneKept seen spot kind begin letters figures value plated driven rows periods leastPeriod text read) → va_S A s.heap H locs → lv_has ls 3 [(0, .ref q0), (1, .int x1)] → f_X8_rowItem_123 spot kind begin letters figures value rows read x1 = some out → W p l e ({ frames := 3, cells := 0, slots := 0, locals := 67 } : Room) s m ([.ref q0] : List Value).toArray below meth c H locs 0 0 QQ (F0 m 123 ls []) := by
    intro spot kind begin letters figures value rows read x1 H locs ls hP hD hS hl hf
    unfold f_X8_rowItem_123 at hf
    refine lv_aload_n hx hb dX8_rowItem_123 rfl (lv_at hl 0 rfl) ?_
    refine lv_dup hx hb dX8_rowItem_124 rfl ?_
    refine va_get (D := Γ.1) (ci := 8) (v := .int rows) (C := RX8) (T := TX8) (N := 31) hx hb hts hi8 hown hK hP 0 rfl rfl 20 (by decide) (hts (.fieldLink RX8 101 "SandPlatesModel" "rows" "I") (List.mem_of_getElem? (i := 1) rfl)) (fun _ h9 => h9) rfl dX8_rowItem_125 ?_
    refine lv_iconst (v := 1) hx hb dX8_rowItem_128 (by decide) ?_
    refine lv_iadd hx hb dX8_rowItem_129 ?_
    refine va_put (D := Γ.1) (ci := 8) (v := .int (rows + 1)) (ty := .int) (C := RX8) (T := TX8) (N := 31) hx hb hts hi8 tyX8 tyX8_ok nmX8 hown hK hP hD hS 0 rfl rfl 20 (by decide) (hts (.fieldLink RX8 101 "SandPlatesModel" "rows" "I") (List.mem_of_getElem? (i := 1) rfl)) (fun _ h9 => h9) rfl (by decide +kernel) rfl rfl (Nat.le_of_ble_eq_true rfl) dX8_rowItem_130 (fun H locs hP hD hS => ?_)
    have hP : va_P Γ.1 vwCl (wd_X8_rowItem Γ q0 q1 q2 d0 d1 d2 d3 d4 d5 d6 d7 d8 d9 d10 d11 d12 length undoMany zeroKept oneKept seen spot kind begin letters figures value plated driven (rows + 1) periods leastPeriod text read) H := hP
    have hD : va_D A (wd_X8_rowItem Γ q0 q1 q2 d0 d1 d2 d3 d4 d5 d6 d7 d8 d9 d10 d11 d12 length undoMany zeroKept oneKept seen spot kind begin letters figures value plated driven (rows + 1) periods leastPeriod text read) := hD
    refine lv_iload_n hx hb dX8_rowItem_133 rfl (lv_at hl 1 rfl) ?_
    obtain ⟨hc_1, hf⟩ := vm_ck hf
    subst hout; obtain ⟨rfl, rfl, rfl, rfl, rfl, rfl, rfl, rfl, rfl⟩ := rt9 hf
    subst hQQ
    exact W.zret hx hb hr (vm_nz hc_1) (fun t ht hW => ⟨⟨_, (), rfl, rfl, by rw [ht]; exact hP, hD⟩, hS.F ht⟩) hS.2.2 dX8_rowItem_134
  have K_48 : ∀ (spot : Int32) (kind : Int32) (begin : Int32) (letters : Int64) (figures : Int32) (value : Int32) (rows : Int32) (read : Nat → Int32) (x1 : Int32) (x2 : Int32) {H : Heap} {locs : List Loc} {ls : Array Slot}, va_P Γ.1 vwCl (wd_X8_rowItem Γ q0 q1 q2 d0 d1 d2 d3 d4 d5 d6 d7 d8 d9 d10 d11 d12 length undoMany zeroKept oneKept seen spot kind begin letters figures value plated driven rows periods leastPeriod text read) H → va_D A (wd_X8_rowItem Γ q0 q1 q2 d0 d1 d2 d3 d4 d5 d6 d7 d8 d9 d10 d11 d12 length undoMany zeroKept oneKept seen spot kind begin letters figures value plated driven rows periods leastPeriod text read) → va_S A s.heap H locs → lv_has ls 3 [(0, .ref q0), (1, .int x1), (2, .int x2)] → f_X8_rowItem_48 spot kind begin letters figures value rows text read x1 x2 = some out → W p l e ({ frames := 3, cells := 0, slots := 0, locals := 67 } : Room) s m ([.ref q0] : List Value).toArray below meth c H locs 0 0 QQ (F0 m 48 ls []) := by
    intro spot kind begin letters figures value rows read x1 x2 H locs ls hP hD hS hl hf
    unfold f_X8_rowItem_48 at hf
    obtain ⟨ex48, h1, hX48⟩ := obx_some hf
    have LP : ∀ (n : Nat) (read : Nat → Int32) (x1 : Int32) (x2 : Int32)  {H : Heap} {locs : List Loc} {ls : Array Slot}, va_P Γ.1 vwCl (wd_X8_rowItem Γ q0 q1 q2 d0 d1 d2 d3 d4 d5 d6 d7 d8 d9 d10 d11 d12 length undoMany zeroKept oneKept seen spot kind begin letters figures value plated driven rows periods leastPeriod text read) H → va_D A (wd_X8_rowItem Γ q0 q1 q2 d0 d1 d2 d3 d4 d5 d6 d7 d8 d9 d10 d11 d12 length undoMany zeroKept oneKept seen spot kind begin letters figures value plated driven rows periods leastPeriod text read) → va_S A s.heap H locs → lv_has ls 3 [(0, .ref q0), (1, .int x1), (2, .int x2)] → vm_it (f_X8_rowItem_48s spot kind begin letters figures value rows text) n (read, x1, x2) = some ex48 → W p l e ({ frames := 3, cells := 0, slots := 0, locals := 67 } : Room) s m ([.ref q0] : List Value).toArray below meth c H locs 0 0 QQ (F0 m 48 ls []) := by
      clear hP hD hS hl hf h1
      intro n
      induction n with
      | zero => intro read x1 x2 H locs ls hP hD hS hl hf; exact (vm_it_0 hf).elim
      | succ n ih =>
        intro read x1 x2 H locs ls hP hD hS hl hf
        have hf : f_X8_rowItem_48b spot kind begin letters figures value rows text read x1 x2 (vm_it (f_X8_rowItem_48s spot kind begin letters figures value rows text) n) = some ex48 := hf
        have K_116 : ∀ (read : Nat → Int32) (x2 : Int32) (s0 : Int32) {H : Heap} {locs : List Loc} {ls : Array Slot}, va_P Γ.1 vwCl (wd_X8_rowItem Γ q0 q1 q2 d0 d1 d2 d3 d4 d5 d6 d7 d8 d9 d10 d11 d12 length undoMany zeroKept oneKept seen spot kind begin letters figures value plated driven rows periods leastPeriod text read) H → va_D A (wd_X8_rowItem Γ q0 q1 q2 d0 d1 d2 d3 d4 d5 d6 d7 d8 d9 d10 d11 d12 length undoMany zeroKept oneKept seen spot kind begin letters figures value plated driven rows periods leastPeriod text read) → va_S A s.heap H locs → lv_has ls 3 [(0, .ref q0), (2, .int x2)] → f_X8_rowItem_116 spot kind begin letters figures value rows text read x2 s0 (vm_it (f_X8_rowItem_48s spot kind begin letters figures value rows text) n) = some ex48 → W p l e ({ frames := 3, cells := 0, slots := 0, locals := 67 } : Room) s m ([.ref q0] : List Value).toArray below meth c H locs 0 0 QQ (F0 m 116 ls [.int s0]) := by
          intro read x2 s0 H locs ls hP hD hS hl hf
          unfold f_X8_rowItem_116 at hf
          refine lv_istore_n (lv' := [(1, .int s0), (0, .ref q0), (2, .int x2)]) hx hb dX8_rowItem_116 rfl hl (by decide) rfl (fun ls hl => ?_)
          refine lv_iinc (v := (x2 + 1)) (lv' := [(2, .int (x2 + 1)), (1, .int s0), (0, .ref q0)]) hx hb dX8_rowItem_117 hl (k := 2) rfl rfl (by decide) rfl (fun ls hl => ?_)
          refine lv_goto (tgt := 48) hx hb dX8_rowItem_120 (by decide) ?_
          exact ih read s0 (x2 + 1) hP hD hS (lv_sub hl [2, 1, 0] rfl) hf
        unfold f_X8_rowItem_48b at hf
        refine lv_iload_n hx hb dX8_rowItem_48 rfl (lv_at hl 2 rfl) ?_
        refine lv_aload_n hx hb dX8_rowItem_49 rfl (lv_at hl 0 rfl) ?_
        refine va_get (D := Γ.1) (ci := 8) (v := .int figures) (C := RX8) (T := TX8) (N := 31) hx hb hts hi8 hown hK hP 0 rfl rfl 16 (by decide) (hts (.fieldLink RX8 83 "SandPlatesModel" "figures" "I") (List.mem_of_getElem? (i := 4) rfl)) (fun _ h9 => h9) rfl dX8_rowItem_50 ?_
        refine lv_icmp_ge (tgt := 123) hx hb dX8_rowItem_53 (by decide) (fun hc_2 => ?_) (fun hc_2 => ?_)
        · have hf := vm_pos hc_2 hf
          have hX := hX48
          rw [← Option.some.inj hf] at hX
          exact K_123 spot kind begin letters figures value rows read x1 hP hD hS (lv_sub hl [0, 1] rfl) hX
        · have hf := vm_neg hc_2 hf
          refine lv_iload_n hx hb dX8_rowItem_56 rfl (lv_at hl 1 rfl) ?_
          refine lv_if_eq (tgt := 123) hx hb dX8_rowItem_57 (by decide) (fun hc_3 => ?_) (fun hc_3 => ?_)
          · have hf := vm_pos hc_3 hf
            have hX := hX48
            rw [← Option.some.inj hf] at hX
            exact K_123 spot kind begin letters figures value rows read x1 hP hD hS (lv_sub hl [0, 1] rfl) hX
          · have hf := vm_neg hc_3 hf
            refine lv_aload_n hx hb dX8_rowItem_60 rfl (lv_at hl 0 rfl) ?_
            refine va_get (D := Γ.1) (ci := 8) (v := .ref q2) (C := RX8) (T := TX8) (N := 31) hx hb hts hi8 hown hK hP 0 rfl rfl 3 (by decide) (hts (.fieldLink RX8 16 "SandPlatesModel" "read" "[I") (List.mem_of_getElem? (i := 2) rfl)) (fun _ h9 => h9) rfl dX8_rowItem_61 ?_
            refine lv_bipush (v := 9) hx hb dX8_rowItem_64 (by decide) ?_
            refine lv_aload_n hx hb dX8_rowItem_66 rfl (lv_at hl 0 rfl) ?_
            refine va_get (D := Γ.1) (ci := 8) (v := .ref q2) (C := RX8) (T := TX8) (N := 31) hx hb hts hi8 hown hK hP 0 rfl rfl 3 (by decide) (hts (.fieldLink RX8 16 "SandPlatesModel" "read" "[I") (List.mem_of_getElem? (i := 2) rfl)) (fun _ h9 => h9) rfl dX8_rowItem_67 ?_
            refine lv_iconst (v := 0) hx hb dX8_rowItem_70 (by decide) ?_
            refine vm_iald hx hb hK hP 2 0 rfl rfl (by decide +kernel) (j := 0) rfl dX8_rowItem_71 ?_
            refine lv_aload_n hx hb dX8_rowItem_72 rfl (lv_at hl 0 rfl) ?_
            refine va_get (D := Γ.1) (ci := 8) (v := .int rows) (C := RX8) (T := TX8) (N := 31) hx hb hts hi8 hown hK hP 0 rfl rfl 20 (by decide) (hts (.fieldLink RX8 101 "SandPlatesModel" "rows" "I") (List.mem_of_getElem? (i := 1) rfl)) (fun _ h9 => h9) rfl dX8_rowItem_73 ?_
            refine lv_imul hx hb dX8_rowItem_76 ?_
            refine lv_iadd hx hb dX8_rowItem_77 ?_
            refine lv_iload_n hx hb dX8_rowItem_78 rfl (lv_at hl 2 rfl) ?_
            refine lv_iadd hx hb dX8_rowItem_79 ?_
            refine lv_aload_n hx hb dX8_rowItem_80 rfl (lv_at hl 0 rfl) ?_
            refine va_get (D := Γ.1) (ci := 8) (v := .ref q1) (C := RX8) (T := TX8) (N := 31) hx hb hts hi8 hown hK hP 0 rfl rfl 1 (by decide) (hts (.fieldLink RX8 7 "SandPlatesModel" "text" "[I") (List.mem_of_getElem? (i := 5) rfl)) (fun _ h9 => h9) rfl dX8_rowItem_81 ?_
            refine lv_aload_n hx hb dX8_rowItem_84 rfl (lv_at hl 0 rfl) ?_
            refine va_get (D := Γ.1) (ci := 8) (v := .int begin) (C := RX8) (T := TX8) (N := 31) hx hb hts hi8 hown hK hP 0 rfl rfl 14 (by decide) (hts (.fieldLink RX8 76 "SandPlatesModel" "begin" "I") (List.mem_of_getElem? (i := 6) rfl)) (fun _ h9 => h9) rfl dX8_rowItem_85 ?_
            refine lv_iload_n hx hb dX8_rowItem_88 rfl (lv_at hl 2 rfl) ?_
            refine lv_iadd hx hb dX8_rowItem_89 ?_
            obtain ⟨hc_4, hf⟩ := vm_ck hf
            refine vm_iald hx hb hK hP 1 0 rfl rfl hc_4 (j := (begin + x2).toNatClampNeg) rfl dX8_rowItem_90 ?_
            refine lv_bipush (v := 48) hx hb dX8_rowItem_91 (by decide) ?_
            refine lv_isub hx hb dX8_rowItem_93 ?_
            obtain ⟨hc_5, hf⟩ := vm_ck hf
            refine vm_iast hx hb hK hP hD hS 2 0 rfl rfl hc_5 (j := (((9 + ((read 0) * rows)) + x2).toNatClampNeg)) rfl dX8_rowItem_94 (fun H locs hP hD hS => ?_)
            have hP : va_P Γ.1 vwCl (wd_X8_rowItem Γ q0 q1 q2 d0 d1 d2 d3 d4 d5 d6 d7 d8 d9 d10 d11 d12 length undoMany zeroKept oneKept seen spot kind begin letters figures value plated driven rows periods leastPeriod text (upd read (((9 + ((read 0) * rows)) + x2).toNatClampNeg) ((text ((begin + x2).toNatClampNeg)) - 48))) H := hP
            have hD : va_D A (wd_X8_rowItem Γ q0 q1 q2 d0 d1 d2 d3 d4 d5 d6 d7 d8 d9 d10 d11 d12 length undoMany zeroKept oneKept seen spot kind begin letters figures value plated driven rows periods leastPeriod text (upd read (((9 + ((read 0) * rows)) + x2).toNatClampNeg) ((text ((begin + x2).toNatClampNeg)) - 48))) := hD
            refine lv_aload_n hx hb dX8_rowItem_95 rfl (lv_at hl 0 rfl) ?_
            refine va_get (D := Γ.1) (ci := 8) (v := .ref q1) (C := RX8) (T := TX8) (N := 31) hx hb hts hi8 hown hK hP 0 rfl rfl 1 (by decide) (hts (.fieldLink RX8 7 "SandPlatesModel" "text" "[I") (List.mem_of_getElem? (i := 5) rfl)) (fun _ h9 => h9) rfl dX8_rowItem_96 ?_
            refine lv_aload_n hx hb dX8_rowItem_99 rfl (lv_at hl 0 rfl) ?_
            refine va_get (D := Γ.1) (ci := 8) (v := .int begin) (C := RX8) (T := TX8) (N := 31) hx hb hts hi8 hown hK hP 0 rfl rfl 14 (by decide) (hts (.fieldLink RX8 76 "SandPlatesModel" "begin" "I") (List.mem_of_getElem? (i := 6) rfl)) (fun _ h9 => h9) rfl dX8_rowItem_100 ?_
            refine lv_iload_n hx hb dX8_rowItem_103 rfl (lv_at hl 2 rfl) ?_
            refine lv_iadd hx hb dX8_rowItem_104 ?_
            obtain ⟨hc_6, hf⟩ := vm_ck hf
            refine vm_iald hx hb hK hP 1 0 rfl rfl hc_6 (j := (begin + x2).toNatClampNeg) rfl dX8_rowItem_105 ?_
            refine lv_bipush (v := 50) hx hb dX8_rowItem_106 (by decide) ?_
            refine lv_icmp_ge (tgt := 115) hx hb dX8_rowItem_108 (by decide) (fun hc_7 => ?_) (fun hc_7 => ?_)
            · have hf := vm_pos hc_7 hf
              refine lv_iconst (v := 0) hx hb dX8_rowItem_115 (by decide) ?_
              exact K_116 (upd read (((9 + ((read 0) * rows)) + x2).toNatClampNeg) ((text ((begin + x2).toNatClampNeg)) - 48)) x2 0 hP hD hS (lv_sub hl [0, 2] rfl) hf
            · have hf := vm_neg hc_7 hf
              refine lv_iconst (v := 1) hx hb dX8_rowItem_111 (by decide) ?_
              refine lv_goto (tgt := 116) hx hb dX8_rowItem_112 (by decide) ?_
              exact K_116 (upd read (((9 + ((read 0) * rows)) + x2).toNatClampNeg) ((text ((begin + x2).toNatClampNeg)) - 48)) x2 1 hP hD hS (lv_sub hl [0, 2] rfl) hf
    exact LP FU read x1 x2 hP hD hS hl h1
  have K_45 : ∀ (spot : Int32) (kind : Int32) (begin : Int32) (letters : Int64) (figures : Int32) (value : Int32) (rows : Int32) (read : Nat → Int32) (s0 : Int32) {H : Heap} {locs : List Loc} {ls : Array Slot}, va_P Γ.1 vwCl (wd_X8_rowItem Γ q0 q1 q2 d0 d1 d2 d3 d4 d5 d6 d7 d8 d9 d10 d11 d12 length undoMany zeroKept oneKept seen spot kind begin letters figures value plated driven rows periods leastPeriod text read) H → va_D A (wd_X8_rowItem Γ q0 q1 q2 d0 d1 d2 d3 d4 d5 d6 d7 d8 d9 d10 d11 d12 length undoMany zeroKept oneKept seen spot kind begin letters figures value plated driven rows periods leastPeriod text read) → va_S A s.heap H locs → lv_has ls 3 [(0, .ref q0)] → f_X8_rowItem_45 spot kind begin letters figures value rows text read s0 = some out → W p l e ({ frames := 3, cells := 0, slots := 0, locals := 67 } : Room) s m ([.ref q0] : List Value).toArray below meth c H locs 0 0 QQ (F0 m 45 ls [.int s0]) := by
    intro spot kind begin letters figures value rows read s0 H locs ls hP hD hS hl hf
    unfold f_X8_rowItem_45 at hf
    refine lv_istore_n (lv' := [(1, .int s0), (0, .ref q0)]) hx hb dX8_rowItem_45 rfl hl (by decide) rfl (fun ls hl => ?_)
    refine lv_iconst (v := 0) hx hb dX8_rowItem_46 (by decide) ?_
    refine lv_istore_n (lv' := [(2, .int 0), (1, .int s0), (0, .ref q0)]) hx hb dX8_rowItem_47 rfl hl (by decide) rfl (fun ls hl => ?_)
    exact K_48 spot kind begin letters figures value rows read s0 0 hP hD hS (lv_sub hl [2, 1, 0] rfl) hf
  have K_44 : ∀ (spot : Int32) (kind : Int32) (begin : Int32) (letters : Int64) (figures : Int32) (value : Int32) (rows : Int32) (read : Nat → Int32) {H : Heap} {locs : List Loc} {ls : Array Slot}, va_P Γ.1 vwCl (wd_X8_rowItem Γ q0 q1 q2 d0 d1 d2 d3 d4 d5 d6 d7 d8 d9 d10 d11 d12 length undoMany zeroKept oneKept seen spot kind begin letters figures value plated driven rows periods leastPeriod text read) H → va_D A (wd_X8_rowItem Γ q0 q1 q2 d0 d1 d2 d3 d4 d5 d6 d7 d8 d9 d10 d11 d12 length undoMany zeroKept oneKept seen spot kind begin letters figures value plated driven rows periods leastPeriod text read) → va_S A s.heap H locs → lv_has ls 3 [(0, .ref q0)] → f_X8_rowItem_44 spot kind begin letters figures value rows text read = some out → W p l e ({ frames := 3, cells := 0, slots := 0, locals := 67 } : Room) s m ([.ref q0] : List Value).toArray below meth c H locs 0 0 QQ (F0 m 44 ls []) := by
    intro spot kind begin letters figures value rows read H locs ls hP hD hS hl hf
    unfold f_X8_rowItem_44 at hf
    refine lv_iconst (v := 0) hx hb dX8_rowItem_44 (by decide) ?_
    exact K_45 spot kind begin letters figures value rows read 0 hP hD hS (lv_sub hl [0] rfl) hf
  unfold f_X8_rowItem at hf
  refine lv_aload_n hx hb dX8_rowItem_0 rfl (lv_at hl 0 rfl) ?_
  refine va_get (D := Γ.1) (ci := 8) (v := .int rows) (C := RX8) (T := TX8) (N := 31) hx hb hts hi8 hown hK hP 0 rfl rfl 20 (by decide) (hts (.fieldLink RX8 101 "SandPlatesModel" "rows" "I") (List.mem_of_getElem? (i := 1) rfl)) (fun _ h9 => h9) rfl dX8_rowItem_1 ?_
  refine lv_aload_n hx hb dX8_rowItem_4 rfl (lv_at hl 0 rfl) ?_
  refine va_get (D := Γ.1) (ci := 8) (v := .ref q2) (C := RX8) (T := TX8) (N := 31) hx hb hts hi8 hown hK hP 0 rfl rfl 3 (by decide) (hts (.fieldLink RX8 16 "SandPlatesModel" "read" "[I") (List.mem_of_getElem? (i := 2) rfl)) (fun _ h9 => h9) rfl dX8_rowItem_5 ?_
  refine lv_iconst (v := 1) hx hb dX8_rowItem_8 (by decide) ?_
  refine vm_iald hx hb hK hP 2 0 rfl rfl (by decide +kernel) (j := 1) rfl dX8_rowItem_9 ?_
  refine lv_icmp_ne (tgt := 15) hx hb dX8_rowItem_10 (by decide) (fun hc_8 => ?_) (fun hc_8 => ?_)
  · have hf := vm_neg hc_8 hf
    refine lv_aload_n hx hb dX8_rowItem_15 rfl (lv_at hl 0 rfl) ?_
    obtain ⟨spot_9, kind_10, begin_11, letters_12, figures_13, value_14, hq_15, hf⟩ := ob6_some hf
    refine vm_cVv (isC := [0, 1]) (wc := (wd_X8_takes Γ q0 q1 d0 q2 d1 d2 d3 d4 d5 d6 d7 d8 d9 d10 d11 d12 length undoMany zeroKept oneKept seen spot kind begin letters figures value plated driven rows periods leastPeriod text)) (w1 := (wd_X8_takes Γ q0 q1 d0 q2 d1 d2 d3 d4 d5 d6 d7 d8 d9 d10 d11 d12 length undoMany zeroKept oneKept seen spot_9 kind_10 begin_11 letters_12 figures_13 value_14 plated driven rows periods leastPeriod text)) (As := []) (rest := []) ⟨hx, hb, hml, hown, hts⟩ hE hP hD hS hA rfl rfl rfl (c_X8_takes l Γ _ q0 q1 d0 q2 d1 d2 d3 d4 d5 d6 d7 d8 d9 d10 d11 d12 length undoMany zeroKept oneKept seen spot kind begin letters figures value plated driven rows periods leastPeriod text spot_9 kind_10 begin_11 letters_12 figures_13 value_14 hq_15) (cwV 0 hts gX8_rowItem_X8_takes rfl rfl rfl (by decide +kernel) ⟨Nat.le_of_ble_eq_true rfl, Nat.le_of_ble_eq_true rfl⟩) (va_recv (ci := 8) (q0 := 0) hK hP rfl rfl) rfl hl.1 rfl (Nat.le_of_ble_eq_true rfl) dX8_rowItem_16 ⟨Nat.zero_le _, Nat.zero_le _⟩ (fun H locs hP hD hS => ?_)
    have hP : va_P Γ.1 vwCl (wd_X8_rowItem Γ q0 q1 q2 d0 d1 d2 d3 d4 d5 d6 d7 d8 d9 d10 d11 d12 length undoMany zeroKept oneKept seen spot_9 kind_10 begin_11 letters_12 figures_13 value_14 plated driven rows periods leastPeriod text read) H := hP
    have hD : va_D A (wd_X8_rowItem Γ q0 q1 q2 d0 d1 d2 d3 d4 d5 d6 d7 d8 d9 d10 d11 d12 length undoMany zeroKept oneKept seen spot_9 kind_10 begin_11 letters_12 figures_13 value_14 plated driven rows periods leastPeriod text read) := hD
    refine lv_aload_n hx hb dX8_rowItem_19 rfl (lv_at hl 0 rfl) ?_
    refine va_get (D := Γ.1) (ci := 8) (v := .int kind_10) (C := RX8) (T := TX8) (N := 31) hx hb hts hi8 hown hK hP 0 rfl rfl 13 (by decide) (hts (.fieldLink RX8 89 "SandPlatesModel" "kind" "I") (List.mem_of_getElem? (i := 3) rfl)) (fun _ h9 => h9) rfl dX8_rowItem_20 ?_
    refine lv_iconst (v := 2) hx hb dX8_rowItem_23 (by decide) ?_
    refine lv_icmp_ne (tgt := 44) hx hb dX8_rowItem_24 (by decide) (fun hc_16 => ?_) (fun hc_16 => ?_)
    · have hf := vm_neg hc_16 hf
      exact K_44 spot_9 kind_10 begin_11 letters_12 figures_13 value_14 rows read hP hD hS (lv_sub hl [0] rfl) hf
    · have hf := vm_pos hc_16 hf
      refine lv_aload_n hx hb dX8_rowItem_27 rfl (lv_at hl 0 rfl) ?_
      refine va_get (D := Γ.1) (ci := 8) (v := .int figures_13) (C := RX8) (T := TX8) (N := 31) hx hb hts hi8 hown hK hP 0 rfl rfl 16 (by decide) (hts (.fieldLink RX8 83 "SandPlatesModel" "figures" "I") (List.mem_of_getElem? (i := 4) rfl)) (fun _ h9 => h9) rfl dX8_rowItem_28 ?_
      refine lv_aload_n hx hb dX8_rowItem_31 rfl (lv_at hl 0 rfl) ?_
      refine va_get (D := Γ.1) (ci := 8) (v := .ref q2) (C := RX8) (T := TX8) (N := 31) hx hb hts hi8 hown hK hP 0 rfl rfl 3 (by decide) (hts (.fieldLink RX8 16 "SandPlatesModel" "read" "[I") (List.mem_of_getElem? (i := 2) rfl)) (fun _ h9 => h9) rfl dX8_rowItem_32 ?_
      refine lv_iconst (v := 0) hx hb dX8_rowItem_35 (by decide) ?_
      refine vm_iald hx hb hK hP 2 0 rfl rfl (by decide +kernel) (j := 0) rfl dX8_rowItem_36 ?_
      refine lv_icmp_ne (tgt := 44) hx hb dX8_rowItem_37 (by decide) (fun hc_17 => ?_) (fun hc_17 => ?_)
      · have hf := vm_neg hc_17 hf
        exact K_44 spot_9 kind_10 begin_11 letters_12 figures_13 value_14 rows read hP hD hS (lv_sub hl [0] rfl) hf
      · have hf := vm_pos hc_17 hf
        refine lv_iconst (v := 1) hx hb dX8_rowItem_40 (by decide) ?_
        refine lv_goto (tgt := 45) hx hb dX8_rowItem_41 (by decide) ?_
        exact K_45 spot_9 kind_10 begin_11 letters_12 figures_13 value_14 rows read 1 hP hD hS (lv_sub hl [0] rfl) hf
  · have hf := vm_pos hc_8 hf
    refine lv_iconst (v := 0) hx hb dX8_rowItem_13 (by decide) ?_
    subst hout; obtain ⟨rfl, rfl, rfl, rfl, rfl, rfl, rfl, rfl, rfl⟩ := rt9 hf
    subst hQQ
    exact W.zret hx hb hr rfl (fun t ht hW => ⟨⟨_, (), rfl, rfl, by rw [ht]; exact hP, hD⟩, hS.F ht⟩) hS.2.2 dX8_rowItem_14
def wd_X8_driveItem (Γ : GE) (q0 q1 q2 d0 d1 d2 d3 d4 d5 d6 d7 d8 d9 d10 d11 d12 : Nat) (length : Int32) (undoMany : Int32) (zeroKept : Int32) (oneKept : Int32) (seen : Int32) (spot : Int32) (kind : Int32) (begin : Int32) (letters : Int64) (figures : Int32) (value : Int32) (plated : Int32) (driven : Int32) (rows : Int32) (periods : Int32) (leastPeriod : Int32) (text : Nat → Int32) (read : Nat → Int32) : va_W := [(q0, .inr (8, [.int length, .ref q1, .ref d0, .ref q2, .ref d1, .int undoMany, .ref d2, .int zeroKept, .int oneKept, .ref d3, .ref d4, .int seen, .int spot, .int kind, .int begin, .long letters, .int figures, .int value, .int plated, .int driven, .int rows, .ref d5, .ref d6, .ref d7, .ref d8, .ref d9, .ref d10, .ref d11, .ref d12, .int periods, .int leastPeriod])), (q1, .inl (Γ.2.1 0, 120, .inl text)), (q2, .inl (Γ.2.1 0, 81, .inl read))]
def f_X8_driveItem (length : Int32) (spot : Int32) (text : Nat → Int32) (read : Nat → Int32) : Option (Int32 × Int32 × Int32 × Int32 × Int64 × Int32 × Int32 × Int32 × (Nat → Int32)) := ob8 (f_X8_number length spot text read 8 0 ((read 0) - 1)) (fun r_1 spot_2 kind_3 begin_4 letters_5 figures_6 value_7 read_8 => if r_1 = 0 then (some (0, spot_2, kind_3, begin_4, letters_5, figures_6, value_7, 1, read_8)) else (ob8 (f_X8_number length spot_2 text read_8 8 0 ((read_8 1) - 1)) (fun r_11 spot_12 kind_13 begin_14 letters_15 figures_16 value_17 read_18 => if r_11 = 0 then (some (0, spot_12, kind_13, begin_14, letters_15, figures_16, value_17, 1, read_18)) else (some (1, spot_12, kind_13, begin_14, letters_15, figures_16, value_17, 1, (upd read_18 8 (((read_18 0) * (read_18 8)) + (read_8 8))))))))
set_option maxHeartbeats 4000000 in
set_option maxRecDepth 100000 in
theorem c_X8_driveItem (l : Launch) (Γ : GE) (sz : Nat) (q0 q1 q2 d0 d1 d2 d3 d4 d5 d6 d7 d8 d9 d10 d11 d12 : Nat) (length : Int32) (undoMany : Int32) (zeroKept : Int32) (oneKept : Int32) (seen : Int32) (spot : Int32) (kind : Int32) (begin : Int32) (letters : Int64) (figures : Int32) (value : Int32) (plated : Int32) (driven : Int32) (rows : Int32) (periods : Int32) (leastPeriod : Int32) (text : Nat → Int32) (read : Nat → Int32) (ro : Int32) (o_spot : Int32) (o_kind : Int32) (o_begin : Int32) (o_letters : Int64) (o_figures : Int32) (o_value : Int32) (o_driven : Int32) (o_read : Nat → Int32) (hf : f_X8_driveItem length spot text read = some (ro, o_spot, o_kind, o_begin, o_letters, o_figures, o_value, o_driven, o_read)) : MetI l yX8_driveItem wsX8_driveItem ({ frames := 4, cells := 0, slots := 0, locals := 90 } : Room) Γ [.ref q0] (wd_X8_driveItem Γ q0 q1 q2 d0 d1 d2 d3 d4 d5 d6 d7 d8 d9 d10 d11 d12 length undoMany zeroKept oneKept seen spot kind begin letters figures value plated driven rows periods leastPeriod text read) (wd_X8_driveItem Γ q0 q1 q2 d0 d1 d2 d3 d4 d5 d6 d7 d8 d9 d10 d11 d12 length undoMany zeroKept oneKept seen o_spot o_kind o_begin o_letters o_figures o_value plated o_driven rows periods leastPeriod text o_read) sz ro := by
  refine Met.ofW (cc := cX8_driveItem) (maxL := 2) (ret := (some .boolean)) (by decide) rfl ?_
  intro p e s m args below meth c s₁ B hml hv
  obtain ⟨rfl, hsz, hE, hP, hD⟩ := hv
  have hx := B.exec
  have hb := B.bytes
  have hr := B.returns
  have hts := atoms_spec (ws := wsX8_driveItem) B.pre
  have hown : s.vm.findClass RX8 = some m.cls := findClass_of_methodNamed B.named
  have hlocks := B.notSynchronized
  subst hsz
  generalize hAe : va_A (wd_X8_driveItem Γ q0 q1 q2 d0 d1 d2 d3 d4 d5 d6 d7 d8 d9 d10 d11 d12 length undoMany zeroKept oneKept seen spot kind begin letters figures value plated driven rows periods leastPeriod text read) s.heap.size = A at hE hD ⊢
  have hA : ∀ q : Nat, s.heap.size ≤ q → A q := fun q h => by rw [← hAe]; exact Or.inr h
  clear hAe
  have hS : va_S A s.heap s.heap [] := va_S.rf
  have hK := hE.1
  have hl := lv_entry ([.ref q0]) (n := 2) (Nat.le_of_ble_eq_true rfl)
  rw [lg_entry_eq]
  generalize (lg_sl ([.ref q0]) ++ List.replicate (2 - (lg_sl ([.ref q0])).length) Slot.unset).toArray = ls at hl ⊢
  have hl : lv_has ls 2 [(0, .ref q0)] := hl
  have hi8 : ∀ w ∈ u_ws RX8 TX8 31, w ∈ wsX8_driveItem := fun w h => (List.mem_cons_of_mem _ (List.mem_append_right _ h))
  obtain ⟨out, hout⟩ : ∃ o, o = (ro, o_spot, o_kind, o_begin, o_letters, o_figures, o_value, o_driven, o_read) := ⟨_, rfl⟩
  rw [← hout] at hf
  obtain ⟨QQ, hQQ⟩ : ∃ Q, Q = MQ below (va_Qi (fun (r' : Int32) (_ : Unit) => r' = ro) (CQ Γ (wd_X8_driveItem Γ q0 q1 q2 d0 d1 d2 d3 d4 d5 d6 d7 d8 d9 d10 d11 d12 length undoMany zeroKept oneKept seen o_spot o_kind o_begin o_letters o_figures o_value plated o_driven rows periods leastPeriod text o_read) A) A) (([.ref q0] : List Value).toArray) s 0 0 A := ⟨_, rfl⟩
  show W p l e ({ frames := 4, cells := 0, slots := 0, locals := 90 } : Room) s m (([.ref q0] : List Value).toArray) below meth c s.heap [] 0 0 (MQ below _ (([.ref q0] : List Value).toArray) s 0 0 A) (F0 m 0 ls [])
  rw [← hQQ]
  unfold f_X8_driveItem at hf
  refine lv_aload_n hx hb dX8_driveItem_0 rfl (lv_at hl 0 rfl) ?_
  refine lv_iconst (v := 1) hx hb dX8_driveItem_1 (by decide) ?_
  refine va_put (D := Γ.1) (ci := 8) (v := .int 1) (ty := .boolean) (C := RX8) (T := TX8) (N := 31) hx hb hts hi8 tyX8 tyX8_ok nmX8 hown hK hP hD hS 0 rfl rfl 19 (by decide) (hts (.fieldLink RX8 104 "SandPlatesModel" "driven" "Z") (List.mem_of_getElem? (i := 1) rfl)) (fun _ h9 => h9) rfl (by decide +kernel) rfl rfl (Nat.le_of_ble_eq_true rfl) dX8_driveItem_2 (fun H locs hP hD hS => ?_)
  have hP : va_P Γ.1 vwCl (wd_X8_driveItem Γ q0 q1 q2 d0 d1 d2 d3 d4 d5 d6 d7 d8 d9 d10 d11 d12 length undoMany zeroKept oneKept seen spot kind begin letters figures value plated 1 rows periods leastPeriod text read) H := hP
  have hD : va_D A (wd_X8_driveItem Γ q0 q1 q2 d0 d1 d2 d3 d4 d5 d6 d7 d8 d9 d10 d11 d12 length undoMany zeroKept oneKept seen spot kind begin letters figures value plated 1 rows periods leastPeriod text read) := hD
  refine lv_aload_n hx hb dX8_driveItem_5 rfl (lv_at hl 0 rfl) ?_
  refine lv_bipush (v := 8) hx hb dX8_driveItem_6 (by decide) ?_
  refine lv_iconst (v := 0) hx hb dX8_driveItem_8 (by decide) ?_
  refine lv_aload_n hx hb dX8_driveItem_9 rfl (lv_at hl 0 rfl) ?_
  refine va_get (D := Γ.1) (ci := 8) (v := .ref q2) (C := RX8) (T := TX8) (N := 31) hx hb hts hi8 hown hK hP 0 rfl rfl 3 (by decide) (hts (.fieldLink RX8 16 "SandPlatesModel" "read" "[I") (List.mem_of_getElem? (i := 2) rfl)) (fun _ h9 => h9) rfl dX8_driveItem_10 ?_
  refine lv_iconst (v := 0) hx hb dX8_driveItem_13 (by decide) ?_
  refine vm_iald hx hb hK hP 2 0 rfl rfl (by decide +kernel) (j := 0) rfl dX8_driveItem_14 ?_
  refine lv_iconst (v := 1) hx hb dX8_driveItem_15 (by decide) ?_
  refine lv_isub hx hb dX8_driveItem_16 ?_
  obtain ⟨r_1, spot_2, kind_3, begin_4, letters_5, figures_6, value_7, read_8, hq_9, hf⟩ := ob8_some hf
  refine vm_cVi (isC := [0, 1, 2]) (wc := (wd_X8_number Γ q0 q1 q2 d0 d1 d2 d3 d4 d5 d6 d7 d8 d9 d10 d11 d12 length undoMany zeroKept oneKept seen spot kind begin letters figures value plated 1 rows periods leastPeriod text read)) (w1 := (wd_X8_number Γ q0 q1 q2 d0 d1 d2 d3 d4 d5 d6 d7 d8 d9 d10 d11 d12 length undoMany zeroKept oneKept seen spot_2 kind_3 begin_4 letters_5 figures_6 value_7 plated 1 rows periods leastPeriod text read_8)) (As := [.int 8, .int 0, .int ((read 0) - 1)]) (rest := []) ⟨hx, hb, hml, hown, hts⟩ hE hP hD hS hA rfl rfl rfl (c_X8_number l Γ _ q0 q1 q2 d0 d1 d2 d3 d4 d5 d6 d7 d8 d9 d10 d11 d12 length undoMany zeroKept oneKept seen spot kind begin letters figures value plated 1 rows periods leastPeriod text read 8 0 ((read 0) - 1) r_1 spot_2 kind_3 begin_4 letters_5 figures_6 value_7 read_8 hq_9) (cwV 3 hts gX8_driveItem_X8_number rfl rfl rfl (by decide +kernel) ⟨Nat.le_of_ble_eq_true rfl, Nat.le_of_ble_eq_true rfl⟩) (va_recv (ci := 8) (q0 := 0) hK hP rfl rfl) rfl hl.1 rfl (Nat.le_of_ble_eq_true rfl) dX8_driveItem_17 ⟨Nat.zero_le _, Nat.zero_le _⟩ (fun H locs hP hD hS => ?_)
  have hP : va_P Γ.1 vwCl (wd_X8_driveItem Γ q0 q1 q2 d0 d1 d2 d3 d4 d5 d6 d7 d8 d9 d10 d11 d12 length undoMany zeroKept oneKept seen spot_2 kind_3 begin_4 letters_5 figures_6 value_7 plated 1 rows periods leastPeriod text read_8) H := hP
  have hD : va_D A (wd_X8_driveItem Γ q0 q1 q2 d0 d1 d2 d3 d4 d5 d6 d7 d8 d9 d10 d11 d12 length undoMany zeroKept oneKept seen spot_2 kind_3 begin_4 letters_5 figures_6 value_7 plated 1 rows periods leastPeriod text read_8) := hD
  refine lv_if_ne (tgt := 25) hx hb dX8_driveItem_20 (by decide) (fun hc_10 => ?_) (fun hc_10 => ?_)
  · have hf := vm_neg hc_10 hf
    refine lv_aload_n hx hb dX8_driveItem_25 rfl (lv_at hl 0 rfl) ?_
    refine va_get (D := Γ.1) (ci := 8) (v := .ref q2) (C := RX8) (T := TX8) (N := 31) hx hb hts hi8 hown hK hP 0 rfl rfl 3 (by decide) (hts (.fieldLink RX8 16 "SandPlatesModel" "read" "[I") (List.mem_of_getElem? (i := 2) rfl)) (fun _ h9 => h9) rfl dX8_driveItem_26 ?_
    refine lv_bipush (v := 8) hx hb dX8_driveItem_29 (by decide) ?_
    refine vm_iald hx hb hK hP 2 0 rfl rfl (by decide +kernel) (j := 8) rfl dX8_driveItem_31 ?_
    refine lv_istore_n (lv' := [(1, .int (read_8 8)), (0, .ref q0)]) hx hb dX8_driveItem_32 rfl hl (by decide) rfl (fun ls hl => ?_)
    refine lv_aload_n hx hb dX8_driveItem_33 rfl (lv_at hl 1 rfl) ?_
    refine lv_bipush (v := 8) hx hb dX8_driveItem_34 (by decide) ?_
    refine lv_iconst (v := 0) hx hb dX8_driveItem_36 (by decide) ?_
    refine lv_aload_n hx hb dX8_driveItem_37 rfl (lv_at hl 1 rfl) ?_
    refine va_get (D := Γ.1) (ci := 8) (v := .ref q2) (C := RX8) (T := TX8) (N := 31) hx hb hts hi8 hown hK hP 0 rfl rfl 3 (by decide) (hts (.fieldLink RX8 16 "SandPlatesModel" "read" "[I") (List.mem_of_getElem? (i := 2) rfl)) (fun _ h9 => h9) rfl dX8_driveItem_38 ?_
    refine lv_iconst (v := 1) hx hb dX8_driveItem_41 (by decide) ?_
    refine vm_iald hx hb hK hP 2 0 rfl rfl (by decide +kernel) (j := 1) rfl dX8_driveItem_42 ?_
    refine lv_iconst (v := 1) hx hb dX8_driveItem_43 (by decide) ?_
    refine lv_isub hx hb dX8_driveItem_44 ?_
    obtain ⟨r_11, spot_12, kind_13, begin_14, letters_15, figures_16, value_17, read_18, hq_19, hf⟩ := ob8_some hf
    refine vm_cVi (isC := [0, 1, 2]) (wc := (wd_X8_number Γ q0 q1 q2 d0 d1 d2 d3 d4 d5 d6 d7 d8 d9 d10 d11 d12 length undoMany zeroKept oneKept seen spot_2 kind_3 begin_4 letters_5 figures_6 value_7 plated 1 rows periods leastPeriod text read_8)) (w1 := (wd_X8_number Γ q0 q1 q2 d0 d1 d2 d3 d4 d5 d6 d7 d8 d9 d10 d11 d12 length undoMany zeroKept oneKept seen spot_12 kind_13 begin_14 letters_15 figures_16 value_17 plated 1 rows periods leastPeriod text read_18)) (As := [.int 8, .int 0, .int ((read_8 1) - 1)]) (rest := []) ⟨hx, hb, hml, hown, hts⟩ hE hP hD hS hA rfl rfl rfl (c_X8_number l Γ _ q0 q1 q2 d0 d1 d2 d3 d4 d5 d6 d7 d8 d9 d10 d11 d12 length undoMany zeroKept oneKept seen spot_2 kind_3 begin_4 letters_5 figures_6 value_7 plated 1 rows periods leastPeriod text read_8 8 0 ((read_8 1) - 1) r_11 spot_12 kind_13 begin_14 letters_15 figures_16 value_17 read_18 hq_19) (cwV 3 hts gX8_driveItem_X8_number rfl rfl rfl (by decide +kernel) ⟨Nat.le_of_ble_eq_true rfl, Nat.le_of_ble_eq_true rfl⟩) (va_recv (ci := 8) (q0 := 0) hK hP rfl rfl) rfl hl.1 rfl (Nat.le_of_ble_eq_true rfl) dX8_driveItem_45 ⟨Nat.zero_le _, Nat.zero_le _⟩ (fun H locs hP hD hS => ?_)
    have hP : va_P Γ.1 vwCl (wd_X8_driveItem Γ q0 q1 q2 d0 d1 d2 d3 d4 d5 d6 d7 d8 d9 d10 d11 d12 length undoMany zeroKept oneKept seen spot_12 kind_13 begin_14 letters_15 figures_16 value_17 plated 1 rows periods leastPeriod text read_18) H := hP
    have hD : va_D A (wd_X8_driveItem Γ q0 q1 q2 d0 d1 d2 d3 d4 d5 d6 d7 d8 d9 d10 d11 d12 length undoMany zeroKept oneKept seen spot_12 kind_13 begin_14 letters_15 figures_16 value_17 plated 1 rows periods leastPeriod text read_18) := hD
    refine lv_if_ne (tgt := 53) hx hb dX8_driveItem_48 (by decide) (fun hc_20 => ?_) (fun hc_20 => ?_)
    · have hf := vm_neg hc_20 hf
      refine lv_aload_n hx hb dX8_driveItem_53 rfl (lv_at hl 1 rfl) ?_
      refine va_get (D := Γ.1) (ci := 8) (v := .ref q2) (C := RX8) (T := TX8) (N := 31) hx hb hts hi8 hown hK hP 0 rfl rfl 3 (by decide) (hts (.fieldLink RX8 16 "SandPlatesModel" "read" "[I") (List.mem_of_getElem? (i := 2) rfl)) (fun _ h9 => h9) rfl dX8_driveItem_54 ?_
      refine lv_bipush (v := 8) hx hb dX8_driveItem_57 (by decide) ?_
      refine lv_aload_n hx hb dX8_driveItem_59 rfl (lv_at hl 1 rfl) ?_
      refine va_get (D := Γ.1) (ci := 8) (v := .ref q2) (C := RX8) (T := TX8) (N := 31) hx hb hts hi8 hown hK hP 0 rfl rfl 3 (by decide) (hts (.fieldLink RX8 16 "SandPlatesModel" "read" "[I") (List.mem_of_getElem? (i := 2) rfl)) (fun _ h9 => h9) rfl dX8_driveItem_60 ?_
      refine lv_iconst (v := 0) hx hb dX8_driveItem_63 (by decide) ?_
      refine vm_iald hx hb hK hP 2 0 rfl rfl (by decide +kernel) (j := 0) rfl dX8_driveItem_64 ?_
      refine lv_aload_n hx hb dX8_driveItem_65 rfl (lv_at hl 1 rfl) ?_
      refine va_get (D := Γ.1) (ci := 8) (v := .ref q2) (C := RX8) (T := TX8) (N := 31) hx hb hts hi8 hown hK hP 0 rfl rfl 3 (by decide) (hts (.fieldLink RX8 16 "SandPlatesModel" "read" "[I") (List.mem_of_getElem? (i := 2) rfl)) (fun _ h9 => h9) rfl dX8_driveItem_66 ?_
      refine lv_bipush (v := 8) hx hb dX8_driveItem_69 (by decide) ?_
      refine vm_iald hx hb hK hP 2 0 rfl rfl (by decide +kernel) (j := 8) rfl dX8_driveItem_71 ?_
      refine lv_imul hx hb dX8_driveItem_72 ?_
      refine lv_iload_n hx hb dX8_driveItem_73 rfl (lv_at hl 0 rfl) ?_
      refine lv_iadd hx hb dX8_driveItem_74 ?_
      refine vm_iast hx hb hK hP hD hS 2 0 rfl rfl (by decide +kernel) (j := 8) rfl dX8_driveItem_75 (fun H locs hP hD hS => ?_)
      have hP : va_P Γ.1 vwCl (wd_X8_driveItem Γ q0 q1 q2 d0 d1 d2 d3 d4 d5 d6 d7 d8 d9 d10 d11 d12 length undoMany zeroKept oneKept seen spot_12 kind_13 begin_14 letters_15 figures_16 value_17 plated 1 rows periods leastPeriod text (upd read_18 8 (((read_18 0) * (read_18 8)) + (read_8 8)))) H := hP
      have hD : va_D A (wd_X8_driveItem Γ q0 q1 q2 d0 d1 d2 d3 d4 d5 d6 d7 d8 d9 d10 d11 d12 length undoMany zeroKept oneKept seen spot_12 kind_13 begin_14 letters_15 figures_16 value_17 plated 1 rows periods leastPeriod text (upd read_18 8 (((read_18 0) * (read_18 8)) + (read_8 8)))) := hD
      refine lv_iconst (v := 1) hx hb dX8_driveItem_76 (by decide) ?_
      subst hout; obtain ⟨rfl, rfl, rfl, rfl, rfl, rfl, rfl, rfl, rfl⟩ := rt9 hf
      subst hQQ
      exact W.zret hx hb hr rfl (fun t ht hW => ⟨⟨_, (), rfl, rfl, by rw [ht]; exact hP, hD⟩, hS.F ht⟩) hS.2.2 dX8_driveItem_77
    · have hf := vm_pos hc_20 hf
      refine lv_iconst (v := 0) hx hb dX8_driveItem_51 (by decide) ?_
      subst hout; obtain ⟨rfl, rfl, rfl, rfl, rfl, rfl, rfl, rfl, rfl⟩ := rt9 hf
      subst hQQ
      exact W.zret hx hb hr rfl (fun t ht hW => ⟨⟨_, (), rfl, rfl, by rw [ht]; exact hP, hD⟩, hS.F ht⟩) hS.2.2 dX8_driveItem_52
  · have hf := vm_pos hc_10 hf
    refine lv_iconst (v := 0) hx hb dX8_driveItem_23 (by decide) ?_
    subst hout; obtain ⟨rfl, rfl, rfl, rfl, rfl, rfl, rfl, rfl, rfl⟩ := rt9 hf
    subst hQQ
    exact W.zret hx hb hr rfl (fun t ht hW => ⟨⟨_, (), rfl, rfl, by rw [ht]; exact hP, hD⟩, hS.F ht⟩) hS.2.2 dX8_driveItem_24
def wd_X8_item (Γ : GE) (q0 q1 q2 d0 d1 d2 d3 d4 d5 d6 d7 d8 d9 d10 d11 d12 : Nat) (length : Int32) (undoMany : Int32) (zeroKept : Int32) (oneKept : Int32) (seen : Int32) (spot : Int32) (kind : Int32) (begin : Int32) (letters : Int64) (figures : Int32) (value : Int32) (plated : Int32) (driven : Int32) (rows : Int32) (periods : Int32) (leastPeriod : Int32) (text : Nat → Int32) (read : Nat → Int32) : va_W := [(q0, .inr (8, [.int length, .ref q1, .ref d0, .ref q2, .ref d1, .int undoMany, .ref d2, .int zeroKept, .int oneKept, .ref d3, .ref d4, .int seen, .int spot, .int kind, .int begin, .long letters, .int figures, .int value, .int plated, .int driven, .int rows, .ref d5, .ref d6, .ref d7, .ref d8, .ref d9, .ref d10, .ref d11, .ref d12, .int periods, .int leastPeriod])), (q1, .inl (Γ.2.1 0, 120, .inl text)), (q2, .inl (Γ.2.1 0, 81, .inl read))]
def f_X8_item_321 (spot : Int32) (kind : Int32) (begin : Int32) (letters : Int64) (figures : Int32) (value : Int32) (plated : Int32) (driven : Int32) (rows : Int32) (read : Nat → Int32) (s0 : Int32) : Option (Int32 × Int32 × Int32 × Int32 × Int64 × Int32 × Int32 × Int32 × Int32 × Int32 × (Nat → Int32)) := if s0 = 0 ∨ s0 = 1 then some (s0, spot, kind, begin, letters, figures, value, plated, driven, rows, read) else none
def f_X8_item_320 (spot : Int32) (kind : Int32) (begin : Int32) (letters : Int64) (figures : Int32) (value : Int32) (plated : Int32) (driven : Int32) (rows : Int32) (read : Nat → Int32) : Option (Int32 × Int32 × Int32 × Int32 × Int64 × Int32 × Int32 × Int32 × Int32 × Int32 × (Nat → Int32)) := f_X8_item_321 spot kind begin letters figures value plated driven rows read 0
def f_X8_item_86 (spot : Int32) (kind : Int32) (begin : Int32) (letters : Int64) (figures : Int32) (value : Int32) (plated : Int32) (driven : Int32) (rows : Int32) (read : Nat → Int32) (s0 : Int32) : Option (Int32 × Int32 × Int32 × Int32 × Int64 × Int32 × Int32 × Int32 × Int32 × Int32 × (Nat → Int32)) := if s0 = 0 ∨ s0 = 1 then some (s0, spot, kind, begin, letters, figures, value, plated, driven, rows, read) else none
def f_X8_item_85 (spot : Int32) (kind : Int32) (begin : Int32) (letters : Int64) (figures : Int32) (value : Int32) (plated : Int32) (driven : Int32) (rows : Int32) (read : Nat → Int32) : Option (Int32 × Int32 × Int32 × Int32 × Int64 × Int32 × Int32 × Int32 × Int32 × Int32 × (Nat → Int32)) := f_X8_item_86 spot kind begin letters figures value plated driven rows read 0
def f_X8_item_52 (spot : Int32) (kind : Int32) (begin : Int32) (letters : Int64) (figures : Int32) (value : Int32) (plated : Int32) (driven : Int32) (rows : Int32) (read : Nat → Int32) : Option (Int32 × Int32 × Int32 × Int32 × Int64 × Int32 × Int32 × Int32 × Int32 × Int32 × (Nat → Int32)) := some (0, spot, kind, begin, letters, figures, value, plated, driven, rows, read)
def f_X8_item (length : Int32) (spot : Int32) (kind : Int32) (begin : Int32) (letters : Int64) (figures : Int32) (value : Int32) (plated : Int32) (driven : Int32) (rows : Int32) (text : Nat → Int32) (read : Nat → Int32) : Option (Int32 × Int32 × Int32 × Int32 × Int64 × Int32 × Int32 × Int32 × Int32 × Int32 × (Nat → Int32)) := if kind = 1 then (ob1 (f_X8_five 112 108 97 116 101) (fun r_4 => if (lg_cmp letters r_4) = 0 then (if plated = 0 then (if driven = 0 then (if rows ≤ 0 then (ob8 (f_X8_number length spot text read 0 2 6) (fun r_114 spot_115 kind_116 begin_117 letters_118 figures_119 value_120 read_121 => if r_114 = 0 then (f_X8_item_85 spot_115 kind_116 begin_117 letters_118 figures_119 value_120 1 driven rows read_121) else (ob8 (f_X8_number length spot_115 text read_121 1 2 6) (fun r_124 spot_125 kind_126 begin_127 letters_128 figures_129 value_130 read_131 => if r_124 = 0 then (f_X8_item_85 spot_125 kind_126 begin_127 letters_128 figures_129 value_130 1 driven rows read_131) else (f_X8_item_86 spot_125 kind_126 begin_127 letters_128 figures_129 value_130 1 driven rows read_131 1))))) else (f_X8_item_52 spot kind begin letters figures value plated driven rows read)) else (f_X8_item_52 spot kind begin letters figures value plated driven rows read)) else (f_X8_item_52 spot kind begin letters figures value plated driven rows read)) else (ob1 (f_X8_four 101 100 103 101) (fun r_7 => if (lg_cmp letters r_7) = 0 then (ob8 (f_X8_number length spot text read 2 0 1) (fun r_101 spot_102 kind_103 begin_104 letters_105 figures_106 value_107 read_108 => if r_101 = 0 ∨ r_101 = 1 then some (r_101, spot_102, kind_103, begin_104, letters_105, figures_106, value_107, plated, driven, rows, read_108) else none)) else (ob1 (f_X8_five 115 116 105 102 102) (fun r_10 => if (lg_cmp letters r_10) = 0 then (ob8 (f_X8_number length spot text read 3 1 7) (fun r_91 spot_92 kind_93 begin_94 letters_95 figures_96 value_97 read_98 => if r_91 = 0 ∨ r_91 = 1 then some (r_91, spot_92, kind_93, begin_94, letters_95, figures_96, value_97, plated, driven, rows, read_98) else none)) else (ob1 (f_X8_four 108 111 115 115) (fun r_13 => if (lg_cmp letters r_13) = 0 then (ob8 (f_X8_number length spot text read 4 2 20) (fun r_81 spot_82 kind_83 begin_84 letters_85 figures_86 value_87 read_88 => if r_81 = 0 ∨ r_81 = 1 then some (r_81, spot_82, kind_83, begin_84, letters_85, figures_86, value_87, plated, driven, rows, read_88) else none)) else (ob1 (f_X8_five 102 111 114 99 101) (fun r_16 => if (lg_cmp letters r_16) = 0 then (ob8 (f_X8_number length spot text read 5 1 99) (fun r_71 spot_72 kind_73 begin_74 letters_75 figures_76 value_77 read_78 => if r_71 = 0 ∨ r_71 = 1 then some (r_71, spot_72, kind_73, begin_74, letters_75, figures_76, value_77, plated, driven, rows, read_78) else none)) else (ob1 (f_X8_five 112 101 114 105 111) (fun r_19 => if (lg_cmp letters ((r_19 * 32) + 4)) = 0 then (ob8 (f_X8_number length spot text read 6 2 20) (fun r_61 spot_62 kind_63 begin_64 letters_65 figures_66 value_67 read_68 => if r_61 = 0 ∨ r_61 = 1 then some (r_61, spot_62, kind_63, begin_64, letters_65, figures_66, value_67, plated, driven, rows, read_68) else none)) else (ob1 (f_X8_five 108 105 109 105 116) (fun r_22 => if (lg_cmp letters r_22) = 0 then (ob8 (f_X8_number length spot text read 7 0 99) (fun r_51 spot_52 kind_53 begin_54 letters_55 figures_56 value_57 read_58 => if r_51 = 0 ∨ r_51 = 1 then some (r_51, spot_52, kind_53, begin_54, letters_55, figures_56, value_57, plated, driven, rows, read_58) else none)) else (ob1 (f_X8_five 100 114 105 118 101) (fun r_25 => if (lg_cmp letters r_25) = 0 then (ob9 (f_X8_driveItem length spot text read) (fun r_40 spot_41 kind_42 begin_43 letters_44 figures_45 value_46 driven_47 read_48 => if r_40 = 0 ∨ r_40 = 1 then some (r_40, spot_41, kind_42, begin_43, letters_44, figures_45, value_46, plated, driven_47, rows, read_48) else none)) else (if (lg_cmp letters 18935) = 0 then (ob9 (f_X8_rowItem length spot kind begin letters figures value rows text read) (fun r_29 spot_30 kind_31 begin_32 letters_33 figures_34 value_35 rows_36 read_37 => if r_29 = 0 then (f_X8_item_320 spot_30 kind_31 begin_32 letters_33 figures_34 value_35 plated driven rows_36 read_37) else (f_X8_item_321 spot_30 kind_31 begin_32 letters_33 figures_34 value_35 plated driven rows_36 read_37 1))) else (f_X8_item_320 spot kind begin letters figures value plated driven rows read)))))))))))))))))) else (some (0, spot, kind, begin, letters, figures, value, plated, driven, rows, read))
set_option maxHeartbeats 4000000 in
set_option maxRecDepth 100000 in
theorem c_X8_item (l : Launch) (Γ : GE) (sz : Nat) (q0 q1 q2 d0 d1 d2 d3 d4 d5 d6 d7 d8 d9 d10 d11 d12 : Nat) (length : Int32) (undoMany : Int32) (zeroKept : Int32) (oneKept : Int32) (seen : Int32) (spot : Int32) (kind : Int32) (begin : Int32) (letters : Int64) (figures : Int32) (value : Int32) (plated : Int32) (driven : Int32) (rows : Int32) (periods : Int32) (leastPeriod : Int32) (text : Nat → Int32) (read : Nat → Int32) (ro : Int32) (o_spot : Int32) (o_kind : Int32) (o_begin : Int32) (o_letters : Int64) (o_figures : Int32) (o_value : Int32) (o_plated : Int32) (o_driven : Int32) (o_rows : Int32) (o_read : Nat → Int32) (hf : f_X8_item length spot kind begin letters figures value plated driven rows text read = some (ro, o_spot, o_kind, o_begin, o_letters, o_figures, o_value, o_plated, o_driven, o_rows, o_read)) : MetI l yX8_item wsX8_item ({ frames := 5, cells := 0, slots := 0, locals := 111 } : Room) Γ [.ref q0] (wd_X8_item Γ q0 q1 q2 d0 d1 d2 d3 d4 d5 d6 d7 d8 d9 d10 d11 d12 length undoMany zeroKept oneKept seen spot kind begin letters figures value plated driven rows periods leastPeriod text read) (wd_X8_item Γ q0 q1 q2 d0 d1 d2 d3 d4 d5 d6 d7 d8 d9 d10 d11 d12 length undoMany zeroKept oneKept seen o_spot o_kind o_begin o_letters o_figures o_value o_plated o_driven o_rows periods leastPeriod text o_read) sz ro := by
  refine Met.ofW (cc := cX8_item) (maxL := 1) (ret := (some .boolean)) (by decide) rfl ?_
  intro p e s m args below meth c s₁ B hml hv
  obtain ⟨rfl, hsz, hE, hP, hD⟩ := hv
  have hx := B.exec
  have hb := B.bytes
  have hr := B.returns
  have hts := atoms_spec (ws := wsX8_item) B.pre
  have hown : s.vm.findClass RX8 = some m.cls := findClass_of_methodNamed B.named
  have hlocks := B.notSynchronized
  subst hsz
  generalize hAe : va_A (wd_X8_item Γ q0 q1 q2 d0 d1 d2 d3 d4 d5 d6 d7 d8 d9 d10 d11 d12 length undoMany zeroKept oneKept seen spot kind begin letters figures value plated driven rows periods leastPeriod text read) s.heap.size = A at hE hD ⊢
  have hA : ∀ q : Nat, s.heap.size ≤ q → A q := fun q h => by rw [← hAe]; exact Or.inr h
  clear hAe
  have hS : va_S A s.heap s.heap [] := va_S.rf
  have hK := hE.1
  have hl := lv_entry ([.ref q0]) (n := 1) (Nat.le_of_ble_eq_true rfl)
  rw [lg_entry_eq]
  generalize (lg_sl ([.ref q0]) ++ List.replicate (1 - (lg_sl ([.ref q0])).length) Slot.unset).toArray = ls at hl ⊢
  have hl : lv_has ls 1 [(0, .ref q0)] := hl
  have hi8 : ∀ w ∈ u_ws RX8 TX8 31, w ∈ wsX8_item := fun w h => (List.mem_cons_of_mem _ (List.mem_append_right _ h))
  obtain ⟨out, hout⟩ : ∃ o, o = (ro, o_spot, o_kind, o_begin, o_letters, o_figures, o_value, o_plated, o_driven, o_rows, o_read) := ⟨_, rfl⟩
  rw [← hout] at hf
  obtain ⟨QQ, hQQ⟩ : ∃ Q, Q = MQ below (va_Qi (fun (r' : Int32) (_ : Unit) => r' = ro) (CQ Γ (wd_X8_item Γ q0 q1 q2 d0 d1 d2 d3 d4 d5 d6 d7 d8 d9 d10 d11 d12 length undoMany zeroKept oneKept seen o_spot o_kind o_begin o_letters o_figures o_value o_plated o_driven o_rows periods leastPeriod text o_read) A) A) (([.ref q0] : List Value).toArray) s 0 0 A := ⟨_, rfl⟩
  show W p l e ({ frames := 5, cells := 0, slots := 0, locals := 111 } : Room) s m (([.ref q0] : List Value).toArray) below meth c s.heap [] 0 0 (MQ below _ (([.ref q0] : List Value).toArray) s 0 0 A) (F0 m 0 ls [])
  rw [← hQQ]
  have K_321 : ∀ (spot : Int32) (kind : Int32) (begin : Int32) (letters : Int64) (figures : Int32) (value : Int32) (plated : Int32) (driven : Int32) (rows : Int32) (read : Nat → Int32) (s0 : Int32) {H : Heap} {locs : List Loc} {ls : Array Slot}, va_P Γ.1 vwCl (wd_X8_item Γ q0 q1 q2 d0 d1 d2 d3 d4 d5 d6 d7 d8 d9 d10 d11 d12 length undoMany zeroKept oneKept seen spot kind begin letters figures value plated driven rows periods leastPeriod text read) H → va_D A (wd_X8_item Γ q0 q1 q2 d0 d1 d2 d3 d4 d5 d6 d7 d8 d9 d10 d11 d12 length undoMany zeroKept oneKept seen spot kind begin letters figures value plated driven rows periods leastPeriod text read) → va_S A s.heap H locs → lv_has ls 1 [] → f_X8_item_321 spot kind begin letters figures value plated driven rows read s0 = some out → W p l e ({ frames := 5, cells := 0, slots := 0, locals := 111 } : Room) s m ([.ref q0] : List Value).toArray below meth c H locs 0 0 QQ (F0 m 321 ls [.int s0]) := by
    intro spot kind begin letters figures value plated driven rows read s0 H locs ls hP hD hS hl hf
    unfold f_X8_item_321 at hf
    obtain ⟨hc_1, hf⟩ := vm_ck hf
    subst hout; obtain ⟨rfl, rfl, rfl, rfl, rfl, rfl, rfl, rfl, rfl, rfl, rfl⟩ := rt11 hf
    subst hQQ
    exact W.zret hx hb hr (vm_nz hc_1) (fun t ht hW => ⟨⟨_, (), rfl, rfl, by rw [ht]; exact hP, hD⟩, hS.F ht⟩) hS.2.2 dX8_item_321
  have K_320 : ∀ (spot : Int32) (kind : Int32) (begin : Int32) (letters : Int64) (figures : Int32) (value : Int32) (plated : Int32) (driven : Int32) (rows : Int32) (read : Nat → Int32) {H : Heap} {locs : List Loc} {ls : Array Slot}, va_P Γ.1 vwCl (wd_X8_item Γ q0 q1 q2 d0 d1 d2 d3 d4 d5 d6 d7 d8 d9 d10 d11 d12 length undoMany zeroKept oneKept seen spot kind begin letters figures value plated driven rows periods leastPeriod text read) H → va_D A (wd_X8_item Γ q0 q1 q2 d0 d1 d2 d3 d4 d5 d6 d7 d8 d9 d10 d11 d12 length undoMany zeroKept oneKept seen spot kind begin letters figures value plated driven rows periods leastPeriod text read) → va_S A s.heap H locs → lv_has ls 1 [] → f_X8_item_320 spot kind begin letters figures value plated driven rows read = some out → W p l e ({ frames := 5, cells := 0, slots := 0, locals := 111 } : Room) s m ([.ref q0] : List Value).toArray below meth c H locs 0 0 QQ (F0 m 320 ls []) := by
    intro spot kind begin letters figures value plated driven rows read H locs ls hP hD hS hl hf
    unfold f_X8_item_320 at hf
    refine lv_iconst (v := 0) hx hb dX8_item_320 (by decide) ?_
    exact K_321 spot kind begin letters figures value plated driven rows read 0 hP hD hS (lv_sub hl [] rfl) hf
  have K_86 : ∀ (spot : Int32) (kind : Int32) (begin : Int32) (letters : Int64) (figures : Int32) (value : Int32) (plated : Int32) (driven : Int32) (rows : Int32) (read : Nat → Int32) (s0 : Int32) {H : Heap} {locs : List Loc} {ls : Array Slot}, va_P Γ.1 vwCl (wd_X8_item Γ q0 q1 q2 d0 d1 d2 d3 d4 d5 d6 d7 d8 d9 d10 d11 d12 length undoMany zeroKept oneKept seen spot kind begin letters figures value plated driven rows periods leastPeriod text read) H → va_D A (wd_X8_item Γ q0 q1 q2 d0 d1 d2 d3 d4 d5 d6 d7 d8 d9 d10 d11 d12 length undoMany zeroKept oneKept seen spot kind begin letters figures value plated driven rows periods leastPeriod text read) → va_S A s.heap H locs → lv_has ls 1 [] → f_X8_item_86 spot kind begin letters figures value plated driven rows read s0 = some out → W p l e ({ frames := 5, cells := 0, slots := 0, locals := 111 } : Room) s m ([.ref q0] : List Value).toArray below meth c H locs 0 0 QQ (F0 m 86 ls [.int s0]) := by
    intro spot kind begin letters figures value plated driven rows read s0 H locs ls hP hD hS hl hf
    unfold f_X8_item_86 at hf
    obtain ⟨hc_2, hf⟩ := vm_ck hf
    subst hout; obtain ⟨rfl, rfl, rfl, rfl, rfl, rfl, rfl, rfl, rfl, rfl, rfl⟩ := rt11 hf
    subst hQQ
    exact W.zret hx hb hr (vm_nz hc_2) (fun t ht hW => ⟨⟨_, (), rfl, rfl, by rw [ht]; exact hP, hD⟩, hS.F ht⟩) hS.2.2 dX8_item_86
  have K_85 : ∀ (spot : Int32) (kind : Int32) (begin : Int32) (letters : Int64) (figures : Int32) (value : Int32) (plated : Int32) (driven : Int32) (rows : Int32) (read : Nat → Int32) {H : Heap} {locs : List Loc} {ls : Array Slot}, va_P Γ.1 vwCl (wd_X8_item Γ q0 q1 q2 d0 d1 d2 d3 d4 d5 d6 d7 d8 d9 d10 d11 d12 length undoMany zeroKept oneKept seen spot kind begin letters figures value plated driven rows periods leastPeriod text read) H → va_D A (wd_X8_item Γ q0 q1 q2 d0 d1 d2 d3 d4 d5 d6 d7 d8 d9 d10 d11 d12 length undoMany zeroKept oneKept seen spot kind begin letters figures value plated driven rows periods leastPeriod text read) → va_S A s.heap H locs → lv_has ls 1 [] → f_X8_item_85 spot kind begin letters figures value plated driven rows read = some out → W p l e ({ frames := 5, cells := 0, slots := 0, locals := 111 } : Room) s m ([.ref q0] : List Value).toArray below meth c H locs 0 0 QQ (F0 m 85 ls []) := by
    intro spot kind begin letters figures value plated driven rows read H locs ls hP hD hS hl hf
    unfold f_X8_item_85 at hf
    refine lv_iconst (v := 0) hx hb dX8_item_85 (by decide) ?_
    exact K_86 spot kind begin letters figures value plated driven rows read 0 hP hD hS (lv_sub hl [] rfl) hf
  have K_52 : ∀ (spot : Int32) (kind : Int32) (begin : Int32) (letters : Int64) (figures : Int32) (value : Int32) (plated : Int32) (driven : Int32) (rows : Int32) (read : Nat → Int32) {H : Heap} {locs : List Loc} {ls : Array Slot}, va_P Γ.1 vwCl (wd_X8_item Γ q0 q1 q2 d0 d1 d2 d3 d4 d5 d6 d7 d8 d9 d10 d11 d12 length undoMany zeroKept oneKept seen spot kind begin letters figures value plated driven rows periods leastPeriod text read) H → va_D A (wd_X8_item Γ q0 q1 q2 d0 d1 d2 d3 d4 d5 d6 d7 d8 d9 d10 d11 d12 length undoMany zeroKept oneKept seen spot kind begin letters figures value plated driven rows periods leastPeriod text read) → va_S A s.heap H locs → lv_has ls 1 [] → f_X8_item_52 spot kind begin letters figures value plated driven rows read = some out → W p l e ({ frames := 5, cells := 0, slots := 0, locals := 111 } : Room) s m ([.ref q0] : List Value).toArray below meth c H locs 0 0 QQ (F0 m 52 ls []) := by
    intro spot kind begin letters figures value plated driven rows read H locs ls hP hD hS hl hf
    unfold f_X8_item_52 at hf
    refine lv_iconst (v := 0) hx hb dX8_item_52 (by decide) ?_
    subst hout; obtain ⟨rfl, rfl, rfl, rfl, rfl, rfl, rfl, rfl, rfl, rfl, rfl⟩ := rt11 hf
    subst hQQ
    exact W.zret hx hb hr rfl (fun t ht hW => ⟨⟨_, (), rfl, rfl, by rw [ht]; exact hP, hD⟩, hS.F ht⟩) hS.2.2 dX8_item_53
  unfold f_X8_item at hf
  refine lv_aload_n hx hb dX8_item_0 rfl (lv_at hl 0 rfl) ?_
  refine va_get (D := Γ.1) (ci := 8) (v := .int kind) (C := RX8) (T := TX8) (N := 31) hx hb hts hi8 hown hK hP 0 rfl rfl 13 (by decide) (hts (.fieldLink RX8 89 "SandPlatesModel" "kind" "I") (List.mem_of_getElem? (i := 1) rfl)) (fun _ h9 => h9) rfl dX8_item_1 ?_
  refine lv_iconst (v := 1) hx hb dX8_item_4 (by decide) ?_
  refine lv_icmp_eq (tgt := 10) hx hb dX8_item_5 (by decide) (fun hc_3 => ?_) (fun hc_3 => ?_)
  · have hf := vm_pos hc_3 hf
    refine lv_aload_n hx hb dX8_item_10 rfl (lv_at hl 0 rfl) ?_
    refine va_get (D := Γ.1) (ci := 8) (v := .long letters) (C := RX8) (T := TX8) (N := 31) hx hb hts hi8 hown hK hP 0 rfl rfl 15 (by decide) (hts (.fieldLink RX8 79 "SandPlatesModel" "letters" "J") (List.mem_of_getElem? (i := 2) rfl)) (fun _ h9 => h9) rfl dX8_item_11 ?_
    refine lv_bipush (v := 112) hx hb dX8_item_14 (by decide) ?_
    refine lv_bipush (v := 108) hx hb dX8_item_16 (by decide) ?_
    refine lv_bipush (v := 97) hx hb dX8_item_18 (by decide) ?_
    refine lv_bipush (v := 116) hx hb dX8_item_20 (by decide) ?_
    refine lv_bipush (v := 101) hx hb dX8_item_22 (by decide) ?_
    obtain ⟨r_4, hq_5, hf⟩ := ob1_some hf
    refine vm_cSl (isC := []) (wc := (wd_X8_five Γ)) (w1 := (wd_X8_five Γ)) (As := [.int 112, .int 108, .int 97, .int 116, .int 101]) (rest := [.long letters]) ⟨hx, hb, hml, hown, hts⟩ hE hP hD hS hA rfl rfl rfl (c_X8_five l Γ _ 112 108 97 116 101 r_4 hq_5) (va_cwS 5 hts gX8_item_X8_five rfl rfl rfl (by decide +kernel) ⟨Nat.le_of_ble_eq_true rfl, Nat.le_of_ble_eq_true rfl⟩) rfl hl.1 rfl (Nat.le_of_ble_eq_true rfl) dX8_item_24 ⟨Nat.zero_le _, Nat.zero_le _⟩ (fun H locs hP hD hS => ?_)
    have hP : va_P Γ.1 vwCl (wd_X8_item Γ q0 q1 q2 d0 d1 d2 d3 d4 d5 d6 d7 d8 d9 d10 d11 d12 length undoMany zeroKept oneKept seen spot kind begin letters figures value plated driven rows periods leastPeriod text read) H := hP
    have hD : va_D A (wd_X8_item Γ q0 q1 q2 d0 d1 d2 d3 d4 d5 d6 d7 d8 d9 d10 d11 d12 length undoMany zeroKept oneKept seen spot kind begin letters figures value plated driven rows periods leastPeriod text read) := hD
    refine W.lcmp hx hb dX8_item_27 ?_
    refine lv_if_ne (tgt := 87) hx hb dX8_item_28 (by decide) (fun hc_6 => ?_) (fun hc_6 => ?_)
    · have hf := vm_neg hc_6 hf
      refine lv_aload_n hx hb dX8_item_87 rfl (lv_at hl 0 rfl) ?_
      refine va_get (D := Γ.1) (ci := 8) (v := .long letters) (C := RX8) (T := TX8) (N := 31) hx hb hts hi8 hown hK hP 0 rfl rfl 15 (by decide) (hts (.fieldLink RX8 79 "SandPlatesModel" "letters" "J") (List.mem_of_getElem? (i := 2) rfl)) (fun _ h9 => h9) rfl dX8_item_88 ?_
      refine lv_bipush (v := 101) hx hb dX8_item_91 (by decide) ?_
      refine lv_bipush (v := 100) hx hb dX8_item_93 (by decide) ?_
      refine lv_bipush (v := 103) hx hb dX8_item_95 (by decide) ?_
      refine lv_bipush (v := 101) hx hb dX8_item_97 (by decide) ?_
      obtain ⟨r_7, hq_8, hf⟩ := ob1_some hf
      refine vm_cSl (isC := []) (wc := (wd_X8_four Γ)) (w1 := (wd_X8_four Γ)) (As := [.int 101, .int 100, .int 103, .int 101]) (rest := [.long letters]) ⟨hx, hb, hml, hown, hts⟩ hE hP hD hS hA rfl rfl rfl (c_X8_four l Γ _ 101 100 103 101 r_7 hq_8) (va_cwS 4 hts gX8_item_X8_four rfl rfl rfl (by decide +kernel) ⟨Nat.le_of_ble_eq_true rfl, Nat.le_of_ble_eq_true rfl⟩) rfl hl.1 rfl (Nat.le_of_ble_eq_true rfl) dX8_item_99 ⟨Nat.zero_le _, Nat.zero_le _⟩ (fun H locs hP hD hS => ?_)
      have hP : va_P Γ.1 vwCl (wd_X8_item Γ q0 q1 q2 d0 d1 d2 d3 d4 d5 d6 d7 d8 d9 d10 d11 d12 length undoMany zeroKept oneKept seen spot kind begin letters figures value plated driven rows periods leastPeriod text read) H := hP
      have hD : va_D A (wd_X8_item Γ q0 q1 q2 d0 d1 d2 d3 d4 d5 d6 d7 d8 d9 d10 d11 d12 length undoMany zeroKept oneKept seen spot kind begin letters figures value plated driven rows periods leastPeriod text read) := hD
      refine W.lcmp hx hb dX8_item_102 ?_
      refine lv_if_ne (tgt := 114) hx hb dX8_item_103 (by decide) (fun hc_9 => ?_) (fun hc_9 => ?_)
      · have hf := vm_neg hc_9 hf
        refine lv_aload_n hx hb dX8_item_114 rfl (lv_at hl 0 rfl) ?_
        refine va_get (D := Γ.1) (ci := 8) (v := .long letters) (C := RX8) (T := TX8) (N := 31) hx hb hts hi8 hown hK hP 0 rfl rfl 15 (by decide) (hts (.fieldLink RX8 79 "SandPlatesModel" "letters" "J") (List.mem_of_getElem? (i := 2) rfl)) (fun _ h9 => h9) rfl dX8_item_115 ?_
        refine lv_bipush (v := 115) hx hb dX8_item_118 (by decide) ?_
        refine lv_bipush (v := 116) hx hb dX8_item_120 (by decide) ?_
        refine lv_bipush (v := 105) hx hb dX8_item_122 (by decide) ?_
        refine lv_bipush (v := 102) hx hb dX8_item_124 (by decide) ?_
        refine lv_bipush (v := 102) hx hb dX8_item_126 (by decide) ?_
        obtain ⟨r_10, hq_11, hf⟩ := ob1_some hf
        refine vm_cSl (isC := []) (wc := (wd_X8_five Γ)) (w1 := (wd_X8_five Γ)) (As := [.int 115, .int 116, .int 105, .int 102, .int 102]) (rest := [.long letters]) ⟨hx, hb, hml, hown, hts⟩ hE hP hD hS hA rfl rfl rfl (c_X8_five l Γ _ 115 116 105 102 102 r_10 hq_11) (va_cwS 5 hts gX8_item_X8_five rfl rfl rfl (by decide +kernel) ⟨Nat.le_of_ble_eq_true rfl, Nat.le_of_ble_eq_true rfl⟩) rfl hl.1 rfl (Nat.le_of_ble_eq_true rfl) dX8_item_128 ⟨Nat.zero_le _, Nat.zero_le _⟩ (fun H locs hP hD hS => ?_)
        have hP : va_P Γ.1 vwCl (wd_X8_item Γ q0 q1 q2 d0 d1 d2 d3 d4 d5 d6 d7 d8 d9 d10 d11 d12 length undoMany zeroKept oneKept seen spot kind begin letters figures value plated driven rows periods leastPeriod text read) H := hP
        have hD : va_D A (wd_X8_item Γ q0 q1 q2 d0 d1 d2 d3 d4 d5 d6 d7 d8 d9 d10 d11 d12 length undoMany zeroKept oneKept seen spot kind begin letters figures value plated driven rows periods leastPeriod text read) := hD
        refine W.lcmp hx hb dX8_item_131 ?_
        refine lv_if_ne (tgt := 144) hx hb dX8_item_132 (by decide) (fun hc_12 => ?_) (fun hc_12 => ?_)
        · have hf := vm_neg hc_12 hf
          refine lv_aload_n hx hb dX8_item_144 rfl (lv_at hl 0 rfl) ?_
          refine va_get (D := Γ.1) (ci := 8) (v := .long letters) (C := RX8) (T := TX8) (N := 31) hx hb hts hi8 hown hK hP 0 rfl rfl 15 (by decide) (hts (.fieldLink RX8 79 "SandPlatesModel" "letters" "J") (List.mem_of_getElem? (i := 2) rfl)) (fun _ h9 => h9) rfl dX8_item_145 ?_
          refine lv_bipush (v := 108) hx hb dX8_item_148 (by decide) ?_
          refine lv_bipush (v := 111) hx hb dX8_item_150 (by decide) ?_
          refine lv_bipush (v := 115) hx hb dX8_item_152 (by decide) ?_
          refine lv_bipush (v := 115) hx hb dX8_item_154 (by decide) ?_
          obtain ⟨r_13, hq_14, hf⟩ := ob1_some hf
          refine vm_cSl (isC := []) (wc := (wd_X8_four Γ)) (w1 := (wd_X8_four Γ)) (As := [.int 108, .int 111, .int 115, .int 115]) (rest := [.long letters]) ⟨hx, hb, hml, hown, hts⟩ hE hP hD hS hA rfl rfl rfl (c_X8_four l Γ _ 108 111 115 115 r_13 hq_14) (va_cwS 4 hts gX8_item_X8_four rfl rfl rfl (by decide +kernel) ⟨Nat.le_of_ble_eq_true rfl, Nat.le_of_ble_eq_true rfl⟩) rfl hl.1 rfl (Nat.le_of_ble_eq_true rfl) dX8_item_156 ⟨Nat.zero_le _, Nat.zero_le _⟩ (fun H locs hP hD hS => ?_)
          have hP : va_P Γ.1 vwCl (wd_X8_item Γ q0 q1 q2 d0 d1 d2 d3 d4 d5 d6 d7 d8 d9 d10 d11 d12 length undoMany zeroKept oneKept seen spot kind begin letters figures value plated driven rows periods leastPeriod text read) H := hP
          have hD : va_D A (wd_X8_item Γ q0 q1 q2 d0 d1 d2 d3 d4 d5 d6 d7 d8 d9 d10 d11 d12 length undoMany zeroKept oneKept seen spot kind begin letters figures value plated driven rows periods leastPeriod text read) := hD
          refine W.lcmp hx hb dX8_item_159 ?_
          refine lv_if_ne (tgt := 172) hx hb dX8_item_160 (by decide) (fun hc_15 => ?_) (fun hc_15 => ?_)
          · have hf := vm_neg hc_15 hf
            refine lv_aload_n hx hb dX8_item_172 rfl (lv_at hl 0 rfl) ?_
            refine va_get (D := Γ.1) (ci := 8) (v := .long letters) (C := RX8) (T := TX8) (N := 31) hx hb hts hi8 hown hK hP 0 rfl rfl 15 (by decide) (hts (.fieldLink RX8 79 "SandPlatesModel" "letters" "J") (List.mem_of_getElem? (i := 2) rfl)) (fun _ h9 => h9) rfl dX8_item_173 ?_
            refine lv_bipush (v := 102) hx hb dX8_item_176 (by decide) ?_
            refine lv_bipush (v := 111) hx hb dX8_item_178 (by decide) ?_
            refine lv_bipush (v := 114) hx hb dX8_item_180 (by decide) ?_
            refine lv_bipush (v := 99) hx hb dX8_item_182 (by decide) ?_
            refine lv_bipush (v := 101) hx hb dX8_item_184 (by decide) ?_
            obtain ⟨r_16, hq_17, hf⟩ := ob1_some hf
            refine vm_cSl (isC := []) (wc := (wd_X8_five Γ)) (w1 := (wd_X8_five Γ)) (As := [.int 102, .int 111, .int 114, .int 99, .int 101]) (rest := [.long letters]) ⟨hx, hb, hml, hown, hts⟩ hE hP hD hS hA rfl rfl rfl (c_X8_five l Γ _ 102 111 114 99 101 r_16 hq_17) (va_cwS 5 hts gX8_item_X8_five rfl rfl rfl (by decide +kernel) ⟨Nat.le_of_ble_eq_true rfl, Nat.le_of_ble_eq_true rfl⟩) rfl hl.1 rfl (Nat.le_of_ble_eq_true rfl) dX8_item_186 ⟨Nat.zero_le _, Nat.zero_le _⟩ (fun H locs hP hD hS => ?_)
            have hP : va_P Γ.1 vwCl (wd_X8_item Γ q0 q1 q2 d0 d1 d2 d3 d4 d5 d6 d7 d8 d9 d10 d11 d12 length undoMany zeroKept oneKept seen spot kind begin letters figures value plated driven rows periods leastPeriod text read) H := hP
            have hD : va_D A (wd_X8_item Γ q0 q1 q2 d0 d1 d2 d3 d4 d5 d6 d7 d8 d9 d10 d11 d12 length undoMany zeroKept oneKept seen spot kind begin letters figures value plated driven rows periods leastPeriod text read) := hD
            refine W.lcmp hx hb dX8_item_189 ?_
            refine lv_if_ne (tgt := 202) hx hb dX8_item_190 (by decide) (fun hc_18 => ?_) (fun hc_18 => ?_)
            · have hf := vm_neg hc_18 hf
              refine lv_aload_n hx hb dX8_item_202 rfl (lv_at hl 0 rfl) ?_
              refine va_get (D := Γ.1) (ci := 8) (v := .long letters) (C := RX8) (T := TX8) (N := 31) hx hb hts hi8 hown hK hP 0 rfl rfl 15 (by decide) (hts (.fieldLink RX8 79 "SandPlatesModel" "letters" "J") (List.mem_of_getElem? (i := 2) rfl)) (fun _ h9 => h9) rfl dX8_item_203 ?_
              refine lv_bipush (v := 112) hx hb dX8_item_206 (by decide) ?_
              refine lv_bipush (v := 101) hx hb dX8_item_208 (by decide) ?_
              refine lv_bipush (v := 114) hx hb dX8_item_210 (by decide) ?_
              refine lv_bipush (v := 105) hx hb dX8_item_212 (by decide) ?_
              refine lv_bipush (v := 111) hx hb dX8_item_214 (by decide) ?_
              obtain ⟨r_19, hq_20, hf⟩ := ob1_some hf
              refine vm_cSl (isC := []) (wc := (wd_X8_five Γ)) (w1 := (wd_X8_five Γ)) (As := [.int 112, .int 101, .int 114, .int 105, .int 111]) (rest := [.long letters]) ⟨hx, hb, hml, hown, hts⟩ hE hP hD hS hA rfl rfl rfl (c_X8_five l Γ _ 112 101 114 105 111 r_19 hq_20) (va_cwS 5 hts gX8_item_X8_five rfl rfl rfl (by decide +kernel) ⟨Nat.le_of_ble_eq_true rfl, Nat.le_of_ble_eq_true rfl⟩) rfl hl.1 rfl (Nat.le_of_ble_eq_true rfl) dX8_item_216 ⟨Nat.zero_le _, Nat.zero_le _⟩ (fun H locs hP hD hS => ?_)
              have hP : va_P Γ.1 vwCl (wd_X8_item Γ q0 q1 q2 d0 d1 d2 d3 d4 d5 d6 d7 d8 d9 d10 d11 d12 length undoMany zeroKept oneKept seen spot kind begin letters figures value plated driven rows periods leastPeriod text read) H := hP
              have hD : va_D A (wd_X8_item Γ q0 q1 q2 d0 d1 d2 d3 d4 d5 d6 d7 d8 d9 d10 d11 d12 length undoMany zeroKept oneKept seen spot kind begin letters figures value plated driven rows periods leastPeriod text read) := hD
              refine lv_ldc2 hx hb hown (hts (.constantLong RX8 92 (32)) (List.mem_of_getElem? (i := 6) rfl)) dX8_item_219 ?_
              refine lv_lmul hx hb dX8_item_222 ?_
              refine lv_ldc2 hx hb hown (hts (.constantLong RX8 123 (4)) (List.mem_of_getElem? (i := 7) rfl)) dX8_item_223 ?_
              refine lv_ladd hx hb dX8_item_226 ?_
              refine W.lcmp hx hb dX8_item_227 ?_
              refine lv_if_ne (tgt := 241) hx hb dX8_item_228 (by decide) (fun hc_21 => ?_) (fun hc_21 => ?_)
              · have hf := vm_neg hc_21 hf
                refine lv_aload_n hx hb dX8_item_241 rfl (lv_at hl 0 rfl) ?_
                refine va_get (D := Γ.1) (ci := 8) (v := .long letters) (C := RX8) (T := TX8) (N := 31) hx hb hts hi8 hown hK hP 0 rfl rfl 15 (by decide) (hts (.fieldLink RX8 79 "SandPlatesModel" "letters" "J") (List.mem_of_getElem? (i := 2) rfl)) (fun _ h9 => h9) rfl dX8_item_242 ?_
                refine lv_bipush (v := 108) hx hb dX8_item_245 (by decide) ?_
                refine lv_bipush (v := 105) hx hb dX8_item_247 (by decide) ?_
                refine lv_bipush (v := 109) hx hb dX8_item_249 (by decide) ?_
                refine lv_bipush (v := 105) hx hb dX8_item_251 (by decide) ?_
                refine lv_bipush (v := 116) hx hb dX8_item_253 (by decide) ?_
                obtain ⟨r_22, hq_23, hf⟩ := ob1_some hf
                refine vm_cSl (isC := []) (wc := (wd_X8_five Γ)) (w1 := (wd_X8_five Γ)) (As := [.int 108, .int 105, .int 109, .int 105, .int 116]) (rest := [.long letters]) ⟨hx, hb, hml, hown, hts⟩ hE hP hD hS hA rfl rfl rfl (c_X8_five l Γ _ 108 105 109 105 116 r_22 hq_23) (va_cwS 5 hts gX8_item_X8_five rfl rfl rfl (by decide +kernel) ⟨Nat.le_of_ble_eq_true rfl, Nat.le_of_ble_eq_true rfl⟩) rfl hl.1 rfl (Nat.le_of_ble_eq_true rfl) dX8_item_255 ⟨Nat.zero_le _, Nat.zero_le _⟩ (fun H locs hP hD hS => ?_)
                have hP : va_P Γ.1 vwCl (wd_X8_item Γ q0 q1 q2 d0 d1 d2 d3 d4 d5 d6 d7 d8 d9 d10 d11 d12 length undoMany zeroKept oneKept seen spot kind begin letters figures value plated driven rows periods leastPeriod text read) H := hP
                have hD : va_D A (wd_X8_item Γ q0 q1 q2 d0 d1 d2 d3 d4 d5 d6 d7 d8 d9 d10 d11 d12 length undoMany zeroKept oneKept seen spot kind begin letters figures value plated driven rows periods leastPeriod text read) := hD
                refine W.lcmp hx hb dX8_item_258 ?_
                refine lv_if_ne (tgt := 272) hx hb dX8_item_259 (by decide) (fun hc_24 => ?_) (fun hc_24 => ?_)
                · have hf := vm_neg hc_24 hf
                  refine lv_aload_n hx hb dX8_item_272 rfl (lv_at hl 0 rfl) ?_
                  refine va_get (D := Γ.1) (ci := 8) (v := .long letters) (C := RX8) (T := TX8) (N := 31) hx hb hts hi8 hown hK hP 0 rfl rfl 15 (by decide) (hts (.fieldLink RX8 79 "SandPlatesModel" "letters" "J") (List.mem_of_getElem? (i := 2) rfl)) (fun _ h9 => h9) rfl dX8_item_273 ?_
                  refine lv_bipush (v := 100) hx hb dX8_item_276 (by decide) ?_
                  refine lv_bipush (v := 114) hx hb dX8_item_278 (by decide) ?_
                  refine lv_bipush (v := 105) hx hb dX8_item_280 (by decide) ?_
                  refine lv_bipush (v := 118) hx hb dX8_item_282 (by decide) ?_
                  refine lv_bipush (v := 101) hx hb dX8_item_284 (by decide) ?_
                  obtain ⟨r_25, hq_26, hf⟩ := ob1_some hf
                  refine vm_cSl (isC := []) (wc := (wd_X8_five Γ)) (w1 := (wd_X8_five Γ)) (As := [.int 100, .int 114, .int 105, .int 118, .int 101]) (rest := [.long letters]) ⟨hx, hb, hml, hown, hts⟩ hE hP hD hS hA rfl rfl rfl (c_X8_five l Γ _ 100 114 105 118 101 r_25 hq_26) (va_cwS 5 hts gX8_item_X8_five rfl rfl rfl (by decide +kernel) ⟨Nat.le_of_ble_eq_true rfl, Nat.le_of_ble_eq_true rfl⟩) rfl hl.1 rfl (Nat.le_of_ble_eq_true rfl) dX8_item_286 ⟨Nat.zero_le _, Nat.zero_le _⟩ (fun H locs hP hD hS => ?_)
                  have hP : va_P Γ.1 vwCl (wd_X8_item Γ q0 q1 q2 d0 d1 d2 d3 d4 d5 d6 d7 d8 d9 d10 d11 d12 length undoMany zeroKept oneKept seen spot kind begin letters figures value plated driven rows periods leastPeriod text read) H := hP
                  have hD : va_D A (wd_X8_item Γ q0 q1 q2 d0 d1 d2 d3 d4 d5 d6 d7 d8 d9 d10 d11 d12 length undoMany zeroKept oneKept seen spot kind begin letters figures value plated driven rows periods leastPeriod text read) := hD
                  refine W.lcmp hx hb dX8_item_289 ?_
                  refine lv_if_ne (tgt := 298) hx hb dX8_item_290 (by decide) (fun hc_27 => ?_) (fun hc_27 => ?_)
                  · have hf := vm_neg hc_27 hf
                    refine lv_aload_n hx hb dX8_item_298 rfl (lv_at hl 0 rfl) ?_
                    refine va_get (D := Γ.1) (ci := 8) (v := .long letters) (C := RX8) (T := TX8) (N := 31) hx hb hts hi8 hown hK hP 0 rfl rfl 15 (by decide) (hts (.fieldLink RX8 79 "SandPlatesModel" "letters" "J") (List.mem_of_getElem? (i := 2) rfl)) (fun _ h9 => h9) rfl dX8_item_299 ?_
                    refine lv_ldc2 hx hb hown (hts (.constantLong RX8 129 (18935)) (List.mem_of_getElem? (i := 8) rfl)) dX8_item_302 ?_
                    refine W.lcmp hx hb dX8_item_305 ?_
                    refine lv_if_ne (tgt := 320) hx hb dX8_item_306 (by decide) (fun hc_28 => ?_) (fun hc_28 => ?_)
                    · have hf := vm_neg hc_28 hf
                      exact K_320 spot kind begin letters figures value plated driven rows read hP hD hS (lv_sub hl [] rfl) hf
                    · have hf := vm_pos hc_28 hf
                      refine lv_aload_n hx hb dX8_item_309 rfl (lv_at hl 0 rfl) ?_
                      obtain ⟨r_29, spot_30, kind_31, begin_32, letters_33, figures_34, value_35, rows_36, read_37, hq_38, hf⟩ := ob9_some hf
                      refine vm_cVi (isC := [0, 1, 2]) (wc := (wd_X8_rowItem Γ q0 q1 q2 d0 d1 d2 d3 d4 d5 d6 d7 d8 d9 d10 d11 d12 length undoMany zeroKept oneKept seen spot kind begin letters figures value plated driven rows periods leastPeriod text read)) (w1 := (wd_X8_rowItem Γ q0 q1 q2 d0 d1 d2 d3 d4 d5 d6 d7 d8 d9 d10 d11 d12 length undoMany zeroKept oneKept seen spot_30 kind_31 begin_32 letters_33 figures_34 value_35 plated driven rows_36 periods leastPeriod text read_37)) (As := []) (rest := []) ⟨hx, hb, hml, hown, hts⟩ hE hP hD hS hA rfl rfl rfl (c_X8_rowItem l Γ _ q0 q1 q2 d0 d1 d2 d3 d4 d5 d6 d7 d8 d9 d10 d11 d12 length undoMany zeroKept oneKept seen spot kind begin letters figures value plated driven rows periods leastPeriod text read r_29 spot_30 kind_31 begin_32 letters_33 figures_34 value_35 rows_36 read_37 hq_38) (cwV 0 hts gX8_item_X8_rowItem rfl rfl rfl (by decide +kernel) ⟨Nat.le_of_ble_eq_true rfl, Nat.le_of_ble_eq_true rfl⟩) (va_recv (ci := 8) (q0 := 0) hK hP rfl rfl) rfl hl.1 rfl (Nat.le_of_ble_eq_true rfl) dX8_item_310 ⟨Nat.zero_le _, Nat.zero_le _⟩ (fun H locs hP hD hS => ?_)
                      have hP : va_P Γ.1 vwCl (wd_X8_item Γ q0 q1 q2 d0 d1 d2 d3 d4 d5 d6 d7 d8 d9 d10 d11 d12 length undoMany zeroKept oneKept seen spot_30 kind_31 begin_32 letters_33 figures_34 value_35 plated driven rows_36 periods leastPeriod text read_37) H := hP
                      have hD : va_D A (wd_X8_item Γ q0 q1 q2 d0 d1 d2 d3 d4 d5 d6 d7 d8 d9 d10 d11 d12 length undoMany zeroKept oneKept seen spot_30 kind_31 begin_32 letters_33 figures_34 value_35 plated driven rows_36 periods leastPeriod text read_37) := hD
                      refine lv_if_eq (tgt := 320) hx hb dX8_item_313 (by decide) (fun hc_39 => ?_) (fun hc_39 => ?_)
                      · have hf := vm_pos hc_39 hf
                        exact K_320 spot_30 kind_31 begin_32 letters_33 figures_34 value_35 plated driven rows_36 read_37 hP hD hS (lv_sub hl [] rfl) hf
                      · have hf := vm_neg hc_39 hf
                        refine lv_iconst (v := 1) hx hb dX8_item_316 (by decide) ?_
                        refine lv_goto (tgt := 321) hx hb dX8_item_317 (by decide) ?_
                        exact K_321 spot_30 kind_31 begin_32 letters_33 figures_34 value_35 plated driven rows_36 read_37 1 hP hD hS (lv_sub hl [] rfl) hf
                  · have hf := vm_pos hc_27 hf
                    refine lv_aload_n hx hb dX8_item_293 rfl (lv_at hl 0 rfl) ?_
                    obtain ⟨r_40, spot_41, kind_42, begin_43, letters_44, figures_45, value_46, driven_47, read_48, hq_49, hf⟩ := ob9_some hf
                    refine vm_cVi (isC := [0, 1, 2]) (wc := (wd_X8_driveItem Γ q0 q1 q2 d0 d1 d2 d3 d4 d5 d6 d7 d8 d9 d10 d11 d12 length undoMany zeroKept oneKept seen spot kind begin letters figures value plated driven rows periods leastPeriod text read)) (w1 := (wd_X8_driveItem Γ q0 q1 q2 d0 d1 d2 d3 d4 d5 d6 d7 d8 d9 d10 d11 d12 length undoMany zeroKept oneKept seen spot_41 kind_42 begin_43 letters_44 figures_45 value_46 plated driven_47 rows periods leastPeriod text read_48)) (As := []) (rest := []) ⟨hx, hb, hml, hown, hts⟩ hE hP hD hS hA rfl rfl rfl (c_X8_driveItem l Γ _ q0 q1 q2 d0 d1 d2 d3 d4 d5 d6 d7 d8 d9 d10 d11 d12 length undoMany zeroKept oneKept seen spot kind begin letters figures value plated driven rows periods leastPeriod text read r_40 spot_41 kind_42 begin_43 letters_44 figures_45 value_46 driven_47 read_48 hq_49) (cwV 0 hts gX8_item_X8_driveItem rfl rfl rfl (by decide +kernel) ⟨Nat.le_of_ble_eq_true rfl, Nat.le_of_ble_eq_true rfl⟩) (va_recv (ci := 8) (q0 := 0) hK hP rfl rfl) rfl hl.1 rfl (Nat.le_of_ble_eq_true rfl) dX8_item_294 ⟨Nat.zero_le _, Nat.zero_le _⟩ (fun H locs hP hD hS => ?_)
                    have hP : va_P Γ.1 vwCl (wd_X8_item Γ q0 q1 q2 d0 d1 d2 d3 d4 d5 d6 d7 d8 d9 d10 d11 d12 length undoMany zeroKept oneKept seen spot_41 kind_42 begin_43 letters_44 figures_45 value_46 plated driven_47 rows periods leastPeriod text read_48) H := hP
                    have hD : va_D A (wd_X8_item Γ q0 q1 q2 d0 d1 d2 d3 d4 d5 d6 d7 d8 d9 d10 d11 d12 length undoMany zeroKept oneKept seen spot_41 kind_42 begin_43 letters_44 figures_45 value_46 plated driven_47 rows periods leastPeriod text read_48) := hD
                    obtain ⟨hc_50, hf⟩ := vm_ck hf
                    subst hout; obtain ⟨rfl, rfl, rfl, rfl, rfl, rfl, rfl, rfl, rfl, rfl, rfl⟩ := rt11 hf
                    subst hQQ
                    exact W.zret hx hb hr (vm_nz hc_50) (fun t ht hW => ⟨⟨_, (), rfl, rfl, by rw [ht]; exact hP, hD⟩, hS.F ht⟩) hS.2.2 dX8_item_297
                · have hf := vm_pos hc_24 hf
                  refine lv_aload_n hx hb dX8_item_262 rfl (lv_at hl 0 rfl) ?_
                  refine lv_bipush (v := 7) hx hb dX8_item_263 (by decide) ?_
                  refine lv_iconst (v := 0) hx hb dX8_item_265 (by decide) ?_
                  refine lv_bipush (v := 99) hx hb dX8_item_266 (by decide) ?_
                  obtain ⟨r_51, spot_52, kind_53, begin_54, letters_55, figures_56, value_57, read_58, hq_59, hf⟩ := ob8_some hf
                  refine vm_cVi (isC := [0, 1, 2]) (wc := (wd_X8_number Γ q0 q1 q2 d0 d1 d2 d3 d4 d5 d6 d7 d8 d9 d10 d11 d12 length undoMany zeroKept oneKept seen spot kind begin letters figures value plated driven rows periods leastPeriod text read)) (w1 := (wd_X8_number Γ q0 q1 q2 d0 d1 d2 d3 d4 d5 d6 d7 d8 d9 d10 d11 d12 length undoMany zeroKept oneKept seen spot_52 kind_53 begin_54 letters_55 figures_56 value_57 plated driven rows periods leastPeriod text read_58)) (As := [.int 7, .int 0, .int 99]) (rest := []) ⟨hx, hb, hml, hown, hts⟩ hE hP hD hS hA rfl rfl rfl (c_X8_number l Γ _ q0 q1 q2 d0 d1 d2 d3 d4 d5 d6 d7 d8 d9 d10 d11 d12 length undoMany zeroKept oneKept seen spot kind begin letters figures value plated driven rows periods leastPeriod text read 7 0 99 r_51 spot_52 kind_53 begin_54 letters_55 figures_56 value_57 read_58 hq_59) (cwV 3 hts gX8_item_X8_number rfl rfl rfl (by decide +kernel) ⟨Nat.le_of_ble_eq_true rfl, Nat.le_of_ble_eq_true rfl⟩) (va_recv (ci := 8) (q0 := 0) hK hP rfl rfl) rfl hl.1 rfl (Nat.le_of_ble_eq_true rfl) dX8_item_268 ⟨Nat.zero_le _, Nat.zero_le _⟩ (fun H locs hP hD hS => ?_)
                  have hP : va_P Γ.1 vwCl (wd_X8_item Γ q0 q1 q2 d0 d1 d2 d3 d4 d5 d6 d7 d8 d9 d10 d11 d12 length undoMany zeroKept oneKept seen spot_52 kind_53 begin_54 letters_55 figures_56 value_57 plated driven rows periods leastPeriod text read_58) H := hP
                  have hD : va_D A (wd_X8_item Γ q0 q1 q2 d0 d1 d2 d3 d4 d5 d6 d7 d8 d9 d10 d11 d12 length undoMany zeroKept oneKept seen spot_52 kind_53 begin_54 letters_55 figures_56 value_57 plated driven rows periods leastPeriod text read_58) := hD
                  obtain ⟨hc_60, hf⟩ := vm_ck hf
                  subst hout; obtain ⟨rfl, rfl, rfl, rfl, rfl, rfl, rfl, rfl, rfl, rfl, rfl⟩ := rt11 hf
                  subst hQQ
                  exact W.zret hx hb hr (vm_nz hc_60) (fun t ht hW => ⟨⟨_, (), rfl, rfl, by rw [ht]; exact hP, hD⟩, hS.F ht⟩) hS.2.2 dX8_item_271
              · have hf := vm_pos hc_21 hf
                refine lv_aload_n hx hb dX8_item_231 rfl (lv_at hl 0 rfl) ?_
                refine lv_bipush (v := 6) hx hb dX8_item_232 (by decide) ?_
                refine lv_iconst (v := 2) hx hb dX8_item_234 (by decide) ?_
                refine lv_bipush (v := 20) hx hb dX8_item_235 (by decide) ?_
                obtain ⟨r_61, spot_62, kind_63, begin_64, letters_65, figures_66, value_67, read_68, hq_69, hf⟩ := ob8_some hf
                refine vm_cVi (isC := [0, 1, 2]) (wc := (wd_X8_number Γ q0 q1 q2 d0 d1 d2 d3 d4 d5 d6 d7 d8 d9 d10 d11 d12 length undoMany zeroKept oneKept seen spot kind begin letters figures value plated driven rows periods leastPeriod text read)) (w1 := (wd_X8_number Γ q0 q1 q2 d0 d1 d2 d3 d4 d5 d6 d7 d8 d9 d10 d11 d12 length undoMany zeroKept oneKept seen spot_62 kind_63 begin_64 letters_65 figures_66 value_67 plated driven rows periods leastPeriod text read_68)) (As := [.int 6, .int 2, .int 20]) (rest := []) ⟨hx, hb, hml, hown, hts⟩ hE hP hD hS hA rfl rfl rfl (c_X8_number l Γ _ q0 q1 q2 d0 d1 d2 d3 d4 d5 d6 d7 d8 d9 d10 d11 d12 length undoMany zeroKept oneKept seen spot kind begin letters figures value plated driven rows periods leastPeriod text read 6 2 20 r_61 spot_62 kind_63 begin_64 letters_65 figures_66 value_67 read_68 hq_69) (cwV 3 hts gX8_item_X8_number rfl rfl rfl (by decide +kernel) ⟨Nat.le_of_ble_eq_true rfl, Nat.le_of_ble_eq_true rfl⟩) (va_recv (ci := 8) (q0 := 0) hK hP rfl rfl) rfl hl.1 rfl (Nat.le_of_ble_eq_true rfl) dX8_item_237 ⟨Nat.zero_le _, Nat.zero_le _⟩ (fun H locs hP hD hS => ?_)
                have hP : va_P Γ.1 vwCl (wd_X8_item Γ q0 q1 q2 d0 d1 d2 d3 d4 d5 d6 d7 d8 d9 d10 d11 d12 length undoMany zeroKept oneKept seen spot_62 kind_63 begin_64 letters_65 figures_66 value_67 plated driven rows periods leastPeriod text read_68) H := hP
                have hD : va_D A (wd_X8_item Γ q0 q1 q2 d0 d1 d2 d3 d4 d5 d6 d7 d8 d9 d10 d11 d12 length undoMany zeroKept oneKept seen spot_62 kind_63 begin_64 letters_65 figures_66 value_67 plated driven rows periods leastPeriod text read_68) := hD
                obtain ⟨hc_70, hf⟩ := vm_ck hf
                subst hout; obtain ⟨rfl, rfl, rfl, rfl, rfl, rfl, rfl, rfl, rfl, rfl, rfl⟩ := rt11 hf
                subst hQQ
                exact W.zret hx hb hr (vm_nz hc_70) (fun t ht hW => ⟨⟨_, (), rfl, rfl, by rw [ht]; exact hP, hD⟩, hS.F ht⟩) hS.2.2 dX8_item_240
            · have hf := vm_pos hc_18 hf
              refine lv_aload_n hx hb dX8_item_193 rfl (lv_at hl 0 rfl) ?_
              refine lv_iconst (v := 5) hx hb dX8_item_194 (by decide) ?_
              refine lv_iconst (v := 1) hx hb dX8_item_195 (by decide) ?_
              refine lv_bipush (v := 99) hx hb dX8_item_196 (by decide) ?_
              obtain ⟨r_71, spot_72, kind_73, begin_74, letters_75, figures_76, value_77, read_78, hq_79, hf⟩ := ob8_some hf
              refine vm_cVi (isC := [0, 1, 2]) (wc := (wd_X8_number Γ q0 q1 q2 d0 d1 d2 d3 d4 d5 d6 d7 d8 d9 d10 d11 d12 length undoMany zeroKept oneKept seen spot kind begin letters figures value plated driven rows periods leastPeriod text read)) (w1 := (wd_X8_number Γ q0 q1 q2 d0 d1 d2 d3 d4 d5 d6 d7 d8 d9 d10 d11 d12 length undoMany zeroKept oneKept seen spot_72 kind_73 begin_74 letters_75 figures_76 value_77 plated driven rows periods leastPeriod text read_78)) (As := [.int 5, .int 1, .int 99]) (rest := []) ⟨hx, hb, hml, hown, hts⟩ hE hP hD hS hA rfl rfl rfl (c_X8_number l Γ _ q0 q1 q2 d0 d1 d2 d3 d4 d5 d6 d7 d8 d9 d10 d11 d12 length undoMany zeroKept oneKept seen spot kind begin letters figures value plated driven rows periods leastPeriod text read 5 1 99 r_71 spot_72 kind_73 begin_74 letters_75 figures_76 value_77 read_78 hq_79) (cwV 3 hts gX8_item_X8_number rfl rfl rfl (by decide +kernel) ⟨Nat.le_of_ble_eq_true rfl, Nat.le_of_ble_eq_true rfl⟩) (va_recv (ci := 8) (q0 := 0) hK hP rfl rfl) rfl hl.1 rfl (Nat.le_of_ble_eq_true rfl) dX8_item_198 ⟨Nat.zero_le _, Nat.zero_le _⟩ (fun H locs hP hD hS => ?_)
              have hP : va_P Γ.1 vwCl (wd_X8_item Γ q0 q1 q2 d0 d1 d2 d3 d4 d5 d6 d7 d8 d9 d10 d11 d12 length undoMany zeroKept oneKept seen spot_72 kind_73 begin_74 letters_75 figures_76 value_77 plated driven rows periods leastPeriod text read_78) H := hP
              have hD : va_D A (wd_X8_item Γ q0 q1 q2 d0 d1 d2 d3 d4 d5 d6 d7 d8 d9 d10 d11 d12 length undoMany zeroKept oneKept seen spot_72 kind_73 begin_74 letters_75 figures_76 value_77 plated driven rows periods leastPeriod text read_78) := hD
              obtain ⟨hc_80, hf⟩ := vm_ck hf
              subst hout; obtain ⟨rfl, rfl, rfl, rfl, rfl, rfl, rfl, rfl, rfl, rfl, rfl⟩ := rt11 hf
              subst hQQ
              exact W.zret hx hb hr (vm_nz hc_80) (fun t ht hW => ⟨⟨_, (), rfl, rfl, by rw [ht]; exact hP, hD⟩, hS.F ht⟩) hS.2.2 dX8_item_201
          · have hf := vm_pos hc_15 hf
            refine lv_aload_n hx hb dX8_item_163 rfl (lv_at hl 0 rfl) ?_
            refine lv_iconst (v := 4) hx hb dX8_item_164 (by decide) ?_
            refine lv_iconst (v := 2) hx hb dX8_item_165 (by decide) ?_
            refine lv_bipush (v := 20) hx hb dX8_item_166 (by decide) ?_
            obtain ⟨r_81, spot_82, kind_83, begin_84, letters_85, figures_86, value_87, read_88, hq_89, hf⟩ := ob8_some hf
            refine vm_cVi (isC := [0, 1, 2]) (wc := (wd_X8_number Γ q0 q1 q2 d0 d1 d2 d3 d4 d5 d6 d7 d8 d9 d10 d11 d12 length undoMany zeroKept oneKept seen spot kind begin letters figures value plated driven rows periods leastPeriod text read)) (w1 := (wd_X8_number Γ q0 q1 q2 d0 d1 d2 d3 d4 d5 d6 d7 d8 d9 d10 d11 d12 length undoMany zeroKept oneKept seen spot_82 kind_83 begin_84 letters_85 figures_86 value_87 plated driven rows periods leastPeriod text read_88)) (As := [.int 4, .int 2, .int 20]) (rest := []) ⟨hx, hb, hml, hown, hts⟩ hE hP hD hS hA rfl rfl rfl (c_X8_number l Γ _ q0 q1 q2 d0 d1 d2 d3 d4 d5 d6 d7 d8 d9 d10 d11 d12 length undoMany zeroKept oneKept seen spot kind begin letters figures value plated driven rows periods leastPeriod text read 4 2 20 r_81 spot_82 kind_83 begin_84 letters_85 figures_86 value_87 read_88 hq_89) (cwV 3 hts gX8_item_X8_number rfl rfl rfl (by decide +kernel) ⟨Nat.le_of_ble_eq_true rfl, Nat.le_of_ble_eq_true rfl⟩) (va_recv (ci := 8) (q0 := 0) hK hP rfl rfl) rfl hl.1 rfl (Nat.le_of_ble_eq_true rfl) dX8_item_168 ⟨Nat.zero_le _, Nat.zero_le _⟩ (fun H locs hP hD hS => ?_)
            have hP : va_P Γ.1 vwCl (wd_X8_item Γ q0 q1 q2 d0 d1 d2 d3 d4 d5 d6 d7 d8 d9 d10 d11 d12 length undoMany zeroKept oneKept seen spot_82 kind_83 begin_84 letters_85 figures_86 value_87 plated driven rows periods leastPeriod text read_88) H := hP
            have hD : va_D A (wd_X8_item Γ q0 q1 q2 d0 d1 d2 d3 d4 d5 d6 d7 d8 d9 d10 d11 d12 length undoMany zeroKept oneKept seen spot_82 kind_83 begin_84 letters_85 figures_86 value_87 plated driven rows periods leastPeriod text read_88) := hD
            obtain ⟨hc_90, hf⟩ := vm_ck hf
            subst hout; obtain ⟨rfl, rfl, rfl, rfl, rfl, rfl, rfl, rfl, rfl, rfl, rfl⟩ := rt11 hf
            subst hQQ
            exact W.zret hx hb hr (vm_nz hc_90) (fun t ht hW => ⟨⟨_, (), rfl, rfl, by rw [ht]; exact hP, hD⟩, hS.F ht⟩) hS.2.2 dX8_item_171
        · have hf := vm_pos hc_12 hf
          refine lv_aload_n hx hb dX8_item_135 rfl (lv_at hl 0 rfl) ?_
          refine lv_iconst (v := 3) hx hb dX8_item_136 (by decide) ?_
          refine lv_iconst (v := 1) hx hb dX8_item_137 (by decide) ?_
          refine lv_bipush (v := 7) hx hb dX8_item_138 (by decide) ?_
          obtain ⟨r_91, spot_92, kind_93, begin_94, letters_95, figures_96, value_97, read_98, hq_99, hf⟩ := ob8_some hf
          refine vm_cVi (isC := [0, 1, 2]) (wc := (wd_X8_number Γ q0 q1 q2 d0 d1 d2 d3 d4 d5 d6 d7 d8 d9 d10 d11 d12 length undoMany zeroKept oneKept seen spot kind begin letters figures value plated driven rows periods leastPeriod text read)) (w1 := (wd_X8_number Γ q0 q1 q2 d0 d1 d2 d3 d4 d5 d6 d7 d8 d9 d10 d11 d12 length undoMany zeroKept oneKept seen spot_92 kind_93 begin_94 letters_95 figures_96 value_97 plated driven rows periods leastPeriod text read_98)) (As := [.int 3, .int 1, .int 7]) (rest := []) ⟨hx, hb, hml, hown, hts⟩ hE hP hD hS hA rfl rfl rfl (c_X8_number l Γ _ q0 q1 q2 d0 d1 d2 d3 d4 d5 d6 d7 d8 d9 d10 d11 d12 length undoMany zeroKept oneKept seen spot kind begin letters figures value plated driven rows periods leastPeriod text read 3 1 7 r_91 spot_92 kind_93 begin_94 letters_95 figures_96 value_97 read_98 hq_99) (cwV 3 hts gX8_item_X8_number rfl rfl rfl (by decide +kernel) ⟨Nat.le_of_ble_eq_true rfl, Nat.le_of_ble_eq_true rfl⟩) (va_recv (ci := 8) (q0 := 0) hK hP rfl rfl) rfl hl.1 rfl (Nat.le_of_ble_eq_true rfl) dX8_item_140 ⟨Nat.zero_le _, Nat.zero_le _⟩ (fun H locs hP hD hS => ?_)
          have hP : va_P Γ.1 vwCl (wd_X8_item Γ q0 q1 q2 d0 d1 d2 d3 d4 d5 d6 d7 d8 d9 d10 d11 d12 length undoMany zeroKept oneKept seen spot_92 kind_93 begin_94 letters_95 figures_96 value_97 plated driven rows periods leastPeriod text read_98) H := hP
          have hD : va_D A (wd_X8_item Γ q0 q1 q2 d0 d1 d2 d3 d4 d5 d6 d7 d8 d9 d10 d11 d12 length undoMany zeroKept oneKept seen spot_92 kind_93 begin_94 letters_95 figures_96 value_97 plated driven rows periods leastPeriod text read_98) := hD
          obtain ⟨hc_100, hf⟩ := vm_ck hf
          subst hout; obtain ⟨rfl, rfl, rfl, rfl, rfl, rfl, rfl, rfl, rfl, rfl, rfl⟩ := rt11 hf
          subst hQQ
          exact W.zret hx hb hr (vm_nz hc_100) (fun t ht hW => ⟨⟨_, (), rfl, rfl, by rw [ht]; exact hP, hD⟩, hS.F ht⟩) hS.2.2 dX8_item_143
      · have hf := vm_pos hc_9 hf
        refine lv_aload_n hx hb dX8_item_106 rfl (lv_at hl 0 rfl) ?_
        refine lv_iconst (v := 2) hx hb dX8_item_107 (by decide) ?_
        refine lv_iconst (v := 0) hx hb dX8_item_108 (by decide) ?_
        refine lv_iconst (v := 1) hx hb dX8_item_109 (by decide) ?_
        obtain ⟨r_101, spot_102, kind_103, begin_104, letters_105, figures_106, value_107, read_108, hq_109, hf⟩ := ob8_some hf
        refine vm_cVi (isC := [0, 1, 2]) (wc := (wd_X8_number Γ q0 q1 q2 d0 d1 d2 d3 d4 d5 d6 d7 d8 d9 d10 d11 d12 length undoMany zeroKept oneKept seen spot kind begin letters figures value plated driven rows periods leastPeriod text read)) (w1 := (wd_X8_number Γ q0 q1 q2 d0 d1 d2 d3 d4 d5 d6 d7 d8 d9 d10 d11 d12 length undoMany zeroKept oneKept seen spot_102 kind_103 begin_104 letters_105 figures_106 value_107 plated driven rows periods leastPeriod text read_108)) (As := [.int 2, .int 0, .int 1]) (rest := []) ⟨hx, hb, hml, hown, hts⟩ hE hP hD hS hA rfl rfl rfl (c_X8_number l Γ _ q0 q1 q2 d0 d1 d2 d3 d4 d5 d6 d7 d8 d9 d10 d11 d12 length undoMany zeroKept oneKept seen spot kind begin letters figures value plated driven rows periods leastPeriod text read 2 0 1 r_101 spot_102 kind_103 begin_104 letters_105 figures_106 value_107 read_108 hq_109) (cwV 3 hts gX8_item_X8_number rfl rfl rfl (by decide +kernel) ⟨Nat.le_of_ble_eq_true rfl, Nat.le_of_ble_eq_true rfl⟩) (va_recv (ci := 8) (q0 := 0) hK hP rfl rfl) rfl hl.1 rfl (Nat.le_of_ble_eq_true rfl) dX8_item_110 ⟨Nat.zero_le _, Nat.zero_le _⟩ (fun H locs hP hD hS => ?_)
        have hP : va_P Γ.1 vwCl (wd_X8_item Γ q0 q1 q2 d0 d1 d2 d3 d4 d5 d6 d7 d8 d9 d10 d11 d12 length undoMany zeroKept oneKept seen spot_102 kind_103 begin_104 letters_105 figures_106 value_107 plated driven rows periods leastPeriod text read_108) H := hP
        have hD : va_D A (wd_X8_item Γ q0 q1 q2 d0 d1 d2 d3 d4 d5 d6 d7 d8 d9 d10 d11 d12 length undoMany zeroKept oneKept seen spot_102 kind_103 begin_104 letters_105 figures_106 value_107 plated driven rows periods leastPeriod text read_108) := hD
        obtain ⟨hc_110, hf⟩ := vm_ck hf
        subst hout; obtain ⟨rfl, rfl, rfl, rfl, rfl, rfl, rfl, rfl, rfl, rfl, rfl⟩ := rt11 hf
        subst hQQ
        exact W.zret hx hb hr (vm_nz hc_110) (fun t ht hW => ⟨⟨_, (), rfl, rfl, by rw [ht]; exact hP, hD⟩, hS.F ht⟩) hS.2.2 dX8_item_113
    · have hf := vm_pos hc_6 hf
      refine lv_aload_n hx hb dX8_item_31 rfl (lv_at hl 0 rfl) ?_
      refine va_get (D := Γ.1) (ci := 8) (v := .int plated) (C := RX8) (T := TX8) (N := 31) hx hb hts hi8 hown hK hP 0 rfl rfl 18 (by decide) (hts (.fieldLink RX8 116 "SandPlatesModel" "plated" "Z") (List.mem_of_getElem? (i := 3) rfl)) (fun _ h9 => h9) rfl dX8_item_32 ?_
      refine lv_if_ne (tgt := 52) hx hb dX8_item_35 (by decide) (fun hc_111 => ?_) (fun hc_111 => ?_)
      · have hf := vm_neg hc_111 hf
        exact K_52 spot kind begin letters figures value plated driven rows read hP hD hS (lv_sub hl [] rfl) hf
      · have hf := vm_pos hc_111 hf
        refine lv_aload_n hx hb dX8_item_38 rfl (lv_at hl 0 rfl) ?_
        refine va_get (D := Γ.1) (ci := 8) (v := .int driven) (C := RX8) (T := TX8) (N := 31) hx hb hts hi8 hown hK hP 0 rfl rfl 19 (by decide) (hts (.fieldLink RX8 104 "SandPlatesModel" "driven" "Z") (List.mem_of_getElem? (i := 4) rfl)) (fun _ h9 => h9) rfl dX8_item_39 ?_
        refine lv_if_ne (tgt := 52) hx hb dX8_item_42 (by decide) (fun hc_112 => ?_) (fun hc_112 => ?_)
        · have hf := vm_neg hc_112 hf
          exact K_52 spot kind begin letters figures value plated driven rows read hP hD hS (lv_sub hl [] rfl) hf
        · have hf := vm_pos hc_112 hf
          refine lv_aload_n hx hb dX8_item_45 rfl (lv_at hl 0 rfl) ?_
          refine va_get (D := Γ.1) (ci := 8) (v := .int rows) (C := RX8) (T := TX8) (N := 31) hx hb hts hi8 hown hK hP 0 rfl rfl 20 (by decide) (hts (.fieldLink RX8 101 "SandPlatesModel" "rows" "I") (List.mem_of_getElem? (i := 5) rfl)) (fun _ h9 => h9) rfl dX8_item_46 ?_
          refine lv_if_le (tgt := 54) hx hb dX8_item_49 (by decide) (fun hc_113 => ?_) (fun hc_113 => ?_)
          · have hf := vm_pos hc_113 hf
            refine lv_aload_n hx hb dX8_item_54 rfl (lv_at hl 0 rfl) ?_
            refine lv_iconst (v := 1) hx hb dX8_item_55 (by decide) ?_
            refine va_put (D := Γ.1) (ci := 8) (v := .int 1) (ty := .boolean) (C := RX8) (T := TX8) (N := 31) hx hb hts hi8 tyX8 tyX8_ok nmX8 hown hK hP hD hS 0 rfl rfl 18 (by decide) (hts (.fieldLink RX8 116 "SandPlatesModel" "plated" "Z") (List.mem_of_getElem? (i := 3) rfl)) (fun _ h9 => h9) rfl (by decide +kernel) rfl rfl (Nat.le_of_ble_eq_true rfl) dX8_item_56 (fun H locs hP hD hS => ?_)
            have hP : va_P Γ.1 vwCl (wd_X8_item Γ q0 q1 q2 d0 d1 d2 d3 d4 d5 d6 d7 d8 d9 d10 d11 d12 length undoMany zeroKept oneKept seen spot kind begin letters figures value 1 driven rows periods leastPeriod text read) H := hP
            have hD : va_D A (wd_X8_item Γ q0 q1 q2 d0 d1 d2 d3 d4 d5 d6 d7 d8 d9 d10 d11 d12 length undoMany zeroKept oneKept seen spot kind begin letters figures value 1 driven rows periods leastPeriod text read) := hD
            refine lv_aload_n hx hb dX8_item_59 rfl (lv_at hl 0 rfl) ?_
            refine lv_iconst (v := 0) hx hb dX8_item_60 (by decide) ?_
            refine lv_iconst (v := 2) hx hb dX8_item_61 (by decide) ?_
            refine lv_bipush (v := 6) hx hb dX8_item_62 (by decide) ?_
            obtain ⟨r_114, spot_115, kind_116, begin_117, letters_118, figures_119, value_120, read_121, hq_122, hf⟩ := ob8_some hf
            refine vm_cVi (isC := [0, 1, 2]) (wc := (wd_X8_number Γ q0 q1 q2 d0 d1 d2 d3 d4 d5 d6 d7 d8 d9 d10 d11 d12 length undoMany zeroKept oneKept seen spot kind begin letters figures value 1 driven rows periods leastPeriod text read)) (w1 := (wd_X8_number Γ q0 q1 q2 d0 d1 d2 d3 d4 d5 d6 d7 d8 d9 d10 d11 d12 length undoMany zeroKept oneKept seen spot_115 kind_116 begin_117 letters_118 figures_119 value_120 1 driven rows periods leastPeriod text read_121)) (As := [.int 0, .int 2, .int 6]) (rest := []) ⟨hx, hb, hml, hown, hts⟩ hE hP hD hS hA rfl rfl rfl (c_X8_number l Γ _ q0 q1 q2 d0 d1 d2 d3 d4 d5 d6 d7 d8 d9 d10 d11 d12 length undoMany zeroKept oneKept seen spot kind begin letters figures value 1 driven rows periods leastPeriod text read 0 2 6 r_114 spot_115 kind_116 begin_117 letters_118 figures_119 value_120 read_121 hq_122) (cwV 3 hts gX8_item_X8_number rfl rfl rfl (by decide +kernel) ⟨Nat.le_of_ble_eq_true rfl, Nat.le_of_ble_eq_true rfl⟩) (va_recv (ci := 8) (q0 := 0) hK hP rfl rfl) rfl hl.1 rfl (Nat.le_of_ble_eq_true rfl) dX8_item_64 ⟨Nat.zero_le _, Nat.zero_le _⟩ (fun H locs hP hD hS => ?_)
            have hP : va_P Γ.1 vwCl (wd_X8_item Γ q0 q1 q2 d0 d1 d2 d3 d4 d5 d6 d7 d8 d9 d10 d11 d12 length undoMany zeroKept oneKept seen spot_115 kind_116 begin_117 letters_118 figures_119 value_120 1 driven rows periods leastPeriod text read_121) H := hP
            have hD : va_D A (wd_X8_item Γ q0 q1 q2 d0 d1 d2 d3 d4 d5 d6 d7 d8 d9 d10 d11 d12 length undoMany zeroKept oneKept seen spot_115 kind_116 begin_117 letters_118 figures_119 value_120 1 driven rows periods leastPeriod text read_121) := hD
            refine lv_if_eq (tgt := 85) hx hb dX8_item_67 (by decide) (fun hc_123 => ?_) (fun hc_123 => ?_)
            · have hf := vm_pos hc_123 hf
              exact K_85 spot_115 kind_116 begin_117 letters_118 figures_119 value_120 1 driven rows read_121 hP hD hS (lv_sub hl [] rfl) hf
            · have hf := vm_neg hc_123 hf
              refine lv_aload_n hx hb dX8_item_70 rfl (lv_at hl 0 rfl) ?_
              refine lv_iconst (v := 1) hx hb dX8_item_71 (by decide) ?_
              refine lv_iconst (v := 2) hx hb dX8_item_72 (by decide) ?_
              refine lv_bipush (v := 6) hx hb dX8_item_73 (by decide) ?_
              obtain ⟨r_124, spot_125, kind_126, begin_127, letters_128, figures_129, value_130, read_131, hq_132, hf⟩ := ob8_some hf
              refine vm_cVi (isC := [0, 1, 2]) (wc := (wd_X8_number Γ q0 q1 q2 d0 d1 d2 d3 d4 d5 d6 d7 d8 d9 d10 d11 d12 length undoMany zeroKept oneKept seen spot_115 kind_116 begin_117 letters_118 figures_119 value_120 1 driven rows periods leastPeriod text read_121)) (w1 := (wd_X8_number Γ q0 q1 q2 d0 d1 d2 d3 d4 d5 d6 d7 d8 d9 d10 d11 d12 length undoMany zeroKept oneKept seen spot_125 kind_126 begin_127 letters_128 figures_129 value_130 1 driven rows periods leastPeriod text read_131)) (As := [.int 1, .int 2, .int 6]) (rest := []) ⟨hx, hb, hml, hown, hts⟩ hE hP hD hS hA rfl rfl rfl (c_X8_number l Γ _ q0 q1 q2 d0 d1 d2 d3 d4 d5 d6 d7 d8 d9 d10 d11 d12 length undoMany zeroKept oneKept seen spot_115 kind_116 begin_117 letters_118 figures_119 value_120 1 driven rows periods leastPeriod text read_121 1 2 6 r_124 spot_125 kind_126 begin_127 letters_128 figures_129 value_130 read_131 hq_132) (cwV 3 hts gX8_item_X8_number rfl rfl rfl (by decide +kernel) ⟨Nat.le_of_ble_eq_true rfl, Nat.le_of_ble_eq_true rfl⟩) (va_recv (ci := 8) (q0 := 0) hK hP rfl rfl) rfl hl.1 rfl (Nat.le_of_ble_eq_true rfl) dX8_item_75 ⟨Nat.zero_le _, Nat.zero_le _⟩ (fun H locs hP hD hS => ?_)
              have hP : va_P Γ.1 vwCl (wd_X8_item Γ q0 q1 q2 d0 d1 d2 d3 d4 d5 d6 d7 d8 d9 d10 d11 d12 length undoMany zeroKept oneKept seen spot_125 kind_126 begin_127 letters_128 figures_129 value_130 1 driven rows periods leastPeriod text read_131) H := hP
              have hD : va_D A (wd_X8_item Γ q0 q1 q2 d0 d1 d2 d3 d4 d5 d6 d7 d8 d9 d10 d11 d12 length undoMany zeroKept oneKept seen spot_125 kind_126 begin_127 letters_128 figures_129 value_130 1 driven rows periods leastPeriod text read_131) := hD
              refine lv_if_eq (tgt := 85) hx hb dX8_item_78 (by decide) (fun hc_133 => ?_) (fun hc_133 => ?_)
              · have hf := vm_pos hc_133 hf
                exact K_85 spot_125 kind_126 begin_127 letters_128 figures_129 value_130 1 driven rows read_131 hP hD hS (lv_sub hl [] rfl) hf
              · have hf := vm_neg hc_133 hf
                refine lv_iconst (v := 1) hx hb dX8_item_81 (by decide) ?_
                refine lv_goto (tgt := 86) hx hb dX8_item_82 (by decide) ?_
                exact K_86 spot_125 kind_126 begin_127 letters_128 figures_129 value_130 1 driven rows read_131 1 hP hD hS (lv_sub hl [] rfl) hf
          · have hf := vm_neg hc_113 hf
            exact K_52 spot kind begin letters figures value plated driven rows read hP hD hS (lv_sub hl [] rfl) hf
  · have hf := vm_neg hc_3 hf
    refine lv_iconst (v := 0) hx hb dX8_item_8 (by decide) ?_
    subst hout; obtain ⟨rfl, rfl, rfl, rfl, rfl, rfl, rfl, rfl, rfl, rfl, rfl⟩ := rt11 hf
    subst hQQ
    exact W.zret hx hb hr rfl (fun t ht hW => ⟨⟨_, (), rfl, rfl, by rw [ht]; exact hP, hD⟩, hS.F ht⟩) hS.2.2 dX8_item_9
def wd_X8_reads (Γ : GE) (q0 q1 q2 d0 d1 d2 d3 d4 d5 d6 d7 d8 d9 d10 d11 d12 : Nat) (length : Int32) (undoMany : Int32) (zeroKept : Int32) (oneKept : Int32) (seen : Int32) (spot : Int32) (kind : Int32) (begin : Int32) (letters : Int64) (figures : Int32) (value : Int32) (plated : Int32) (driven : Int32) (rows : Int32) (periods : Int32) (leastPeriod : Int32) (text : Nat → Int32) (read : Nat → Int32) : va_W := [(q0, .inr (8, [.int length, .ref q1, .ref d0, .ref q2, .ref d1, .int undoMany, .ref d2, .int zeroKept, .int oneKept, .ref d3, .ref d4, .int seen, .int spot, .int kind, .int begin, .long letters, .int figures, .int value, .int plated, .int driven, .int rows, .ref d5, .ref d6, .ref d7, .ref d8, .ref d9, .ref d10, .ref d11, .ref d12, .int periods, .int leastPeriod])), (q1, .inl (Γ.2.1 0, 120, .inl text)), (q2, .inl (Γ.2.1 0, 81, .inl read))]
def f_X8_reads_72 (spot : Int32) (kind : Int32) (begin : Int32) (letters : Int64) (figures : Int32) (value : Int32) (plated : Int32) (driven : Int32) (rows : Int32) (read : Nat → Int32) (x1 : Int32) : Option (Int32 × Int32 × Int32 × Int32 × Int64 × Int32 × Int32 × Int32 × Int32 × Int32 × (Nat → Int32)) := some (x1, spot, kind, begin, letters, figures, value, plated, driven, rows, read)
def f_X8_reads_54 (spot : Int32) (kind : Int32) (begin : Int32) (letters : Int64) (figures : Int32) (value : Int32) (plated : Int32) (driven : Int32) (rows : Int32) (read : Nat → Int32) : Option (Int32 × Int32 × Int32 × Int32 × Int64 × Int32 × Int32 × Int32 × Int32 × Int32 × (Nat → Int32)) := some (((-10) - begin), spot, kind, begin, letters, figures, value, plated, driven, rows, read)
def f_X8_reads_33b (length : Int32) (text : Nat → Int32) (spot : Int32) (kind : Int32) (begin : Int32) (letters : Int64) (figures : Int32) (value : Int32) (plated : Int32) (driven : Int32) (rows : Int32) (read : Nat → Int32) (x1 : Int32) (k : ((Int32 × Int32 × Int32 × Int64 × Int32 × Int32 × Int32 × Int32 × Int32 × (Nat → Int32) × Int32) → Option ((Int32 × Int32 × Int32 × Int64 × Int32 × Int32 × Int32 × Int32 × Int32 × (Nat → Int32) × Int32) ⊕ (Int32 × Int32 × Int32 × Int64 × Int32 × Int32 × Int32 × Int32 × Int32 × (Nat → Int32))))) : Option ((Int32 × Int32 × Int32 × Int64 × Int32 × Int32 × Int32 × Int32 × Int32 × (Nat → Int32) × Int32) ⊕ (Int32 × Int32 × Int32 × Int64 × Int32 × Int32 × Int32 × Int32 × Int32 × (Nat → Int32))) := if kind = 0 then (some (Sum.inl (spot, kind, begin, letters, figures, value, plated, driven, rows, read, x1))) else (ob11 (f_X8_item length spot kind begin letters figures value plated driven rows text read) (fun r_2 spot_3 kind_4 begin_5 letters_6 figures_7 value_8 plated_9 driven_10 rows_11 read_12 => if r_2 = 0 then (some (Sum.inr (spot_3, kind_4, begin_5, letters_6, figures_7, value_8, plated_9, driven_10, rows_11, read_12))) else (ob7 (f_X8_stops length spot_3 text) (fun r_15 spot_16 kind_17 begin_18 letters_19 figures_20 value_21 => if r_15 = 0 then (some (Sum.inr (spot_16, kind_17, begin_18, letters_19, figures_20, value_21, plated_9, driven_10, rows_11, read_12))) else (ob6 (f_X8_takes length spot_16 text) (fun spot_24 kind_25 begin_26 letters_27 figures_28 value_29 => k (spot_24, kind_25, begin_26, letters_27, figures_28, value_29, plated_9, driven_10, rows_11, read_12, (x1 + 1))))))))
def f_X8_reads_33s (length : Int32) (text : Nat → Int32) : (Int32 × Int32 × Int32 × Int64 × Int32 × Int32 × Int32 × Int32 × Int32 × (Nat → Int32) × Int32) → ((Int32 × Int32 × Int32 × Int64 × Int32 × Int32 × Int32 × Int32 × Int32 × (Nat → Int32) × Int32) → Option ((Int32 × Int32 × Int32 × Int64 × Int32 × Int32 × Int32 × Int32 × Int32 × (Nat → Int32) × Int32) ⊕ (Int32 × Int32 × Int32 × Int64 × Int32 × Int32 × Int32 × Int32 × Int32 × (Nat → Int32)))) → Option ((Int32 × Int32 × Int32 × Int64 × Int32 × Int32 × Int32 × Int32 × Int32 × (Nat → Int32) × Int32) ⊕ (Int32 × Int32 × Int32 × Int64 × Int32 × Int32 × Int32 × Int32 × Int32 × (Nat → Int32))) := fun t k => f_X8_reads_33b length text t.1 t.2.1 t.2.2.1 t.2.2.2.1 t.2.2.2.2.1 t.2.2.2.2.2.1 t.2.2.2.2.2.2.1 t.2.2.2.2.2.2.2.1 t.2.2.2.2.2.2.2.2.1 t.2.2.2.2.2.2.2.2.2.1 t.2.2.2.2.2.2.2.2.2.2 k
def f_X8_reads_33 (length : Int32) (spot : Int32) (kind : Int32) (begin : Int32) (letters : Int64) (figures : Int32) (value : Int32) (plated : Int32) (driven : Int32) (rows : Int32) (text : Nat → Int32) (read : Nat → Int32) (x1 : Int32) : Option (Int32 × Int32 × Int32 × Int32 × Int64 × Int32 × Int32 × Int32 × Int32 × Int32 × (Nat → Int32)) := obx (vm_it (f_X8_reads_33s length text) FU (spot, kind, begin, letters, figures, value, plated, driven, rows, read, x1)) (Sum.elim (un11 (fun spot kind begin letters figures value plated driven rows read x1 => f_X8_reads_72 spot kind begin letters figures value plated driven rows read x1)) (un10 (fun spot kind begin letters figures value plated driven rows read => f_X8_reads_54 spot kind begin letters figures value plated driven rows read)))
def f_X8_reads (length : Int32) (text : Nat → Int32) (read : Nat → Int32) : Option (Int32 × Int32 × Int32 × Int32 × Int64 × Int32 × Int32 × Int32 × Int32 × Int32 × (Nat → Int32)) := ob1 (f_X8_plain read) (fun read_31 => ob6 (f_X8_takes length 0 text) (fun spot_33 kind_34 begin_35 letters_36 figures_37 value_38 => f_X8_reads_33 length spot_33 kind_34 begin_35 letters_36 figures_37 value_38 0 0 0 text read_31 0))
set_option maxHeartbeats 4000000 in
set_option maxRecDepth 100000 in
theorem c_X8_reads (l : Launch) (Γ : GE) (sz : Nat) (q0 q1 q2 d0 d1 d2 d3 d4 d5 d6 d7 d8 d9 d10 d11 d12 : Nat) (length : Int32) (undoMany : Int32) (zeroKept : Int32) (oneKept : Int32) (seen : Int32) (spot : Int32) (kind : Int32) (begin : Int32) (letters : Int64) (figures : Int32) (value : Int32) (plated : Int32) (driven : Int32) (rows : Int32) (periods : Int32) (leastPeriod : Int32) (text : Nat → Int32) (read : Nat → Int32) (ro : Int32) (o_spot : Int32) (o_kind : Int32) (o_begin : Int32) (o_letters : Int64) (o_figures : Int32) (o_value : Int32) (o_plated : Int32) (o_driven : Int32) (o_rows : Int32) (o_read : Nat → Int32) (hf : f_X8_reads length text read = some (ro, o_spot, o_kind, o_begin, o_letters, o_figures, o_value, o_plated, o_driven, o_rows, o_read)) : MetI l yX8_reads wsX8_reads ({ frames := 6, cells := 0, slots := 0, locals := 131 } : Room) Γ [.ref q0] (wd_X8_reads Γ q0 q1 q2 d0 d1 d2 d3 d4 d5 d6 d7 d8 d9 d10 d11 d12 length undoMany zeroKept oneKept seen spot kind begin letters figures value plated driven rows periods leastPeriod text read) (wd_X8_reads Γ q0 q1 q2 d0 d1 d2 d3 d4 d5 d6 d7 d8 d9 d10 d11 d12 length undoMany zeroKept oneKept seen o_spot o_kind o_begin o_letters o_figures o_value o_plated o_driven o_rows periods leastPeriod text o_read) sz ro := by
  refine Met.ofW (cc := cX8_reads) (maxL := 2) (ret := (some .int)) (by decide) rfl ?_
  intro p e s m args below meth c s₁ B hml hv
  obtain ⟨rfl, hsz, hE, hP, hD⟩ := hv
  have hx := B.exec
  have hb := B.bytes
  have hr := B.returns
  have hts := atoms_spec (ws := wsX8_reads) B.pre
  have hown : s.vm.findClass RX8 = some m.cls := findClass_of_methodNamed B.named
  have hlocks := B.notSynchronized
  subst hsz
  generalize hAe : va_A (wd_X8_reads Γ q0 q1 q2 d0 d1 d2 d3 d4 d5 d6 d7 d8 d9 d10 d11 d12 length undoMany zeroKept oneKept seen spot kind begin letters figures value plated driven rows periods leastPeriod text read) s.heap.size = A at hE hD ⊢
  have hA : ∀ q : Nat, s.heap.size ≤ q → A q := fun q h => by rw [← hAe]; exact Or.inr h
  clear hAe
  have hS : va_S A s.heap s.heap [] := va_S.rf
  have hK := hE.1
  have hl := lv_entry ([.ref q0]) (n := 2) (Nat.le_of_ble_eq_true rfl)
  rw [lg_entry_eq]
  generalize (lg_sl ([.ref q0]) ++ List.replicate (2 - (lg_sl ([.ref q0])).length) Slot.unset).toArray = ls at hl ⊢
  have hl : lv_has ls 2 [(0, .ref q0)] := hl
  have hi8 : ∀ w ∈ u_ws RX8 TX8 31, w ∈ wsX8_reads := fun w h => (List.mem_cons_of_mem _ (List.mem_append_right _ h))
  obtain ⟨out, hout⟩ : ∃ o, o = (ro, o_spot, o_kind, o_begin, o_letters, o_figures, o_value, o_plated, o_driven, o_rows, o_read) := ⟨_, rfl⟩
  rw [← hout] at hf
  obtain ⟨QQ, hQQ⟩ : ∃ Q, Q = MQ below (va_Qi (fun (r' : Int32) (_ : Unit) => r' = ro) (CQ Γ (wd_X8_reads Γ q0 q1 q2 d0 d1 d2 d3 d4 d5 d6 d7 d8 d9 d10 d11 d12 length undoMany zeroKept oneKept seen o_spot o_kind o_begin o_letters o_figures o_value o_plated o_driven o_rows periods leastPeriod text o_read) A) A) (([.ref q0] : List Value).toArray) s 0 0 A := ⟨_, rfl⟩
  show W p l e ({ frames := 6, cells := 0, slots := 0, locals := 131 } : Room) s m (([.ref q0] : List Value).toArray) below meth c s.heap [] 0 0 (MQ below _ (([.ref q0] : List Value).toArray) s 0 0 A) (F0 m 0 ls [])
  rw [← hQQ]
  have K_72 : ∀ (spot : Int32) (kind : Int32) (begin : Int32) (letters : Int64) (figures : Int32) (value : Int32) (plated : Int32) (driven : Int32) (rows : Int32) (read : Nat → Int32) (x1 : Int32) {H : Heap} {locs : List Loc} {ls : Array Slot}, va_P Γ.1 vwCl (wd_X8_reads Γ q0 q1 q2 d0 d1 d2 d3 d4 d5 d6 d7 d8 d9 d10 d11 d12 length undoMany zeroKept oneKept seen spot kind begin letters figures value plated driven rows periods leastPeriod text read) H → va_D A (wd_X8_reads Γ q0 q1 q2 d0 d1 d2 d3 d4 d5 d6 d7 d8 d9 d10 d11 d12 length undoMany zeroKept oneKept seen spot kind begin letters figures value plated driven rows periods leastPeriod text read) → va_S A s.heap H locs → lv_has ls 2 [(1, .int x1)] → f_X8_reads_72 spot kind begin letters figures value plated driven rows read x1 = some out → W p l e ({ frames := 6, cells := 0, slots := 0, locals := 131 } : Room) s m ([.ref q0] : List Value).toArray below meth c H locs 0 0 QQ (F0 m 72 ls []) := by
    intro spot kind begin letters figures value plated driven rows read x1 H locs ls hP hD hS hl hf
    unfold f_X8_reads_72 at hf
    refine lv_iload_n hx hb dX8_reads_72 rfl (lv_at hl 0 rfl) ?_
    subst hout; obtain ⟨rfl, rfl, rfl, rfl, rfl, rfl, rfl, rfl, rfl, rfl, rfl⟩ := rt11 hf
    subst hQQ
    exact W.iret hx hb hr (fun t ht hW => ⟨⟨_, (), rfl, rfl, by rw [ht]; exact hP, hD⟩, hS.F ht⟩) hS.2.2 dX8_reads_73
  have K_54 : ∀ (spot : Int32) (kind : Int32) (begin : Int32) (letters : Int64) (figures : Int32) (value : Int32) (plated : Int32) (driven : Int32) (rows : Int32) (read : Nat → Int32) {H : Heap} {locs : List Loc} {ls : Array Slot}, va_P Γ.1 vwCl (wd_X8_reads Γ q0 q1 q2 d0 d1 d2 d3 d4 d5 d6 d7 d8 d9 d10 d11 d12 length undoMany zeroKept oneKept seen spot kind begin letters figures value plated driven rows periods leastPeriod text read) H → va_D A (wd_X8_reads Γ q0 q1 q2 d0 d1 d2 d3 d4 d5 d6 d7 d8 d9 d10 d11 d12 length undoMany zeroKept oneKept seen spot kind begin letters figures value plated driven rows periods leastPeriod text read) → va_S A s.heap H locs → lv_has ls 2 [(0, .ref q0)] → f_X8_reads_54 spot kind begin letters figures value plated driven rows read = some out → W p l e ({ frames := 6, cells := 0, slots := 0, locals := 131 } : Room) s m ([.ref q0] : List Value).toArray below meth c H locs 0 0 QQ (F0 m 54 ls []) := by
    intro spot kind begin letters figures value plated driven rows read H locs ls hP hD hS hl hf
    unfold f_X8_reads_54 at hf
    refine lv_bipush (v := (-10)) hx hb dX8_reads_54 (by decide) ?_
    refine lv_aload_n hx hb dX8_reads_56 rfl (lv_at hl 0 rfl) ?_
    refine va_get (D := Γ.1) (ci := 8) (v := .int begin) (C := RX8) (T := TX8) (N := 31) hx hb hts hi8 hown hK hP 0 rfl rfl 14 (by decide) (hts (.fieldLink RX8 76 "SandPlatesModel" "begin" "I") (List.mem_of_getElem? (i := 7) rfl)) (fun _ h9 => h9) rfl dX8_reads_57 ?_
    refine lv_isub hx hb dX8_reads_60 ?_
    subst hout; obtain ⟨rfl, rfl, rfl, rfl, rfl, rfl, rfl, rfl, rfl, rfl, rfl⟩ := rt11 hf
    subst hQQ
    exact W.iret hx hb hr (fun t ht hW => ⟨⟨_, (), rfl, rfl, by rw [ht]; exact hP, hD⟩, hS.F ht⟩) hS.2.2 dX8_reads_61
  have K_33 : ∀ (spot : Int32) (kind : Int32) (begin : Int32) (letters : Int64) (figures : Int32) (value : Int32) (plated : Int32) (driven : Int32) (rows : Int32) (read : Nat → Int32) (x1 : Int32) {H : Heap} {locs : List Loc} {ls : Array Slot}, va_P Γ.1 vwCl (wd_X8_reads Γ q0 q1 q2 d0 d1 d2 d3 d4 d5 d6 d7 d8 d9 d10 d11 d12 length undoMany zeroKept oneKept seen spot kind begin letters figures value plated driven rows periods leastPeriod text read) H → va_D A (wd_X8_reads Γ q0 q1 q2 d0 d1 d2 d3 d4 d5 d6 d7 d8 d9 d10 d11 d12 length undoMany zeroKept oneKept seen spot kind begin letters figures value plated driven rows periods leastPeriod text read) → va_S A s.heap H locs → lv_has ls 2 [(0, .ref q0), (1, .int x1)] → f_X8_reads_33 length spot kind begin letters figures value plated driven rows text read x1 = some out → W p l e ({ frames := 6, cells := 0, slots := 0, locals := 131 } : Room) s m ([.ref q0] : List Value).toArray below meth c H locs 0 0 QQ (F0 m 33 ls []) := by
    intro spot kind begin letters figures value plated driven rows read x1 H locs ls hP hD hS hl hf
    unfold f_X8_reads_33 at hf
    obtain ⟨ex33, h1, hX33⟩ := obx_some hf
    have LP : ∀ (n : Nat) (spot : Int32) (kind : Int32) (begin : Int32) (letters : Int64) (figures : Int32) (value : Int32) (plated : Int32) (driven : Int32) (rows : Int32) (read : Nat → Int32) (x1 : Int32)  {H : Heap} {locs : List Loc} {ls : Array Slot}, va_P Γ.1 vwCl (wd_X8_reads Γ q0 q1 q2 d0 d1 d2 d3 d4 d5 d6 d7 d8 d9 d10 d11 d12 length undoMany zeroKept oneKept seen spot kind begin letters figures value plated driven rows periods leastPeriod text read) H → va_D A (wd_X8_reads Γ q0 q1 q2 d0 d1 d2 d3 d4 d5 d6 d7 d8 d9 d10 d11 d12 length undoMany zeroKept oneKept seen spot kind begin letters figures value plated driven rows periods leastPeriod text read) → va_S A s.heap H locs → lv_has ls 2 [(0, .ref q0), (1, .int x1)] → vm_it (f_X8_reads_33s length text) n (spot, kind, begin, letters, figures, value, plated, driven, rows, read, x1) = some ex33 → W p l e ({ frames := 6, cells := 0, slots := 0, locals := 131 } : Room) s m ([.ref q0] : List Value).toArray below meth c H locs 0 0 QQ (F0 m 33 ls []) := by
      clear hP hD hS hl hf h1
      intro n
      induction n with
      | zero => intro spot kind begin letters figures value plated driven rows read x1 H locs ls hP hD hS hl hf; exact (vm_it_0 hf).elim
      | succ n ih =>
        intro spot kind begin letters figures value plated driven rows read x1 H locs ls hP hD hS hl hf
        have hf : f_X8_reads_33b length text spot kind begin letters figures value plated driven rows read x1 (vm_it (f_X8_reads_33s length text) n) = some ex33 := hf
        unfold f_X8_reads_33b at hf
        refine lv_aload_n hx hb dX8_reads_33 rfl (lv_at hl 0 rfl) ?_
        refine va_get (D := Γ.1) (ci := 8) (v := .int kind) (C := RX8) (T := TX8) (N := 31) hx hb hts hi8 hown hK hP 0 rfl rfl 13 (by decide) (hts (.fieldLink RX8 89 "SandPlatesModel" "kind" "I") (List.mem_of_getElem? (i := 6) rfl)) (fun _ h9 => h9) rfl dX8_reads_34 ?_
        refine lv_if_eq (tgt := 72) hx hb dX8_reads_37 (by decide) (fun hc_1 => ?_) (fun hc_1 => ?_)
        · have hf := vm_pos hc_1 hf
          have hX := hX33
          rw [← Option.some.inj hf] at hX
          exact K_72 spot kind begin letters figures value plated driven rows read x1 hP hD hS (lv_sub hl [1] rfl) hX
        · have hf := vm_neg hc_1 hf
          refine lv_aload_n hx hb dX8_reads_40 rfl (lv_at hl 0 rfl) ?_
          obtain ⟨r_2, spot_3, kind_4, begin_5, letters_6, figures_7, value_8, plated_9, driven_10, rows_11, read_12, hq_13, hf⟩ := ob11_some hf
          refine vm_cVi (isC := [0, 1, 2]) (wc := (wd_X8_item Γ q0 q1 q2 d0 d1 d2 d3 d4 d5 d6 d7 d8 d9 d10 d11 d12 length undoMany zeroKept oneKept seen spot kind begin letters figures value plated driven rows periods leastPeriod text read)) (w1 := (wd_X8_item Γ q0 q1 q2 d0 d1 d2 d3 d4 d5 d6 d7 d8 d9 d10 d11 d12 length undoMany zeroKept oneKept seen spot_3 kind_4 begin_5 letters_6 figures_7 value_8 plated_9 driven_10 rows_11 periods leastPeriod text read_12)) (As := []) (rest := []) ⟨hx, hb, hml, hown, hts⟩ hE hP hD hS hA rfl rfl rfl (c_X8_item l Γ _ q0 q1 q2 d0 d1 d2 d3 d4 d5 d6 d7 d8 d9 d10 d11 d12 length undoMany zeroKept oneKept seen spot kind begin letters figures value plated driven rows periods leastPeriod text read r_2 spot_3 kind_4 begin_5 letters_6 figures_7 value_8 plated_9 driven_10 rows_11 read_12 hq_13) (cwV 0 hts gX8_reads_X8_item rfl rfl rfl (by decide +kernel) ⟨Nat.le_of_ble_eq_true rfl, Nat.le_of_ble_eq_true rfl⟩) (va_recv (ci := 8) (q0 := 0) hK hP rfl rfl) rfl hl.1 rfl (Nat.le_of_ble_eq_true rfl) dX8_reads_41 ⟨Nat.zero_le _, Nat.zero_le _⟩ (fun H locs hP hD hS => ?_)
          have hP : va_P Γ.1 vwCl (wd_X8_reads Γ q0 q1 q2 d0 d1 d2 d3 d4 d5 d6 d7 d8 d9 d10 d11 d12 length undoMany zeroKept oneKept seen spot_3 kind_4 begin_5 letters_6 figures_7 value_8 plated_9 driven_10 rows_11 periods leastPeriod text read_12) H := hP
          have hD : va_D A (wd_X8_reads Γ q0 q1 q2 d0 d1 d2 d3 d4 d5 d6 d7 d8 d9 d10 d11 d12 length undoMany zeroKept oneKept seen spot_3 kind_4 begin_5 letters_6 figures_7 value_8 plated_9 driven_10 rows_11 periods leastPeriod text read_12) := hD
          refine lv_if_eq (tgt := 54) hx hb dX8_reads_44 (by decide) (fun hc_14 => ?_) (fun hc_14 => ?_)
          · have hf := vm_pos hc_14 hf
            have hX := hX33
            rw [← Option.some.inj hf] at hX
            exact K_54 spot_3 kind_4 begin_5 letters_6 figures_7 value_8 plated_9 driven_10 rows_11 read_12 hP hD hS (lv_sub hl [0] rfl) hX
          · have hf := vm_neg hc_14 hf
            refine lv_aload_n hx hb dX8_reads_47 rfl (lv_at hl 0 rfl) ?_
            obtain ⟨r_15, spot_16, kind_17, begin_18, letters_19, figures_20, value_21, hq_22, hf⟩ := ob7_some hf
            refine vm_cVi (isC := [0, 1]) (wc := (wd_X8_stops Γ q0 q1 d0 q2 d1 d2 d3 d4 d5 d6 d7 d8 d9 d10 d11 d12 length undoMany zeroKept oneKept seen spot_3 kind_4 begin_5 letters_6 figures_7 value_8 plated_9 driven_10 rows_11 periods leastPeriod text)) (w1 := (wd_X8_stops Γ q0 q1 d0 q2 d1 d2 d3 d4 d5 d6 d7 d8 d9 d10 d11 d12 length undoMany zeroKept oneKept seen spot_16 kind_17 begin_18 letters_19 figures_20 value_21 plated_9 driven_10 rows_11 periods leastPeriod text)) (As := []) (rest := []) ⟨hx, hb, hml, hown, hts⟩ hE hP hD hS hA rfl rfl rfl (c_X8_stops l Γ _ q0 q1 d0 q2 d1 d2 d3 d4 d5 d6 d7 d8 d9 d10 d11 d12 length undoMany zeroKept oneKept seen spot_3 kind_4 begin_5 letters_6 figures_7 value_8 plated_9 driven_10 rows_11 periods leastPeriod text r_15 spot_16 kind_17 begin_18 letters_19 figures_20 value_21 hq_22) (cwV 0 hts gX8_reads_X8_stops rfl rfl rfl (by decide +kernel) ⟨Nat.le_of_ble_eq_true rfl, Nat.le_of_ble_eq_true rfl⟩) (va_recv (ci := 8) (q0 := 0) hK hP rfl rfl) rfl hl.1 rfl (Nat.le_of_ble_eq_true rfl) dX8_reads_48 ⟨Nat.zero_le _, Nat.zero_le _⟩ (fun H locs hP hD hS => ?_)
            have hP : va_P Γ.1 vwCl (wd_X8_reads Γ q0 q1 q2 d0 d1 d2 d3 d4 d5 d6 d7 d8 d9 d10 d11 d12 length undoMany zeroKept oneKept seen spot_16 kind_17 begin_18 letters_19 figures_20 value_21 plated_9 driven_10 rows_11 periods leastPeriod text read_12) H := hP
            have hD : va_D A (wd_X8_reads Γ q0 q1 q2 d0 d1 d2 d3 d4 d5 d6 d7 d8 d9 d10 d11 d12 length undoMany zeroKept oneKept seen spot_16 kind_17 begin_18 letters_19 figures_20 value_21 plated_9 driven_10 rows_11 periods leastPeriod text read_12) := hD
            refine lv_if_ne (tgt := 62) hx hb dX8_reads_51 (by decide) (fun hc_23 => ?_) (fun hc_23 => ?_)
            · have hf := vm_neg hc_23 hf
              refine lv_iinc (v := (x1 + 1)) (lv' := [(1, .int (x1 + 1)), (0, .ref q0)]) hx hb dX8_reads_62 hl (k := 1) rfl rfl (by decide) rfl (fun ls hl => ?_)
              refine lv_aload_n hx hb dX8_reads_65 rfl (lv_at hl 1 rfl) ?_
              obtain ⟨spot_24, kind_25, begin_26, letters_27, figures_28, value_29, hq_30, hf⟩ := ob6_some hf
              refine vm_cVv (isC := [0, 1]) (wc := (wd_X8_takes Γ q0 q1 d0 q2 d1 d2 d3 d4 d5 d6 d7 d8 d9 d10 d11 d12 length undoMany zeroKept oneKept seen spot_16 kind_17 begin_18 letters_19 figures_20 value_21 plated_9 driven_10 rows_11 periods leastPeriod text)) (w1 := (wd_X8_takes Γ q0 q1 d0 q2 d1 d2 d3 d4 d5 d6 d7 d8 d9 d10 d11 d12 length undoMany zeroKept oneKept seen spot_24 kind_25 begin_26 letters_27 figures_28 value_29 plated_9 driven_10 rows_11 periods leastPeriod text)) (As := []) (rest := []) ⟨hx, hb, hml, hown, hts⟩ hE hP hD hS hA rfl rfl rfl (c_X8_takes l Γ _ q0 q1 d0 q2 d1 d2 d3 d4 d5 d6 d7 d8 d9 d10 d11 d12 length undoMany zeroKept oneKept seen spot_16 kind_17 begin_18 letters_19 figures_20 value_21 plated_9 driven_10 rows_11 periods leastPeriod text spot_24 kind_25 begin_26 letters_27 figures_28 value_29 hq_30) (cwV 0 hts gX8_reads_X8_takes rfl rfl rfl (by decide +kernel) ⟨Nat.le_of_ble_eq_true rfl, Nat.le_of_ble_eq_true rfl⟩) (va_recv (ci := 8) (q0 := 0) hK hP rfl rfl) rfl hl.1 rfl (Nat.le_of_ble_eq_true rfl) dX8_reads_66 ⟨Nat.zero_le _, Nat.zero_le _⟩ (fun H locs hP hD hS => ?_)
              have hP : va_P Γ.1 vwCl (wd_X8_reads Γ q0 q1 q2 d0 d1 d2 d3 d4 d5 d6 d7 d8 d9 d10 d11 d12 length undoMany zeroKept oneKept seen spot_24 kind_25 begin_26 letters_27 figures_28 value_29 plated_9 driven_10 rows_11 periods leastPeriod text read_12) H := hP
              have hD : va_D A (wd_X8_reads Γ q0 q1 q2 d0 d1 d2 d3 d4 d5 d6 d7 d8 d9 d10 d11 d12 length undoMany zeroKept oneKept seen spot_24 kind_25 begin_26 letters_27 figures_28 value_29 plated_9 driven_10 rows_11 periods leastPeriod text read_12) := hD
              refine lv_goto (tgt := 33) hx hb dX8_reads_69 (by decide) ?_
              exact ih spot_24 kind_25 begin_26 letters_27 figures_28 value_29 plated_9 driven_10 rows_11 read_12 (x1 + 1) hP hD hS (lv_sub hl [1, 0] rfl) hf
            · have hf := vm_pos hc_23 hf
              have hX := hX33
              rw [← Option.some.inj hf] at hX
              exact K_54 spot_16 kind_17 begin_18 letters_19 figures_20 value_21 plated_9 driven_10 rows_11 read_12 hP hD hS (lv_sub hl [0] rfl) hX
    exact LP FU spot kind begin letters figures value plated driven rows read x1 hP hD hS hl h1
  unfold f_X8_reads at hf
  refine lv_aload_n hx hb dX8_reads_0 rfl (lv_at hl 0 rfl) ?_
  refine va_get (D := Γ.1) (ci := 8) (v := .ref q2) (C := RX8) (T := TX8) (N := 31) hx hb hts hi8 hown hK hP 0 rfl rfl 3 (by decide) (hts (.fieldLink RX8 16 "SandPlatesModel" "read" "[I") (List.mem_of_getElem? (i := 1) rfl)) (fun _ h9 => h9) rfl dX8_reads_1 ?_
  obtain ⟨read_31, hq_32, hf⟩ := ob1_some hf
  refine vm_cSv (isC := [2]) (wc := (wd_X8_plain Γ q2 read)) (w1 := (wd_X8_plain Γ q2 read_31)) (As := [.ref q2]) (rest := []) ⟨hx, hb, hml, hown, hts⟩ hE hP hD hS hA rfl rfl rfl (c_X8_plain l Γ _ q2 read read_31 hq_32) (va_cwS 1 hts gX8_reads_X8_plain rfl rfl rfl (by decide +kernel) ⟨Nat.le_of_ble_eq_true rfl, Nat.le_of_ble_eq_true rfl⟩) rfl hl.1 rfl (Nat.le_of_ble_eq_true rfl) dX8_reads_4 ⟨Nat.zero_le _, Nat.zero_le _⟩ (fun H locs hP hD hS => ?_)
  have hP : va_P Γ.1 vwCl (wd_X8_reads Γ q0 q1 q2 d0 d1 d2 d3 d4 d5 d6 d7 d8 d9 d10 d11 d12 length undoMany zeroKept oneKept seen spot kind begin letters figures value plated driven rows periods leastPeriod text read_31) H := hP
  have hD : va_D A (wd_X8_reads Γ q0 q1 q2 d0 d1 d2 d3 d4 d5 d6 d7 d8 d9 d10 d11 d12 length undoMany zeroKept oneKept seen spot kind begin letters figures value plated driven rows periods leastPeriod text read_31) := hD
  refine lv_aload_n hx hb dX8_reads_7 rfl (lv_at hl 0 rfl) ?_
  refine lv_iconst (v := 0) hx hb dX8_reads_8 (by decide) ?_
  refine va_put (D := Γ.1) (ci := 8) (v := .int 0) (ty := .boolean) (C := RX8) (T := TX8) (N := 31) hx hb hts hi8 tyX8 tyX8_ok nmX8 hown hK hP hD hS 0 rfl rfl 18 (by decide) (hts (.fieldLink RX8 116 "SandPlatesModel" "plated" "Z") (List.mem_of_getElem? (i := 2) rfl)) (fun _ h9 => h9) rfl (by decide +kernel) rfl rfl (Nat.le_of_ble_eq_true rfl) dX8_reads_9 (fun H locs hP hD hS => ?_)
  have hP : va_P Γ.1 vwCl (wd_X8_reads Γ q0 q1 q2 d0 d1 d2 d3 d4 d5 d6 d7 d8 d9 d10 d11 d12 length undoMany zeroKept oneKept seen spot kind begin letters figures value 0 driven rows periods leastPeriod text read_31) H := hP
  have hD : va_D A (wd_X8_reads Γ q0 q1 q2 d0 d1 d2 d3 d4 d5 d6 d7 d8 d9 d10 d11 d12 length undoMany zeroKept oneKept seen spot kind begin letters figures value 0 driven rows periods leastPeriod text read_31) := hD
  refine lv_aload_n hx hb dX8_reads_12 rfl (lv_at hl 0 rfl) ?_
  refine lv_iconst (v := 0) hx hb dX8_reads_13 (by decide) ?_
  refine va_put (D := Γ.1) (ci := 8) (v := .int 0) (ty := .boolean) (C := RX8) (T := TX8) (N := 31) hx hb hts hi8 tyX8 tyX8_ok nmX8 hown hK hP hD hS 0 rfl rfl 19 (by decide) (hts (.fieldLink RX8 104 "SandPlatesModel" "driven" "Z") (List.mem_of_getElem? (i := 3) rfl)) (fun _ h9 => h9) rfl (by decide +kernel) rfl rfl (Nat.le_of_ble_eq_true rfl) dX8_reads_14 (fun H locs hP hD hS => ?_)
  have hP : va_P Γ.1 vwCl (wd_X8_reads Γ q0 q1 q2 d0 d1 d2 d3 d4 d5 d6 d7 d8 d9 d10 d11 d12 length undoMany zeroKept oneKept seen spot kind begin letters figures value 0 0 rows periods leastPeriod text read_31) H := hP
  have hD : va_D A (wd_X8_reads Γ q0 q1 q2 d0 d1 d2 d3 d4 d5 d6 d7 d8 d9 d10 d11 d12 length undoMany zeroKept oneKept seen spot kind begin letters figures value 0 0 rows periods leastPeriod text read_31) := hD
  refine lv_aload_n hx hb dX8_reads_17 rfl (lv_at hl 0 rfl) ?_
  refine lv_iconst (v := 0) hx hb dX8_reads_18 (by decide) ?_
  refine va_put (D := Γ.1) (ci := 8) (v := .int 0) (ty := .int) (C := RX8) (T := TX8) (N := 31) hx hb hts hi8 tyX8 tyX8_ok nmX8 hown hK hP hD hS 0 rfl rfl 20 (by decide) (hts (.fieldLink RX8 101 "SandPlatesModel" "rows" "I") (List.mem_of_getElem? (i := 4) rfl)) (fun _ h9 => h9) rfl (by decide +kernel) rfl rfl (Nat.le_of_ble_eq_true rfl) dX8_reads_19 (fun H locs hP hD hS => ?_)
  have hP : va_P Γ.1 vwCl (wd_X8_reads Γ q0 q1 q2 d0 d1 d2 d3 d4 d5 d6 d7 d8 d9 d10 d11 d12 length undoMany zeroKept oneKept seen spot kind begin letters figures value 0 0 0 periods leastPeriod text read_31) H := hP
  have hD : va_D A (wd_X8_reads Γ q0 q1 q2 d0 d1 d2 d3 d4 d5 d6 d7 d8 d9 d10 d11 d12 length undoMany zeroKept oneKept seen spot kind begin letters figures value 0 0 0 periods leastPeriod text read_31) := hD
  refine lv_aload_n hx hb dX8_reads_22 rfl (lv_at hl 0 rfl) ?_
  refine lv_iconst (v := 0) hx hb dX8_reads_23 (by decide) ?_
  refine va_put (D := Γ.1) (ci := 8) (v := .int 0) (ty := .int) (C := RX8) (T := TX8) (N := 31) hx hb hts hi8 tyX8 tyX8_ok nmX8 hown hK hP hD hS 0 rfl rfl 12 (by decide) (hts (.fieldLink RX8 69 "SandPlatesModel" "spot" "I") (List.mem_of_getElem? (i := 5) rfl)) (fun _ h9 => h9) rfl (by decide +kernel) rfl rfl (Nat.le_of_ble_eq_true rfl) dX8_reads_24 (fun H locs hP hD hS => ?_)
  have hP : va_P Γ.1 vwCl (wd_X8_reads Γ q0 q1 q2 d0 d1 d2 d3 d4 d5 d6 d7 d8 d9 d10 d11 d12 length undoMany zeroKept oneKept seen 0 kind begin letters figures value 0 0 0 periods leastPeriod text read_31) H := hP
  have hD : va_D A (wd_X8_reads Γ q0 q1 q2 d0 d1 d2 d3 d4 d5 d6 d7 d8 d9 d10 d11 d12 length undoMany zeroKept oneKept seen 0 kind begin letters figures value 0 0 0 periods leastPeriod text read_31) := hD
  refine lv_iconst (v := 0) hx hb dX8_reads_27 (by decide) ?_
  refine lv_istore_n (lv' := [(1, .int 0), (0, .ref q0)]) hx hb dX8_reads_28 rfl hl (by decide) rfl (fun ls hl => ?_)
  refine lv_aload_n hx hb dX8_reads_29 rfl (lv_at hl 1 rfl) ?_
  obtain ⟨spot_33, kind_34, begin_35, letters_36, figures_37, value_38, hq_39, hf⟩ := ob6_some hf
  refine vm_cVv (isC := [0, 1]) (wc := (wd_X8_takes Γ q0 q1 d0 q2 d1 d2 d3 d4 d5 d6 d7 d8 d9 d10 d11 d12 length undoMany zeroKept oneKept seen 0 kind begin letters figures value 0 0 0 periods leastPeriod text)) (w1 := (wd_X8_takes Γ q0 q1 d0 q2 d1 d2 d3 d4 d5 d6 d7 d8 d9 d10 d11 d12 length undoMany zeroKept oneKept seen spot_33 kind_34 begin_35 letters_36 figures_37 value_38 0 0 0 periods leastPeriod text)) (As := []) (rest := []) ⟨hx, hb, hml, hown, hts⟩ hE hP hD hS hA rfl rfl rfl (c_X8_takes l Γ _ q0 q1 d0 q2 d1 d2 d3 d4 d5 d6 d7 d8 d9 d10 d11 d12 length undoMany zeroKept oneKept seen 0 kind begin letters figures value 0 0 0 periods leastPeriod text spot_33 kind_34 begin_35 letters_36 figures_37 value_38 hq_39) (cwV 0 hts gX8_reads_X8_takes rfl rfl rfl (by decide +kernel) ⟨Nat.le_of_ble_eq_true rfl, Nat.le_of_ble_eq_true rfl⟩) (va_recv (ci := 8) (q0 := 0) hK hP rfl rfl) rfl hl.1 rfl (Nat.le_of_ble_eq_true rfl) dX8_reads_30 ⟨Nat.zero_le _, Nat.zero_le _⟩ (fun H locs hP hD hS => ?_)
  have hP : va_P Γ.1 vwCl (wd_X8_reads Γ q0 q1 q2 d0 d1 d2 d3 d4 d5 d6 d7 d8 d9 d10 d11 d12 length undoMany zeroKept oneKept seen spot_33 kind_34 begin_35 letters_36 figures_37 value_38 0 0 0 periods leastPeriod text read_31) H := hP
  have hD : va_D A (wd_X8_reads Γ q0 q1 q2 d0 d1 d2 d3 d4 d5 d6 d7 d8 d9 d10 d11 d12 length undoMany zeroKept oneKept seen spot_33 kind_34 begin_35 letters_36 figures_37 value_38 0 0 0 periods leastPeriod text read_31) := hD
  exact K_33 spot_33 kind_34 begin_35 letters_36 figures_37 value_38 0 0 0 read_31 0 hP hD hS (lv_sub hl [1, 0] rfl) hf
def wd_X8_note (Γ : GE) (q0 q1 q2 d0 d1 d2 d3 d4 d5 d6 d7 d8 d9 d10 d11 d12 : Nat) (length : Int32) (undoMany : Int32) (zeroKept : Int32) (oneKept : Int32) (seen : Int32) (spot : Int32) (kind : Int32) (begin : Int32) (letters : Int64) (figures : Int32) (value : Int32) (plated : Int32) (driven : Int32) (rows : Int32) (periods : Int32) (leastPeriod : Int32) (sv : Nat → Int32) (before : Nat → Int32) : va_W := [(q0, .inr (8, [.int length, .ref d0, .ref q1, .ref d1, .ref q2, .int undoMany, .ref d2, .int zeroKept, .int oneKept, .ref d3, .ref d4, .int seen, .int spot, .int kind, .int begin, .long letters, .int figures, .int value, .int plated, .int driven, .int rows, .ref d5, .ref d6, .ref d7, .ref d8, .ref d9, .ref d10, .ref d11, .ref d12, .int periods, .int leastPeriod])), (q1, .inl (Γ.2.1 0, 81, .inl sv)), (q2, .inl (Γ.2.1 0, 486, .inl before))]
def f_X8_note_83 (undoMany : Int32) (before : Nat → Int32) : Option (Int32 × (Nat → Int32)) := some ((undoMany + 1), before)
def f_X8_note_51b (undoMany : Int32) (sv : Nat → Int32) (before : Nat → Int32) (x1 : Int32) (k : (((Nat → Int32) × Int32) → Option (Nat → Int32))) : Option (Nat → Int32) := if 81 ≤ x1 then (some before) else (if inb x1 81 = true then if inb ((81 * undoMany) + x1) 486 = true then k ((upd before (((81 * undoMany) + x1).toNatClampNeg) (sv (x1.toNatClampNeg))), (x1 + 1)) else none else none)
def f_X8_note_51s (undoMany : Int32) (sv : Nat → Int32) : ((Nat → Int32) × Int32) → (((Nat → Int32) × Int32) → Option (Nat → Int32)) → Option (Nat → Int32) := fun t k => f_X8_note_51b undoMany sv t.1 t.2 k
def f_X8_note_51 (undoMany : Int32) (sv : Nat → Int32) (before : Nat → Int32) (x1 : Int32) : Option (Int32 × (Nat → Int32)) := obx (vm_it (f_X8_note_51s undoMany sv) FU (before, x1)) (fun before => f_X8_note_83 undoMany before)
def f_X8_note_49 (undoMany : Int32) (sv : Nat → Int32) (before : Nat → Int32) : Option (Int32 × (Nat → Int32)) := f_X8_note_51 undoMany sv before 0
def f_X8_note_39 (undoMany : Int32) (sv : Nat → Int32) (before : Nat → Int32) : Option (Int32 × (Nat → Int32)) := f_X8_note_49 (undoMany - 1) sv before
def f_X8_note_11b (undoMany : Int32) (sv : Nat → Int32) (before : Nat → Int32) (x1 : Int32) (k : (((Nat → Int32) × Int32) → Option (Nat → Int32))) : Option (Nat → Int32) := if 405 ≤ x1 then (some before) else (if inb (81 + x1) 486 = true then if inb x1 486 = true then k ((upd before (x1.toNatClampNeg) (before ((81 + x1).toNatClampNeg))), (x1 + 1)) else none else none)
def f_X8_note_11s (undoMany : Int32) (sv : Nat → Int32) : ((Nat → Int32) × Int32) → (((Nat → Int32) × Int32) → Option (Nat → Int32)) → Option (Nat → Int32) := fun t k => f_X8_note_11b undoMany sv t.1 t.2 k
def f_X8_note_11 (undoMany : Int32) (sv : Nat → Int32) (before : Nat → Int32) (x1 : Int32) : Option (Int32 × (Nat → Int32)) := obx (vm_it (f_X8_note_11s undoMany sv) FU (before, x1)) (fun before => f_X8_note_39 undoMany sv before)
def f_X8_note (undoMany : Int32) (sv : Nat → Int32) (before : Nat → Int32) : Option (Int32 × (Nat → Int32)) := if undoMany = 6 then (f_X8_note_11 undoMany sv before 0) else (f_X8_note_49 undoMany sv before)
set_option maxHeartbeats 4000000 in
set_option maxRecDepth 100000 in
theorem c_X8_note (l : Launch) (Γ : GE) (sz : Nat) (q0 q1 q2 d0 d1 d2 d3 d4 d5 d6 d7 d8 d9 d10 d11 d12 : Nat) (length : Int32) (undoMany : Int32) (zeroKept : Int32) (oneKept : Int32) (seen : Int32) (spot : Int32) (kind : Int32) (begin : Int32) (letters : Int64) (figures : Int32) (value : Int32) (plated : Int32) (driven : Int32) (rows : Int32) (periods : Int32) (leastPeriod : Int32) (sv : Nat → Int32) (before : Nat → Int32) (o_undoMany : Int32) (o_before : Nat → Int32) (hf : f_X8_note undoMany sv before = some (o_undoMany, o_before)) : MetV l yX8_note wsX8_note ({ frames := 0, cells := 0, slots := 0, locals := 0 } : Room) Γ [.ref q0] (wd_X8_note Γ q0 q1 q2 d0 d1 d2 d3 d4 d5 d6 d7 d8 d9 d10 d11 d12 length undoMany zeroKept oneKept seen spot kind begin letters figures value plated driven rows periods leastPeriod sv before) (wd_X8_note Γ q0 q1 q2 d0 d1 d2 d3 d4 d5 d6 d7 d8 d9 d10 d11 d12 length o_undoMany zeroKept oneKept seen spot kind begin letters figures value plated driven rows periods leastPeriod sv o_before) sz := by
  refine Met.ofW (cc := cX8_note) (maxL := 2) (ret := none) (by decide) rfl ?_
  intro p e s m args below meth c s₁ B hml hv
  obtain ⟨rfl, hsz, hE, hP, hD⟩ := hv
  have hx := B.exec
  have hb := B.bytes
  have hr := B.returns
  have hts := atoms_spec (ws := wsX8_note) B.pre
  have hown : s.vm.findClass RX8 = some m.cls := findClass_of_methodNamed B.named
  have hlocks := B.notSynchronized
  subst hsz
  generalize hAe : va_A (wd_X8_note Γ q0 q1 q2 d0 d1 d2 d3 d4 d5 d6 d7 d8 d9 d10 d11 d12 length undoMany zeroKept oneKept seen spot kind begin letters figures value plated driven rows periods leastPeriod sv before) s.heap.size = A at hE hD ⊢
  have hA : ∀ q : Nat, s.heap.size ≤ q → A q := fun q h => by rw [← hAe]; exact Or.inr h
  clear hAe
  have hS : va_S A s.heap s.heap [] := va_S.rf
  have hK := hE.1
  have hl := lv_entry ([.ref q0]) (n := 2) (Nat.le_of_ble_eq_true rfl)
  rw [lg_entry_eq]
  generalize (lg_sl ([.ref q0]) ++ List.replicate (2 - (lg_sl ([.ref q0])).length) Slot.unset).toArray = ls at hl ⊢
  have hl : lv_has ls 2 [(0, .ref q0)] := hl
  have hi8 : ∀ w ∈ u_ws RX8 TX8 31, w ∈ wsX8_note := fun w h => (List.mem_cons_of_mem _ (List.mem_append_right _ h))
  obtain ⟨out, hout⟩ : ∃ o, o = (o_undoMany, o_before) := ⟨_, rfl⟩
  rw [← hout] at hf
  obtain ⟨QQ, hQQ⟩ : ∃ Q, Q = MQ below (va_Qv (fun _ : Unit => True) (CQ Γ (wd_X8_note Γ q0 q1 q2 d0 d1 d2 d3 d4 d5 d6 d7 d8 d9 d10 d11 d12 length o_undoMany zeroKept oneKept seen spot kind begin letters figures value plated driven rows periods leastPeriod sv o_before) A) A) (([.ref q0] : List Value).toArray) s 0 0 A := ⟨_, rfl⟩
  show W p l e ({ frames := 0, cells := 0, slots := 0, locals := 0 } : Room) s m (([.ref q0] : List Value).toArray) below meth c s.heap [] 0 0 (MQ below _ (([.ref q0] : List Value).toArray) s 0 0 A) (F0 m 0 ls [])
  rw [← hQQ]
  have K_83 : ∀ (undoMany : Int32) (before : Nat → Int32) {H : Heap} {locs : List Loc} {ls : Array Slot}, va_P Γ.1 vwCl (wd_X8_note Γ q0 q1 q2 d0 d1 d2 d3 d4 d5 d6 d7 d8 d9 d10 d11 d12 length undoMany zeroKept oneKept seen spot kind begin letters figures value plated driven rows periods leastPeriod sv before) H → va_D A (wd_X8_note Γ q0 q1 q2 d0 d1 d2 d3 d4 d5 d6 d7 d8 d9 d10 d11 d12 length undoMany zeroKept oneKept seen spot kind begin letters figures value plated driven rows periods leastPeriod sv before) → va_S A s.heap H locs → lv_has ls 2 [(0, .ref q0)] → f_X8_note_83 undoMany before = some out → W p l e ({ frames := 0, cells := 0, slots := 0, locals := 0 } : Room) s m ([.ref q0] : List Value).toArray below meth c H locs 0 0 QQ (F0 m 83 ls []) := by
    intro undoMany before H locs ls hP hD hS hl hf
    unfold f_X8_note_83 at hf
    refine lv_aload_n hx hb dX8_note_83 rfl (lv_at hl 0 rfl) ?_
    refine lv_dup hx hb dX8_note_84 rfl ?_
    refine va_get (D := Γ.1) (ci := 8) (v := .int undoMany) (C := RX8) (T := TX8) (N := 31) hx hb hts hi8 hown hK hP 0 rfl rfl 5 (by decide) (hts (.fieldLink RX8 165 "SandPlatesModel" "undoMany" "I") (List.mem_of_getElem? (i := 1) rfl)) (fun _ h9 => h9) rfl dX8_note_85 ?_
    refine lv_iconst (v := 1) hx hb dX8_note_88 (by decide) ?_
    refine lv_iadd hx hb dX8_note_89 ?_
    refine va_put (D := Γ.1) (ci := 8) (v := .int (undoMany + 1)) (ty := .int) (C := RX8) (T := TX8) (N := 31) hx hb hts hi8 tyX8 tyX8_ok nmX8 hown hK hP hD hS 0 rfl rfl 5 (by decide) (hts (.fieldLink RX8 165 "SandPlatesModel" "undoMany" "I") (List.mem_of_getElem? (i := 1) rfl)) (fun _ h9 => h9) rfl (by decide +kernel) rfl rfl (Nat.le_of_ble_eq_true rfl) dX8_note_90 (fun H locs hP hD hS => ?_)
    have hP : va_P Γ.1 vwCl (wd_X8_note Γ q0 q1 q2 d0 d1 d2 d3 d4 d5 d6 d7 d8 d9 d10 d11 d12 length (undoMany + 1) zeroKept oneKept seen spot kind begin letters figures value plated driven rows periods leastPeriod sv before) H := hP
    have hD : va_D A (wd_X8_note Γ q0 q1 q2 d0 d1 d2 d3 d4 d5 d6 d7 d8 d9 d10 d11 d12 length (undoMany + 1) zeroKept oneKept seen spot kind begin letters figures value plated driven rows periods leastPeriod sv before) := hD
    subst hout; obtain ⟨rfl, rfl⟩ := rt2 hf
    subst hQQ
    exact W.vret hx hb hr (fun t ht hW => ⟨⟨(), rfl, trivial, by rw [ht]; exact hP, hD⟩, hS.F ht⟩) hS.2.2 dX8_note_93
  have K_51 : ∀ (undoMany : Int32) (before : Nat → Int32) (x1 : Int32) {H : Heap} {locs : List Loc} {ls : Array Slot}, va_P Γ.1 vwCl (wd_X8_note Γ q0 q1 q2 d0 d1 d2 d3 d4 d5 d6 d7 d8 d9 d10 d11 d12 length undoMany zeroKept oneKept seen spot kind begin letters figures value plated driven rows periods leastPeriod sv before) H → va_D A (wd_X8_note Γ q0 q1 q2 d0 d1 d2 d3 d4 d5 d6 d7 d8 d9 d10 d11 d12 length undoMany zeroKept oneKept seen spot kind begin letters figures value plated driven rows periods leastPeriod sv before) → va_S A s.heap H locs → lv_has ls 2 [(0, .ref q0), (1, .int x1)] → f_X8_note_51 undoMany sv before x1 = some out → W p l e ({ frames := 0, cells := 0, slots := 0, locals := 0 } : Room) s m ([.ref q0] : List Value).toArray below meth c H locs 0 0 QQ (F0 m 51 ls []) := by
    intro undoMany before x1 H locs ls hP hD hS hl hf
    unfold f_X8_note_51 at hf
    obtain ⟨ex51, h1, hX51⟩ := obx_some hf
    have LP : ∀ (n : Nat) (before : Nat → Int32) (x1 : Int32)  {H : Heap} {locs : List Loc} {ls : Array Slot}, va_P Γ.1 vwCl (wd_X8_note Γ q0 q1 q2 d0 d1 d2 d3 d4 d5 d6 d7 d8 d9 d10 d11 d12 length undoMany zeroKept oneKept seen spot kind begin letters figures value plated driven rows periods leastPeriod sv before) H → va_D A (wd_X8_note Γ q0 q1 q2 d0 d1 d2 d3 d4 d5 d6 d7 d8 d9 d10 d11 d12 length undoMany zeroKept oneKept seen spot kind begin letters figures value plated driven rows periods leastPeriod sv before) → va_S A s.heap H locs → lv_has ls 2 [(0, .ref q0), (1, .int x1)] → vm_it (f_X8_note_51s undoMany sv) n (before, x1) = some ex51 → W p l e ({ frames := 0, cells := 0, slots := 0, locals := 0 } : Room) s m ([.ref q0] : List Value).toArray below meth c H locs 0 0 QQ (F0 m 51 ls []) := by
      clear hP hD hS hl hf h1
      intro n
      induction n with
      | zero => intro before x1 H locs ls hP hD hS hl hf; exact (vm_it_0 hf).elim
      | succ n ih =>
        intro before x1 H locs ls hP hD hS hl hf
        have hf : f_X8_note_51b undoMany sv before x1 (vm_it (f_X8_note_51s undoMany sv) n) = some ex51 := hf
        unfold f_X8_note_51b at hf
        refine lv_iload_n hx hb dX8_note_51 rfl (lv_at hl 1 rfl) ?_
        refine lv_bipush (v := 81) hx hb dX8_note_52 (by decide) ?_
        refine lv_icmp_ge (tgt := 83) hx hb dX8_note_54 (by decide) (fun hc_1 => ?_) (fun hc_1 => ?_)
        · have hf := vm_pos hc_1 hf
          have hX := hX51
          rw [← Option.some.inj hf] at hX
          exact K_83 undoMany before hP hD hS (lv_sub hl [0] rfl) hX
        · have hf := vm_neg hc_1 hf
          refine lv_aload_n hx hb dX8_note_57 rfl (lv_at hl 0 rfl) ?_
          refine va_get (D := Γ.1) (ci := 8) (v := .ref q2) (C := RX8) (T := TX8) (N := 31) hx hb hts hi8 hown hK hP 0 rfl rfl 4 (by decide) (hts (.fieldLink RX8 19 "SandPlatesModel" "before" "[I") (List.mem_of_getElem? (i := 2) rfl)) (fun _ h9 => h9) rfl dX8_note_58 ?_
          refine lv_bipush (v := 81) hx hb dX8_note_61 (by decide) ?_
          refine lv_aload_n hx hb dX8_note_63 rfl (lv_at hl 0 rfl) ?_
          refine va_get (D := Γ.1) (ci := 8) (v := .int undoMany) (C := RX8) (T := TX8) (N := 31) hx hb hts hi8 hown hK hP 0 rfl rfl 5 (by decide) (hts (.fieldLink RX8 165 "SandPlatesModel" "undoMany" "I") (List.mem_of_getElem? (i := 1) rfl)) (fun _ h9 => h9) rfl dX8_note_64 ?_
          refine lv_imul hx hb dX8_note_67 ?_
          refine lv_iload_n hx hb dX8_note_68 rfl (lv_at hl 1 rfl) ?_
          refine lv_iadd hx hb dX8_note_69 ?_
          refine lv_aload_n hx hb dX8_note_70 rfl (lv_at hl 0 rfl) ?_
          refine va_get (D := Γ.1) (ci := 8) (v := .ref q1) (C := RX8) (T := TX8) (N := 31) hx hb hts hi8 hown hK hP 0 rfl rfl 2 (by decide) (hts (.fieldLink RX8 13 "SandPlatesModel" "s" "[I") (List.mem_of_getElem? (i := 3) rfl)) (fun _ h9 => h9) rfl dX8_note_71 ?_
          refine lv_iload_n hx hb dX8_note_74 rfl (lv_at hl 1 rfl) ?_
          obtain ⟨hc_2, hf⟩ := vm_ck hf
          refine vm_iald hx hb hK hP 1 0 rfl rfl hc_2 (j := x1.toNatClampNeg) rfl dX8_note_75 ?_
          obtain ⟨hc_3, hf⟩ := vm_ck hf
          refine vm_iast hx hb hK hP hD hS 2 0 rfl rfl hc_3 (j := (((81 * undoMany) + x1).toNatClampNeg)) rfl dX8_note_76 (fun H locs hP hD hS => ?_)
          have hP : va_P Γ.1 vwCl (wd_X8_note Γ q0 q1 q2 d0 d1 d2 d3 d4 d5 d6 d7 d8 d9 d10 d11 d12 length undoMany zeroKept oneKept seen spot kind begin letters figures value plated driven rows periods leastPeriod sv (upd before (((81 * undoMany) + x1).toNatClampNeg) (sv (x1.toNatClampNeg)))) H := hP
          have hD : va_D A (wd_X8_note Γ q0 q1 q2 d0 d1 d2 d3 d4 d5 d6 d7 d8 d9 d10 d11 d12 length undoMany zeroKept oneKept seen spot kind begin letters figures value plated driven rows periods leastPeriod sv (upd before (((81 * undoMany) + x1).toNatClampNeg) (sv (x1.toNatClampNeg)))) := hD
          refine lv_iinc (v := (x1 + 1)) (lv' := [(1, .int (x1 + 1)), (0, .ref q0)]) hx hb dX8_note_77 hl (k := 1) rfl rfl (by decide) rfl (fun ls hl => ?_)
          refine lv_goto (tgt := 51) hx hb dX8_note_80 (by decide) ?_
          exact ih (upd before (((81 * undoMany) + x1).toNatClampNeg) (sv (x1.toNatClampNeg))) (x1 + 1) hP hD hS (lv_sub hl [1, 0] rfl) hf
    exact LP FU before x1 hP hD hS hl h1
  have K_49 : ∀ (undoMany : Int32) (before : Nat → Int32) {H : Heap} {locs : List Loc} {ls : Array Slot}, va_P Γ.1 vwCl (wd_X8_note Γ q0 q1 q2 d0 d1 d2 d3 d4 d5 d6 d7 d8 d9 d10 d11 d12 length undoMany zeroKept oneKept seen spot kind begin letters figures value plated driven rows periods leastPeriod sv before) H → va_D A (wd_X8_note Γ q0 q1 q2 d0 d1 d2 d3 d4 d5 d6 d7 d8 d9 d10 d11 d12 length undoMany zeroKept oneKept seen spot kind begin letters figures value plated driven rows periods leastPeriod sv before) → va_S A s.heap H locs → lv_has ls 2 [(0, .ref q0)] → f_X8_note_49 undoMany sv before = some out → W p l e ({ frames := 0, cells := 0, slots := 0, locals := 0 } : Room) s m ([.ref q0] : List Value).toArray below meth c H locs 0 0 QQ (F0 m 49 ls []) := by
    intro undoMany before H locs ls hP hD hS hl hf
    unfold f_X8_note_49 at hf
    refine lv_iconst (v := 0) hx hb dX8_note_49 (by decide) ?_
    refine lv_istore_n (lv' := [(1, .int 0), (0, .ref q0)]) hx hb dX8_note_50 rfl hl (by decide) rfl (fun ls hl => ?_)
    exact K_51 undoMany before 0 hP hD hS (lv_sub hl [1, 0] rfl) hf
  have K_39 : ∀ (undoMany : Int32) (before : Nat → Int32) {H : Heap} {locs : List Loc} {ls : Array Slot}, va_P Γ.1 vwCl (wd_X8_note Γ q0 q1 q2 d0 d1 d2 d3 d4 d5 d6 d7 d8 d9 d10 d11 d12 length undoMany zeroKept oneKept seen spot kind begin letters figures value plated driven rows periods leastPeriod sv before) H → va_D A (wd_X8_note Γ q0 q1 q2 d0 d1 d2 d3 d4 d5 d6 d7 d8 d9 d10 d11 d12 length undoMany zeroKept oneKept seen spot kind begin letters figures value plated driven rows periods leastPeriod sv before) → va_S A s.heap H locs → lv_has ls 2 [(0, .ref q0)] → f_X8_note_39 undoMany sv before = some out → W p l e ({ frames := 0, cells := 0, slots := 0, locals := 0 } : Room) s m ([.ref q0] : List Value).toArray below meth c H locs 0 0 QQ (F0 m 39 ls []) := by
    intro undoMany before H locs ls hP hD hS hl hf
    unfold f_X8_note_39 at hf
    refine lv_aload_n hx hb dX8_note_39 rfl (lv_at hl 0 rfl) ?_
    refine lv_dup hx hb dX8_note_40 rfl ?_
    refine va_get (D := Γ.1) (ci := 8) (v := .int undoMany) (C := RX8) (T := TX8) (N := 31) hx hb hts hi8 hown hK hP 0 rfl rfl 5 (by decide) (hts (.fieldLink RX8 165 "SandPlatesModel" "undoMany" "I") (List.mem_of_getElem? (i := 1) rfl)) (fun _ h9 => h9) rfl dX8_note_41 ?_
    refine lv_iconst (v := 1) hx hb dX8_note_44 (by decide) ?_
    refine lv_isub hx hb dX8_note_45 ?_
    refine va_put (D := Γ.1) (ci := 8) (v := .int (undoMany - 1)) (ty := .int) (C := RX8) (T := TX8) (N := 31) hx hb hts hi8 tyX8 tyX8_ok nmX8 hown hK hP hD hS 0 rfl rfl 5 (by decide) (hts (.fieldLink RX8 165 "SandPlatesModel" "undoMany" "I") (List.mem_of_getElem? (i := 1) rfl)) (fun _ h9 => h9) rfl (by decide +kernel) rfl rfl (Nat.le_of_ble_eq_true rfl) dX8_note_46 (fun H locs hP hD hS => ?_)
    have hP : va_P Γ.1 vwCl (wd_X8_note Γ q0 q1 q2 d0 d1 d2 d3 d4 d5 d6 d7 d8 d9 d10 d11 d12 length (undoMany - 1) zeroKept oneKept seen spot kind begin letters figures value plated driven rows periods leastPeriod sv before) H := hP
    have hD : va_D A (wd_X8_note Γ q0 q1 q2 d0 d1 d2 d3 d4 d5 d6 d7 d8 d9 d10 d11 d12 length (undoMany - 1) zeroKept oneKept seen spot kind begin letters figures value plated driven rows periods leastPeriod sv before) := hD
    exact K_49 (undoMany - 1) before hP hD hS (lv_sub hl [0] rfl) hf
  have K_11 : ∀ (undoMany : Int32) (before : Nat → Int32) (x1 : Int32) {H : Heap} {locs : List Loc} {ls : Array Slot}, va_P Γ.1 vwCl (wd_X8_note Γ q0 q1 q2 d0 d1 d2 d3 d4 d5 d6 d7 d8 d9 d10 d11 d12 length undoMany zeroKept oneKept seen spot kind begin letters figures value plated driven rows periods leastPeriod sv before) H → va_D A (wd_X8_note Γ q0 q1 q2 d0 d1 d2 d3 d4 d5 d6 d7 d8 d9 d10 d11 d12 length undoMany zeroKept oneKept seen spot kind begin letters figures value plated driven rows periods leastPeriod sv before) → va_S A s.heap H locs → lv_has ls 2 [(0, .ref q0), (1, .int x1)] → f_X8_note_11 undoMany sv before x1 = some out → W p l e ({ frames := 0, cells := 0, slots := 0, locals := 0 } : Room) s m ([.ref q0] : List Value).toArray below meth c H locs 0 0 QQ (F0 m 11 ls []) := by
    intro undoMany before x1 H locs ls hP hD hS hl hf
    unfold f_X8_note_11 at hf
    obtain ⟨ex11, h1, hX11⟩ := obx_some hf
    have LP : ∀ (n : Nat) (before : Nat → Int32) (x1 : Int32)  {H : Heap} {locs : List Loc} {ls : Array Slot}, va_P Γ.1 vwCl (wd_X8_note Γ q0 q1 q2 d0 d1 d2 d3 d4 d5 d6 d7 d8 d9 d10 d11 d12 length undoMany zeroKept oneKept seen spot kind begin letters figures value plated driven rows periods leastPeriod sv before) H → va_D A (wd_X8_note Γ q0 q1 q2 d0 d1 d2 d3 d4 d5 d6 d7 d8 d9 d10 d11 d12 length undoMany zeroKept oneKept seen spot kind begin letters figures value plated driven rows periods leastPeriod sv before) → va_S A s.heap H locs → lv_has ls 2 [(0, .ref q0), (1, .int x1)] → vm_it (f_X8_note_11s undoMany sv) n (before, x1) = some ex11 → W p l e ({ frames := 0, cells := 0, slots := 0, locals := 0 } : Room) s m ([.ref q0] : List Value).toArray below meth c H locs 0 0 QQ (F0 m 11 ls []) := by
      clear hP hD hS hl hf h1
      intro n
      induction n with
      | zero => intro before x1 H locs ls hP hD hS hl hf; exact (vm_it_0 hf).elim
      | succ n ih =>
        intro before x1 H locs ls hP hD hS hl hf
        have hf : f_X8_note_11b undoMany sv before x1 (vm_it (f_X8_note_11s undoMany sv) n) = some ex11 := hf
        unfold f_X8_note_11b at hf
        refine lv_iload_n hx hb dX8_note_11 rfl (lv_at hl 1 rfl) ?_
        refine lv_sipush (v := 405) hx hb dX8_note_12 (by decide) ?_
        refine lv_icmp_ge (tgt := 39) hx hb dX8_note_15 (by decide) (fun hc_4 => ?_) (fun hc_4 => ?_)
        · have hf := vm_pos hc_4 hf
          have hX := hX11
          rw [← Option.some.inj hf] at hX
          exact K_39 undoMany before hP hD hS (lv_sub hl [0] rfl) hX
        · have hf := vm_neg hc_4 hf
          refine lv_aload_n hx hb dX8_note_18 rfl (lv_at hl 0 rfl) ?_
          refine va_get (D := Γ.1) (ci := 8) (v := .ref q2) (C := RX8) (T := TX8) (N := 31) hx hb hts hi8 hown hK hP 0 rfl rfl 4 (by decide) (hts (.fieldLink RX8 19 "SandPlatesModel" "before" "[I") (List.mem_of_getElem? (i := 2) rfl)) (fun _ h9 => h9) rfl dX8_note_19 ?_
          refine lv_iload_n hx hb dX8_note_22 rfl (lv_at hl 1 rfl) ?_
          refine lv_aload_n hx hb dX8_note_23 rfl (lv_at hl 0 rfl) ?_
          refine va_get (D := Γ.1) (ci := 8) (v := .ref q2) (C := RX8) (T := TX8) (N := 31) hx hb hts hi8 hown hK hP 0 rfl rfl 4 (by decide) (hts (.fieldLink RX8 19 "SandPlatesModel" "before" "[I") (List.mem_of_getElem? (i := 2) rfl)) (fun _ h9 => h9) rfl dX8_note_24 ?_
          refine lv_bipush (v := 81) hx hb dX8_note_27 (by decide) ?_
          refine lv_iload_n hx hb dX8_note_29 rfl (lv_at hl 1 rfl) ?_
          refine lv_iadd hx hb dX8_note_30 ?_
          obtain ⟨hc_5, hf⟩ := vm_ck hf
          refine vm_iald hx hb hK hP 2 0 rfl rfl hc_5 (j := (81 + x1).toNatClampNeg) rfl dX8_note_31 ?_
          obtain ⟨hc_6, hf⟩ := vm_ck hf
          refine vm_iast hx hb hK hP hD hS 2 0 rfl rfl hc_6 (j := (x1.toNatClampNeg)) rfl dX8_note_32 (fun H locs hP hD hS => ?_)
          have hP : va_P Γ.1 vwCl (wd_X8_note Γ q0 q1 q2 d0 d1 d2 d3 d4 d5 d6 d7 d8 d9 d10 d11 d12 length undoMany zeroKept oneKept seen spot kind begin letters figures value plated driven rows periods leastPeriod sv (upd before (x1.toNatClampNeg) (before ((81 + x1).toNatClampNeg)))) H := hP
          have hD : va_D A (wd_X8_note Γ q0 q1 q2 d0 d1 d2 d3 d4 d5 d6 d7 d8 d9 d10 d11 d12 length undoMany zeroKept oneKept seen spot kind begin letters figures value plated driven rows periods leastPeriod sv (upd before (x1.toNatClampNeg) (before ((81 + x1).toNatClampNeg)))) := hD
          refine lv_iinc (v := (x1 + 1)) (lv' := [(1, .int (x1 + 1)), (0, .ref q0)]) hx hb dX8_note_33 hl (k := 1) rfl rfl (by decide) rfl (fun ls hl => ?_)
          refine lv_goto (tgt := 11) hx hb dX8_note_36 (by decide) ?_
          exact ih (upd before (x1.toNatClampNeg) (before ((81 + x1).toNatClampNeg))) (x1 + 1) hP hD hS (lv_sub hl [1, 0] rfl) hf
    exact LP FU before x1 hP hD hS hl h1
  unfold f_X8_note at hf
  refine lv_aload_n hx hb dX8_note_0 rfl (lv_at hl 0 rfl) ?_
  refine va_get (D := Γ.1) (ci := 8) (v := .int undoMany) (C := RX8) (T := TX8) (N := 31) hx hb hts hi8 hown hK hP 0 rfl rfl 5 (by decide) (hts (.fieldLink RX8 165 "SandPlatesModel" "undoMany" "I") (List.mem_of_getElem? (i := 1) rfl)) (fun _ h9 => h9) rfl dX8_note_1 ?_
  refine lv_bipush (v := 6) hx hb dX8_note_4 (by decide) ?_
  refine lv_icmp_ne (tgt := 49) hx hb dX8_note_6 (by decide) (fun hc_7 => ?_) (fun hc_7 => ?_)
  · have hf := vm_neg hc_7 hf
    exact K_49 undoMany before hP hD hS (lv_sub hl [0] rfl) hf
  · have hf := vm_pos hc_7 hf
    refine lv_iconst (v := 0) hx hb dX8_note_9 (by decide) ?_
    refine lv_istore_n (lv' := [(1, .int 0), (0, .ref q0)]) hx hb dX8_note_10 rfl hl (by decide) rfl (fun ls hl => ?_)
    exact K_11 undoMany before 0 hP hD hS (lv_sub hl [1, 0] rfl) hf
def wd_X8_tells (Γ : GE) (q0 q1 q2 q3 q4 d0 d1 d2 d3 d4 d5 d6 d7 d8 d9 d10 : Nat) (length : Int32) (undoMany : Int32) (zeroKept : Int32) (oneKept : Int32) (seen : Int32) (spot : Int32) (kind : Int32) (begin : Int32) (letters : Int64) (figures : Int32) (value : Int32) (plated : Int32) (driven : Int32) (rows : Int32) (periods : Int32) (leastPeriod : Int32) (text : Nat → Int32) (sv : Nat → Int32) (read : Nat → Int32) (before : Nat → Int32) : va_W := [(q0, .inr (8, [.int length, .ref q1, .ref q2, .ref q3, .ref q4, .int undoMany, .ref d0, .int zeroKept, .int oneKept, .ref d1, .ref d2, .int seen, .int spot, .int kind, .int begin, .long letters, .int figures, .int value, .int plated, .int driven, .int rows, .ref d3, .ref d4, .ref d5, .ref d6, .ref d7, .ref d8, .ref d9, .ref d10, .int periods, .int leastPeriod])), (q1, .inl (Γ.2.1 0, 120, .inl text)), (q2, .inl (Γ.2.1 0, 81, .inl sv)), (q3, .inl (Γ.2.1 0, 81, .inl read)), (q4, .inl (Γ.2.1 0, 486, .inl before))]
def f_X8_tells_41 (undoMany : Int32) (spot : Int32) (kind : Int32) (begin : Int32) (letters : Int64) (figures : Int32) (value : Int32) (plated : Int32) (driven : Int32) (rows : Int32) (sv : Nat → Int32) (read : Nat → Int32) (before : Nat → Int32) (x1 : Int32) : Option (Int32 × Int32 × Int32 × Int32 × Int32 × Int32 × Int64 × Int32 × Int32 × Int32 × Int32 × Int32 × (Nat → Int32) × (Nat → Int32) × (Nat → Int32)) := some (x1, 0, undoMany, spot, kind, begin, letters, figures, value, plated, driven, rows, sv, read, before)
def f_X8_tells_17b (undoMany : Int32) (spot : Int32) (kind : Int32) (begin : Int32) (letters : Int64) (figures : Int32) (value : Int32) (plated : Int32) (driven : Int32) (rows : Int32) (read : Nat → Int32) (before : Nat → Int32) (x1 : Int32) (sv : Nat → Int32) (x2 : Int32) (k : (((Nat → Int32) × Int32) → Option (Nat → Int32))) : Option (Nat → Int32) := if 81 ≤ x2 then (some sv) else (if inb x2 81 = true then if inb x2 81 = true then k ((upd sv (x2.toNatClampNeg) (read (x2.toNatClampNeg))), (x2 + 1)) else none else none)
def f_X8_tells_17s (undoMany : Int32) (spot : Int32) (kind : Int32) (begin : Int32) (letters : Int64) (figures : Int32) (value : Int32) (plated : Int32) (driven : Int32) (rows : Int32) (read : Nat → Int32) (before : Nat → Int32) (x1 : Int32) : ((Nat → Int32) × Int32) → (((Nat → Int32) × Int32) → Option (Nat → Int32)) → Option (Nat → Int32) := fun t k => f_X8_tells_17b undoMany spot kind begin letters figures value plated driven rows read before x1 t.1 t.2 k
def f_X8_tells_17 (undoMany : Int32) (spot : Int32) (kind : Int32) (begin : Int32) (letters : Int64) (figures : Int32) (value : Int32) (plated : Int32) (driven : Int32) (rows : Int32) (sv : Nat → Int32) (read : Nat → Int32) (before : Nat → Int32) (x1 : Int32) (x2 : Int32) : Option (Int32 × Int32 × Int32 × Int32 × Int32 × Int32 × Int64 × Int32 × Int32 × Int32 × Int32 × Int32 × (Nat → Int32) × (Nat → Int32) × (Nat → Int32)) := obx (vm_it (f_X8_tells_17s undoMany spot kind begin letters figures value plated driven rows read before x1) FU (sv, x2)) (fun sv => f_X8_tells_41 undoMany spot kind begin letters figures value plated driven rows sv read before x1)
def f_X8_tells (length : Int32) (undoMany : Int32) (text : Nat → Int32) (sv : Nat → Int32) (read : Nat → Int32) (before : Nat → Int32) : Option (Int32 × Int32 × Int32 × Int32 × Int32 × Int32 × Int64 × Int32 × Int32 × Int32 × Int32 × Int32 × (Nat → Int32) × (Nat → Int32) × (Nat → Int32)) := ob11 (f_X8_reads length text read) (fun r_4 spot_5 kind_6 begin_7 letters_8 figures_9 value_10 plated_11 driven_12 rows_13 read_14 => if 0 ≤ r_4 then (ob2 (f_X8_note undoMany sv before) (fun undoMany_17 before_18 => f_X8_tells_17 undoMany_17 spot_5 kind_6 begin_7 letters_8 figures_9 value_10 plated_11 driven_12 rows_13 sv read_14 before_18 r_4 0)) else (some (r_4, length, undoMany, spot_5, kind_6, begin_7, letters_8, figures_9, value_10, plated_11, driven_12, rows_13, sv, read_14, before)))
set_option maxHeartbeats 4000000 in
set_option maxRecDepth 100000 in
theorem c_X8_tells (l : Launch) (Γ : GE) (sz : Nat) (q0 q1 q2 q3 q4 d0 d1 d2 d3 d4 d5 d6 d7 d8 d9 d10 : Nat) (length : Int32) (undoMany : Int32) (zeroKept : Int32) (oneKept : Int32) (seen : Int32) (spot : Int32) (kind : Int32) (begin : Int32) (letters : Int64) (figures : Int32) (value : Int32) (plated : Int32) (driven : Int32) (rows : Int32) (periods : Int32) (leastPeriod : Int32) (text : Nat → Int32) (sv : Nat → Int32) (read : Nat → Int32) (before : Nat → Int32) (ro : Int32) (o_length : Int32) (o_undoMany : Int32) (o_spot : Int32) (o_kind : Int32) (o_begin : Int32) (o_letters : Int64) (o_figures : Int32) (o_value : Int32) (o_plated : Int32) (o_driven : Int32) (o_rows : Int32) (o_sv : Nat → Int32) (o_read : Nat → Int32) (o_before : Nat → Int32) (hf : f_X8_tells length undoMany text sv read before = some (ro, o_length, o_undoMany, o_spot, o_kind, o_begin, o_letters, o_figures, o_value, o_plated, o_driven, o_rows, o_sv, o_read, o_before)) : MetI l yX8_tells wsX8_tells ({ frames := 7, cells := 0, slots := 0, locals := 152 } : Room) Γ [.ref q0] (wd_X8_tells Γ q0 q1 q2 q3 q4 d0 d1 d2 d3 d4 d5 d6 d7 d8 d9 d10 length undoMany zeroKept oneKept seen spot kind begin letters figures value plated driven rows periods leastPeriod text sv read before) (wd_X8_tells Γ q0 q1 q2 q3 q4 d0 d1 d2 d3 d4 d5 d6 d7 d8 d9 d10 o_length o_undoMany zeroKept oneKept seen o_spot o_kind o_begin o_letters o_figures o_value o_plated o_driven o_rows periods leastPeriod text o_sv o_read o_before) sz ro := by
  refine Met.ofW (cc := cX8_tells) (maxL := 3) (ret := (some .int)) (by decide) rfl ?_
  intro p e s m args below meth c s₁ B hml hv
  obtain ⟨rfl, hsz, hE, hP, hD⟩ := hv
  have hx := B.exec
  have hb := B.bytes
  have hr := B.returns
  have hts := atoms_spec (ws := wsX8_tells) B.pre
  have hown : s.vm.findClass RX8 = some m.cls := findClass_of_methodNamed B.named
  have hlocks := B.notSynchronized
  subst hsz
  generalize hAe : va_A (wd_X8_tells Γ q0 q1 q2 q3 q4 d0 d1 d2 d3 d4 d5 d6 d7 d8 d9 d10 length undoMany zeroKept oneKept seen spot kind begin letters figures value plated driven rows periods leastPeriod text sv read before) s.heap.size = A at hE hD ⊢
  have hA : ∀ q : Nat, s.heap.size ≤ q → A q := fun q h => by rw [← hAe]; exact Or.inr h
  clear hAe
  have hS : va_S A s.heap s.heap [] := va_S.rf
  have hK := hE.1
  have hl := lv_entry ([.ref q0]) (n := 3) (Nat.le_of_ble_eq_true rfl)
  rw [lg_entry_eq]
  generalize (lg_sl ([.ref q0]) ++ List.replicate (3 - (lg_sl ([.ref q0])).length) Slot.unset).toArray = ls at hl ⊢
  have hl : lv_has ls 3 [(0, .ref q0)] := hl
  have hi8 : ∀ w ∈ u_ws RX8 TX8 31, w ∈ wsX8_tells := fun w h => (List.mem_cons_of_mem _ (List.mem_append_right _ h))
  obtain ⟨out, hout⟩ : ∃ o, o = (ro, o_length, o_undoMany, o_spot, o_kind, o_begin, o_letters, o_figures, o_value, o_plated, o_driven, o_rows, o_sv, o_read, o_before) := ⟨_, rfl⟩
  rw [← hout] at hf
  obtain ⟨QQ, hQQ⟩ : ∃ Q, Q = MQ below (va_Qi (fun (r' : Int32) (_ : Unit) => r' = ro) (CQ Γ (wd_X8_tells Γ q0 q1 q2 q3 q4 d0 d1 d2 d3 d4 d5 d6 d7 d8 d9 d10 o_length o_undoMany zeroKept oneKept seen o_spot o_kind o_begin o_letters o_figures o_value o_plated o_driven o_rows periods leastPeriod text o_sv o_read o_before) A) A) (([.ref q0] : List Value).toArray) s 0 0 A := ⟨_, rfl⟩
  show W p l e ({ frames := 7, cells := 0, slots := 0, locals := 152 } : Room) s m (([.ref q0] : List Value).toArray) below meth c s.heap [] 0 0 (MQ below _ (([.ref q0] : List Value).toArray) s 0 0 A) (F0 m 0 ls [])
  rw [← hQQ]
  have K_41 : ∀ (undoMany : Int32) (spot : Int32) (kind : Int32) (begin : Int32) (letters : Int64) (figures : Int32) (value : Int32) (plated : Int32) (driven : Int32) (rows : Int32) (sv : Nat → Int32) (read : Nat → Int32) (before : Nat → Int32) (x1 : Int32) {length : Int32} {H : Heap} {locs : List Loc} {ls : Array Slot}, va_P Γ.1 vwCl (wd_X8_tells Γ q0 q1 q2 q3 q4 d0 d1 d2 d3 d4 d5 d6 d7 d8 d9 d10 length undoMany zeroKept oneKept seen spot kind begin letters figures value plated driven rows periods leastPeriod text sv read before) H → va_D A (wd_X8_tells Γ q0 q1 q2 q3 q4 d0 d1 d2 d3 d4 d5 d6 d7 d8 d9 d10 length undoMany zeroKept oneKept seen spot kind begin letters figures value plated driven rows periods leastPeriod text sv read before) → va_S A s.heap H locs → lv_has ls 3 [(0, .ref q0), (1, .int x1)] → f_X8_tells_41 undoMany spot kind begin letters figures value plated driven rows sv read before x1 = some out → W p l e ({ frames := 7, cells := 0, slots := 0, locals := 152 } : Room) s m ([.ref q0] : List Value).toArray below meth c H locs 0 0 QQ (F0 m 41 ls []) := by
    intro undoMany spot kind begin letters figures value plated driven rows sv read before x1 length H locs ls hP hD hS hl hf
    unfold f_X8_tells_41 at hf
    refine lv_aload_n hx hb dX8_tells_41 rfl (lv_at hl 0 rfl) ?_
    refine lv_iconst (v := 0) hx hb dX8_tells_42 (by decide) ?_
    refine va_put (D := Γ.1) (ci := 8) (v := .int 0) (ty := .int) (C := RX8) (T := TX8) (N := 31) hx hb hts hi8 tyX8 tyX8_ok nmX8 hown hK hP hD hS 0 rfl rfl 0 (by decide) (hts (.fieldLink RX8 65 "SandPlatesModel" "length" "I") (List.mem_of_getElem? (i := 3) rfl)) (fun _ h9 => h9) rfl (by decide +kernel) rfl rfl (Nat.le_of_ble_eq_true rfl) dX8_tells_43 (fun H locs hP hD hS => ?_)
    have hP : va_P Γ.1 vwCl (wd_X8_tells Γ q0 q1 q2 q3 q4 d0 d1 d2 d3 d4 d5 d6 d7 d8 d9 d10 0 undoMany zeroKept oneKept seen spot kind begin letters figures value plated driven rows periods leastPeriod text sv read before) H := hP
    have hD : va_D A (wd_X8_tells Γ q0 q1 q2 q3 q4 d0 d1 d2 d3 d4 d5 d6 d7 d8 d9 d10 0 undoMany zeroKept oneKept seen spot kind begin letters figures value plated driven rows periods leastPeriod text sv read before) := hD
    refine lv_iload_n hx hb dX8_tells_46 rfl (lv_at hl 1 rfl) ?_
    subst hout; obtain ⟨rfl, rfl, rfl, rfl, rfl, rfl, rfl, rfl, rfl, rfl, rfl, rfl, rfl, rfl, rfl⟩ := rt15 hf
    subst hQQ
    exact W.iret hx hb hr (fun t ht hW => ⟨⟨_, (), rfl, rfl, by rw [ht]; exact hP, hD⟩, hS.F ht⟩) hS.2.2 dX8_tells_47
  have K_17 : ∀ (undoMany : Int32) (spot : Int32) (kind : Int32) (begin : Int32) (letters : Int64) (figures : Int32) (value : Int32) (plated : Int32) (driven : Int32) (rows : Int32) (sv : Nat → Int32) (read : Nat → Int32) (before : Nat → Int32) (x1 : Int32) (x2 : Int32) {length : Int32} {H : Heap} {locs : List Loc} {ls : Array Slot}, va_P Γ.1 vwCl (wd_X8_tells Γ q0 q1 q2 q3 q4 d0 d1 d2 d3 d4 d5 d6 d7 d8 d9 d10 length undoMany zeroKept oneKept seen spot kind begin letters figures value plated driven rows periods leastPeriod text sv read before) H → va_D A (wd_X8_tells Γ q0 q1 q2 q3 q4 d0 d1 d2 d3 d4 d5 d6 d7 d8 d9 d10 length undoMany zeroKept oneKept seen spot kind begin letters figures value plated driven rows periods leastPeriod text sv read before) → va_S A s.heap H locs → lv_has ls 3 [(0, .ref q0), (1, .int x1), (2, .int x2)] → f_X8_tells_17 undoMany spot kind begin letters figures value plated driven rows sv read before x1 x2 = some out → W p l e ({ frames := 7, cells := 0, slots := 0, locals := 152 } : Room) s m ([.ref q0] : List Value).toArray below meth c H locs 0 0 QQ (F0 m 17 ls []) := by
    intro undoMany spot kind begin letters figures value plated driven rows sv read before x1 x2 length H locs ls hP hD hS hl hf
    unfold f_X8_tells_17 at hf
    obtain ⟨ex17, h1, hX17⟩ := obx_some hf
    have LP : ∀ (n : Nat) (sv : Nat → Int32) (x2 : Int32)  {H : Heap} {locs : List Loc} {ls : Array Slot}, va_P Γ.1 vwCl (wd_X8_tells Γ q0 q1 q2 q3 q4 d0 d1 d2 d3 d4 d5 d6 d7 d8 d9 d10 length undoMany zeroKept oneKept seen spot kind begin letters figures value plated driven rows periods leastPeriod text sv read before) H → va_D A (wd_X8_tells Γ q0 q1 q2 q3 q4 d0 d1 d2 d3 d4 d5 d6 d7 d8 d9 d10 length undoMany zeroKept oneKept seen spot kind begin letters figures value plated driven rows periods leastPeriod text sv read before) → va_S A s.heap H locs → lv_has ls 3 [(0, .ref q0), (1, .int x1), (2, .int x2)] → vm_it (f_X8_tells_17s undoMany spot kind begin letters figures value plated driven rows read before x1) n (sv, x2) = some ex17 → W p l e ({ frames := 7, cells := 0, slots := 0, locals := 152 } : Room) s m ([.ref q0] : List Value).toArray below meth c H locs 0 0 QQ (F0 m 17 ls []) := by
      clear hP hD hS hl hf h1
      intro n
      induction n with
      | zero => intro sv x2 H locs ls hP hD hS hl hf; exact (vm_it_0 hf).elim
      | succ n ih =>
        intro sv x2 H locs ls hP hD hS hl hf
        have hf : f_X8_tells_17b undoMany spot kind begin letters figures value plated driven rows read before x1 sv x2 (vm_it (f_X8_tells_17s undoMany spot kind begin letters figures value plated driven rows read before x1) n) = some ex17 := hf
        unfold f_X8_tells_17b at hf
        refine lv_iload_n hx hb dX8_tells_17 rfl (lv_at hl 2 rfl) ?_
        refine lv_bipush (v := 81) hx hb dX8_tells_18 (by decide) ?_
        refine lv_icmp_ge (tgt := 41) hx hb dX8_tells_20 (by decide) (fun hc_1 => ?_) (fun hc_1 => ?_)
        · have hf := vm_pos hc_1 hf
          have hX := hX17
          rw [← Option.some.inj hf] at hX
          exact K_41 undoMany spot kind begin letters figures value plated driven rows sv read before x1 hP hD hS (lv_sub hl [0, 1] rfl) hX
        · have hf := vm_neg hc_1 hf
          refine lv_aload_n hx hb dX8_tells_23 rfl (lv_at hl 0 rfl) ?_
          refine va_get (D := Γ.1) (ci := 8) (v := .ref q2) (C := RX8) (T := TX8) (N := 31) hx hb hts hi8 hown hK hP 0 rfl rfl 2 (by decide) (hts (.fieldLink RX8 13 "SandPlatesModel" "s" "[I") (List.mem_of_getElem? (i := 1) rfl)) (fun _ h9 => h9) rfl dX8_tells_24 ?_
          refine lv_iload_n hx hb dX8_tells_27 rfl (lv_at hl 2 rfl) ?_
          refine lv_aload_n hx hb dX8_tells_28 rfl (lv_at hl 0 rfl) ?_
          refine va_get (D := Γ.1) (ci := 8) (v := .ref q3) (C := RX8) (T := TX8) (N := 31) hx hb hts hi8 hown hK hP 0 rfl rfl 3 (by decide) (hts (.fieldLink RX8 16 "SandPlatesModel" "read" "[I") (List.mem_of_getElem? (i := 2) rfl)) (fun _ h9 => h9) rfl dX8_tells_29 ?_
          refine lv_iload_n hx hb dX8_tells_32 rfl (lv_at hl 2 rfl) ?_
          obtain ⟨hc_2, hf⟩ := vm_ck hf
          refine vm_iald hx hb hK hP 3 0 rfl rfl hc_2 (j := x2.toNatClampNeg) rfl dX8_tells_33 ?_
          obtain ⟨hc_3, hf⟩ := vm_ck hf
          refine vm_iast hx hb hK hP hD hS 2 0 rfl rfl hc_3 (j := (x2.toNatClampNeg)) rfl dX8_tells_34 (fun H locs hP hD hS => ?_)
          have hP : va_P Γ.1 vwCl (wd_X8_tells Γ q0 q1 q2 q3 q4 d0 d1 d2 d3 d4 d5 d6 d7 d8 d9 d10 length undoMany zeroKept oneKept seen spot kind begin letters figures value plated driven rows periods leastPeriod text (upd sv (x2.toNatClampNeg) (read (x2.toNatClampNeg))) read before) H := hP
          have hD : va_D A (wd_X8_tells Γ q0 q1 q2 q3 q4 d0 d1 d2 d3 d4 d5 d6 d7 d8 d9 d10 length undoMany zeroKept oneKept seen spot kind begin letters figures value plated driven rows periods leastPeriod text (upd sv (x2.toNatClampNeg) (read (x2.toNatClampNeg))) read before) := hD
          refine lv_iinc (v := (x2 + 1)) (lv' := [(2, .int (x2 + 1)), (0, .ref q0), (1, .int x1)]) hx hb dX8_tells_35 hl (k := 2) rfl rfl (by decide) rfl (fun ls hl => ?_)
          refine lv_goto (tgt := 17) hx hb dX8_tells_38 (by decide) ?_
          exact ih (upd sv (x2.toNatClampNeg) (read (x2.toNatClampNeg))) (x2 + 1) hP hD hS (lv_sub hl [1, 2, 0] rfl) hf
    exact LP FU sv x2 hP hD hS hl h1
  unfold f_X8_tells at hf
  refine lv_aload_n hx hb dX8_tells_0 rfl (lv_at hl 0 rfl) ?_
  obtain ⟨r_4, spot_5, kind_6, begin_7, letters_8, figures_9, value_10, plated_11, driven_12, rows_13, read_14, hq_15, hf⟩ := ob11_some hf
  refine vm_cVi (isC := [0, 1, 3]) (wc := (wd_X8_reads Γ q0 q1 q3 q2 q4 d0 d1 d2 d3 d4 d5 d6 d7 d8 d9 d10 length undoMany zeroKept oneKept seen spot kind begin letters figures value plated driven rows periods leastPeriod text read)) (w1 := (wd_X8_reads Γ q0 q1 q3 q2 q4 d0 d1 d2 d3 d4 d5 d6 d7 d8 d9 d10 length undoMany zeroKept oneKept seen spot_5 kind_6 begin_7 letters_8 figures_9 value_10 plated_11 driven_12 rows_13 periods leastPeriod text read_14)) (As := []) (rest := []) ⟨hx, hb, hml, hown, hts⟩ hE hP hD hS hA rfl rfl rfl (c_X8_reads l Γ _ q0 q1 q3 q2 q4 d0 d1 d2 d3 d4 d5 d6 d7 d8 d9 d10 length undoMany zeroKept oneKept seen spot kind begin letters figures value plated driven rows periods leastPeriod text read r_4 spot_5 kind_6 begin_7 letters_8 figures_9 value_10 plated_11 driven_12 rows_13 read_14 hq_15) (cwV 0 hts gX8_tells_X8_reads rfl rfl rfl (by decide +kernel) ⟨Nat.le_of_ble_eq_true rfl, Nat.le_of_ble_eq_true rfl⟩) (va_recv (ci := 8) (q0 := 0) hK hP rfl rfl) rfl hl.1 rfl (Nat.le_of_ble_eq_true rfl) dX8_tells_1 ⟨Nat.zero_le _, Nat.zero_le _⟩ (fun H locs hP hD hS => ?_)
  have hP : va_P Γ.1 vwCl (wd_X8_tells Γ q0 q1 q2 q3 q4 d0 d1 d2 d3 d4 d5 d6 d7 d8 d9 d10 length undoMany zeroKept oneKept seen spot_5 kind_6 begin_7 letters_8 figures_9 value_10 plated_11 driven_12 rows_13 periods leastPeriod text sv read_14 before) H := hP
  have hD : va_D A (wd_X8_tells Γ q0 q1 q2 q3 q4 d0 d1 d2 d3 d4 d5 d6 d7 d8 d9 d10 length undoMany zeroKept oneKept seen spot_5 kind_6 begin_7 letters_8 figures_9 value_10 plated_11 driven_12 rows_13 periods leastPeriod text sv read_14 before) := hD
  refine lv_istore_n (lv' := [(1, .int r_4), (0, .ref q0)]) hx hb dX8_tells_4 rfl hl (by decide) rfl (fun ls hl => ?_)
  refine lv_iload_n hx hb dX8_tells_5 rfl (lv_at hl 0 rfl) ?_
  refine lv_if_ge (tgt := 11) hx hb dX8_tells_6 (by decide) (fun hc_16 => ?_) (fun hc_16 => ?_)
  · have hf := vm_pos hc_16 hf
    refine lv_aload_n hx hb dX8_tells_11 rfl (lv_at hl 1 rfl) ?_
    obtain ⟨undoMany_17, before_18, hq_19, hf⟩ := ob2_some hf
    refine vm_cVv (isC := [0, 2, 4]) (wc := (wd_X8_note Γ q0 q2 q4 q1 q3 d0 d1 d2 d3 d4 d5 d6 d7 d8 d9 d10 length undoMany zeroKept oneKept seen spot_5 kind_6 begin_7 letters_8 figures_9 value_10 plated_11 driven_12 rows_13 periods leastPeriod sv before)) (w1 := (wd_X8_note Γ q0 q2 q4 q1 q3 d0 d1 d2 d3 d4 d5 d6 d7 d8 d9 d10 length undoMany_17 zeroKept oneKept seen spot_5 kind_6 begin_7 letters_8 figures_9 value_10 plated_11 driven_12 rows_13 periods leastPeriod sv before_18)) (As := []) (rest := []) ⟨hx, hb, hml, hown, hts⟩ hE hP hD hS hA rfl rfl rfl (c_X8_note l Γ _ q0 q2 q4 q1 q3 d0 d1 d2 d3 d4 d5 d6 d7 d8 d9 d10 length undoMany zeroKept oneKept seen spot_5 kind_6 begin_7 letters_8 figures_9 value_10 plated_11 driven_12 rows_13 periods leastPeriod sv before undoMany_17 before_18 hq_19) (cwV 0 hts gX8_tells_X8_note rfl rfl rfl (by decide +kernel) ⟨Nat.le_of_ble_eq_true rfl, Nat.le_of_ble_eq_true rfl⟩) (va_recv (ci := 8) (q0 := 0) hK hP rfl rfl) rfl hl.1 rfl (Nat.le_of_ble_eq_true rfl) dX8_tells_12 ⟨Nat.zero_le _, Nat.zero_le _⟩ (fun H locs hP hD hS => ?_)
    have hP : va_P Γ.1 vwCl (wd_X8_tells Γ q0 q1 q2 q3 q4 d0 d1 d2 d3 d4 d5 d6 d7 d8 d9 d10 length undoMany_17 zeroKept oneKept seen spot_5 kind_6 begin_7 letters_8 figures_9 value_10 plated_11 driven_12 rows_13 periods leastPeriod text sv read_14 before_18) H := hP
    have hD : va_D A (wd_X8_tells Γ q0 q1 q2 q3 q4 d0 d1 d2 d3 d4 d5 d6 d7 d8 d9 d10 length undoMany_17 zeroKept oneKept seen spot_5 kind_6 begin_7 letters_8 figures_9 value_10 plated_11 driven_12 rows_13 periods leastPeriod text sv read_14 before_18) := hD
    refine lv_iconst (v := 0) hx hb dX8_tells_15 (by decide) ?_
    refine lv_istore_n (lv' := [(2, .int 0), (1, .int r_4), (0, .ref q0)]) hx hb dX8_tells_16 rfl hl (by decide) rfl (fun ls hl => ?_)
    exact K_17 undoMany_17 spot_5 kind_6 begin_7 letters_8 figures_9 value_10 plated_11 driven_12 rows_13 sv read_14 before_18 r_4 0 hP hD hS (lv_sub hl [2, 1, 0] rfl) hf
  · have hf := vm_neg hc_16 hf
    refine lv_iload_n hx hb dX8_tells_9 rfl (lv_at hl 0 rfl) ?_
    subst hout; obtain ⟨rfl, rfl, rfl, rfl, rfl, rfl, rfl, rfl, rfl, rfl, rfl, rfl, rfl, rfl, rfl⟩ := rt15 hf
    subst hQQ
    exact W.iret hx hb hr (fun t ht hW => ⟨⟨_, (), rfl, rfl, by rw [ht]; exact hP, hD⟩, hS.F ht⟩) hS.2.2 dX8_tells_10
