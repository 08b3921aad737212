def wd_X6_isSpelled (Γ : GE) (q0 q1 : Nat) (length : Int32) (kind : Int32) (first : Int32) (fin : Int32) (letters : Nat → Int32) : va_W := [(q0, .inr (6, [.ref q1, .int length, .int kind, .int first, .int fin])), (q1, .inl (Γ.2.1 0, 120, .inl letters))]
def f_X6_isSpelled_63  : Option Int32 := some 1
def f_X6_isSpelled_55  : Option Int32 := some 0
def f_X6_isSpelled_28b (first : Int32) (letters : Nat → Int32) (x1 : Nat) (x2 : Int32) (k : (Int32 → Option (Unit ⊕ Unit))) : Option (Unit ⊕ Unit) := if (strN x1) ≤ x2 then (some (Sum.inl ())) else (if inb (first + x2) 120 = true then if inb x2 (stL.getD x1 0) = true then if (letters ((first + x2).toNatClampNeg)) = (strC x1 (x2.toNatClampNeg)) then (k (x2 + 1)) else (some (Sum.inr ())) else none else none)
def f_X6_isSpelled_28s (first : Int32) (letters : Nat → Int32) (x1 : Nat) : Int32 → (Int32 → Option (Unit ⊕ Unit)) → Option (Unit ⊕ Unit) := fun t k => f_X6_isSpelled_28b first letters x1 t k
def f_X6_isSpelled_28 (first : Int32) (letters : Nat → Int32) (x1 : Nat) (x2 : Int32) : Option Int32 := obx (vm_it (f_X6_isSpelled_28s first letters x1) FU x2) (Sum.elim (un0 (f_X6_isSpelled_63)) (un0 (f_X6_isSpelled_55)))
def f_X6_isSpelled_24  : Option Int32 := some 0
def f_X6_isSpelled (kind : Int32) (first : Int32) (fin : Int32) (letters : Nat → Int32) (x1 : Nat) : Option Int32 := if kind = 1 then (if (fin - first) = (strN x1) then (f_X6_isSpelled_28 first letters x1 0) else f_X6_isSpelled_24) else f_X6_isSpelled_24
set_option maxHeartbeats 4000000 in
set_option maxRecDepth 100000 in
theorem c_X6_isSpelled (l : Launch) (Γ : GE) (sz : Nat) (q0 q1 : Nat) (length : Int32) (kind : Int32) (first : Int32) (fin : Int32) (letters : Nat → Int32) (x1 : Nat) (hs1 : x1 < 9) (ro : Int32) (hf : f_X6_isSpelled kind first fin letters x1 = some ro) : MetI l yX6_isSpelled wsX6_isSpelled ({ frames := 4, cells := 0, slots := 0, locals := 93 } : Room) Γ [.ref q0, .ref (Γ.2.2.2.1 x1)] (wd_X6_isSpelled Γ q0 q1 length kind first fin letters) (wd_X6_isSpelled Γ q0 q1 length kind first fin letters) sz ro := by
  refine Met.ofW (cc := cX6_isSpelled) (maxL := 3) (ret := (some .boolean)) (by decide) rfl ?_
  intro p e s m args below meth c s₁ B hml hv
  obtain ⟨rfl, hsz, hE, hP, hD⟩ := hv
  have hx := B.exec
  have hb := B.bytes
  have hr := B.returns
  have hts := atoms_spec (ws := wsX6_isSpelled) B.pre
  have hown : s.vm.findClass RX6 = some m.cls := findClass_of_methodNamed B.named
  have hlocks := B.notSynchronized
  subst hsz
  generalize hAe : va_A (wd_X6_isSpelled Γ q0 q1 length kind first fin letters) s.heap.size = A at hE hD ⊢
  have hA : ∀ q : Nat, s.heap.size ≤ q → A q := fun q h => by rw [← hAe]; exact Or.inr h
  clear hAe
  have hS : va_S A s.heap s.heap [] := va_S.rf
  have hK := hE.1
  have hl := lv_entry ([.ref q0, .ref (Γ.2.2.2.1 x1)]) (n := 3) (Nat.le_of_ble_eq_true rfl)
  rw [lg_entry_eq]
  generalize (lg_sl ([.ref q0, .ref (Γ.2.2.2.1 x1)]) ++ List.replicate (3 - (lg_sl ([.ref q0, .ref (Γ.2.2.2.1 x1)])).length) Slot.unset).toArray = ls at hl ⊢
  have hl : lv_has ls 3 [(0, .ref q0), (1, .ref (Γ.2.2.2.1 x1))] := hl
  have hi6 : ∀ w ∈ u_ws RX6 TX6 5, w ∈ wsX6_isSpelled := fun w h => (List.mem_cons_of_mem _ (List.mem_append_right _ h))
  obtain ⟨out, hout⟩ : ∃ o, o = ro := ⟨_, rfl⟩
  rw [← hout] at hf
  obtain ⟨QQ, hQQ⟩ : ∃ Q, Q = MQ below (va_Qi (fun (r' : Int32) (_ : Unit) => r' = ro) (CQ Γ (wd_X6_isSpelled Γ q0 q1 length kind first fin letters) A) A) (([.ref q0, .ref (Γ.2.2.2.1 x1)] : List Value).toArray) s 0 0 A := ⟨_, rfl⟩
  show W p l e ({ frames := 4, cells := 0, slots := 0, locals := 93 } : Room) s m (([.ref q0, .ref (Γ.2.2.2.1 x1)] : List Value).toArray) below meth c s.heap [] 0 0 (MQ below _ (([.ref q0, .ref (Γ.2.2.2.1 x1)] : List Value).toArray) s 0 0 A) (F0 m 0 ls [])
  rw [← hQQ]
  have K_63 : ∀ {H : Heap} {locs : List Loc} {ls : Array Slot}, va_P Γ.1 vwCl (wd_X6_isSpelled Γ q0 q1 length kind first fin letters) H → va_D A (wd_X6_isSpelled Γ q0 q1 length kind first fin letters) → va_S A s.heap H locs → lv_has ls 3 [] → f_X6_isSpelled_63 = some out → W p l e ({ frames := 4, cells := 0, slots := 0, locals := 93 } : Room) s m ([.ref q0, .ref (Γ.2.2.2.1 x1)] : List Value).toArray below meth c H locs 0 0 QQ (F0 m 63 ls []) := by
    intro H locs ls hP hD hS hl hf
    unfold f_X6_isSpelled_63 at hf
    refine lv_iconst (v := 1) hx hb dX6_isSpelled_63 (by decide) ?_
    subst hout; obtain rfl := Option.some.inj hf
    subst hQQ
    exact W.zret hx hb hr rfl (fun t ht hW => ⟨⟨_, (), rfl, rfl, by rw [ht]; exact hP, hD⟩, hS.F ht⟩) hS.2.2 dX6_isSpelled_64
  have K_55 : ∀ {H : Heap} {locs : List Loc} {ls : Array Slot}, va_P Γ.1 vwCl (wd_X6_isSpelled Γ q0 q1 length kind first fin letters) H → va_D A (wd_X6_isSpelled Γ q0 q1 length kind first fin letters) → va_S A s.heap H locs → lv_has ls 3 [] → f_X6_isSpelled_55 = some out → W p l e ({ frames := 4, cells := 0, slots := 0, locals := 93 } : Room) s m ([.ref q0, .ref (Γ.2.2.2.1 x1)] : List Value).toArray below meth c H locs 0 0 QQ (F0 m 55 ls []) := by
    intro H locs ls hP hD hS hl hf
    unfold f_X6_isSpelled_55 at hf
    refine lv_iconst (v := 0) hx hb dX6_isSpelled_55 (by decide) ?_
    subst hout; obtain rfl := Option.some.inj hf
    subst hQQ
    exact W.zret hx hb hr rfl (fun t ht hW => ⟨⟨_, (), rfl, rfl, by rw [ht]; exact hP, hD⟩, hS.F ht⟩) hS.2.2 dX6_isSpelled_56
  have K_28 : ∀ (x2 : Int32) {H : Heap} {locs : List Loc} {ls : Array Slot}, va_P Γ.1 vwCl (wd_X6_isSpelled Γ q0 q1 length kind first fin letters) H → va_D A (wd_X6_isSpelled Γ q0 q1 length kind first fin letters) → va_S A s.heap H locs → lv_has ls 3 [(0, .ref q0), (1, .ref (Γ.2.2.2.1 x1)), (2, .int x2)] → f_X6_isSpelled_28 first letters x1 x2 = some out → W p l e ({ frames := 4, cells := 0, slots := 0, locals := 93 } : Room) s m ([.ref q0, .ref (Γ.2.2.2.1 x1)] : List Value).toArray below meth c H locs 0 0 QQ (F0 m 28 ls []) := by
    intro x2 H locs ls hP hD hS hl hf
    unfold f_X6_isSpelled_28 at hf
    obtain ⟨ex28, h1, hX28⟩ := obx_some hf
    have LP : ∀ (n : Nat) (x2 : Int32)  {H : Heap} {locs : List Loc} {ls : Array Slot}, va_P Γ.1 vwCl (wd_X6_isSpelled Γ q0 q1 length kind first fin letters) H → va_D A (wd_X6_isSpelled Γ q0 q1 length kind first fin letters) → va_S A s.heap H locs → lv_has ls 3 [(0, .ref q0), (1, .ref (Γ.2.2.2.1 x1)), (2, .int x2)] → vm_it (f_X6_isSpelled_28s first letters x1) n x2 = some ex28 → W p l e ({ frames := 4, cells := 0, slots := 0, locals := 93 } : Room) s m ([.ref q0, .ref (Γ.2.2.2.1 x1)] : List Value).toArray below meth c H locs 0 0 QQ (F0 m 28 ls []) := by
      clear hP hD hS hl hf h1
      intro n
      induction n with
      | zero => intro x2 H locs ls hP hD hS hl hf; exact (vm_it_0 hf).elim
      | succ n ih =>
        intro x2 H locs ls hP hD hS hl hf
        have hf : f_X6_isSpelled_28b first letters x1 x2 (vm_it (f_X6_isSpelled_28s first letters x1) n) = some ex28 := hf
        unfold f_X6_isSpelled_28b at hf
        refine lv_iload_n hx hb dX6_isSpelled_28 rfl (lv_at hl 2 rfl) ?_
        refine lv_aload_n hx hb dX6_isSpelled_29 rfl (lv_at hl 1 rfl) ?_
        refine vm_cVi (isC := []) (wc := []) (w1 := []) (As := []) (rest := [.int x2]) ⟨hx, hb, hml, hown, hts⟩ hE hP hD hS hA rfl rfl rfl (c_J0_length l Γ _ x1 hs1) (cwV 0 hts gX6_isSpelled_J0_length_8abf5 rfl rfl rfl (by decide +kernel) ⟨Nat.le_of_ble_eq_true rfl, Nat.le_of_ble_eq_true rfl⟩) (vk_recv hE.2.2.2.2.1 hs1 hS) rfl hl.1 rfl (Nat.le_of_ble_eq_true rfl) dX6_isSpelled_30 ⟨Nat.zero_le _, Nat.zero_le _⟩ (fun H locs hP hD hS => ?_)
        have hP : va_P Γ.1 vwCl (wd_X6_isSpelled Γ q0 q1 length kind first fin letters) H := hP
        have hD : va_D A (wd_X6_isSpelled Γ q0 q1 length kind first fin letters) := hD
        refine lv_icmp_ge (tgt := 63) hx hb dX6_isSpelled_33 (by decide) (fun hc_1 => ?_) (fun hc_1 => ?_)
        · have hf := vm_pos hc_1 hf
          have hX := hX28
          rw [← Option.some.inj hf] at hX
          exact K_63  hP hD hS (lv_sub hl [] rfl) hX
        · have hf := vm_neg hc_1 hf
          refine lv_aload_n hx hb dX6_isSpelled_36 rfl (lv_at hl 0 rfl) ?_
          refine va_get (D := Γ.1) (ci := 6) (v := .ref q1) (C := RX6) (T := TX6) (N := 5) hx hb hts hi6 hown hK hP 0 rfl rfl 0 (by decide) (hts (.fieldLink RX6 9 "SandPlates$Text" "letters" "[I") (List.mem_of_getElem? (i := 4) rfl)) (fun _ h9 => h9) rfl dX6_isSpelled_37 ?_
          refine lv_aload_n hx hb dX6_isSpelled_40 rfl (lv_at hl 0 rfl) ?_
          refine va_get (D := Γ.1) (ci := 6) (v := .int first) (C := RX6) (T := TX6) (N := 5) hx hb hts hi6 hown hK hP 0 rfl rfl 3 (by decide) (hts (.fieldLink RX6 22 "SandPlates$Text" "first" "I") (List.mem_of_getElem? (i := 3) rfl)) (fun _ h9 => h9) rfl dX6_isSpelled_41 ?_
          refine lv_iload_n hx hb dX6_isSpelled_44 rfl (lv_at hl 2 rfl) ?_
          refine lv_iadd hx hb dX6_isSpelled_45 ?_
          obtain ⟨hc_2, hf⟩ := vm_ck hf
          refine vm_iald hx hb hK hP 1 0 rfl rfl hc_2 (j := (first + x2).toNatClampNeg) rfl dX6_isSpelled_46 ?_
          refine lv_aload_n hx hb dX6_isSpelled_47 rfl (lv_at hl 1 rfl) ?_
          refine lv_iload_n hx hb dX6_isSpelled_48 rfl (lv_at hl 2 rfl) ?_
          obtain ⟨hc_3, hf⟩ := vm_ck hf
          refine vm_cVi (isC := []) (wc := []) (w1 := []) (As := [.int x2]) (rest := [.int (letters ((first + x2).toNatClampNeg))]) ⟨hx, hb, hml, hown, hts⟩ hE hP hD hS hA rfl rfl rfl (c_J0_charAt l Γ _ x1 hs1 x2 hc_3) (cwV 1 hts gX6_isSpelled_J0_charAt_5068e rfl rfl rfl (by decide +kernel) ⟨Nat.le_of_ble_eq_true rfl, Nat.le_of_ble_eq_true rfl⟩) (vk_recv hE.2.2.2.2.1 hs1 hS) rfl hl.1 rfl (Nat.le_of_ble_eq_true rfl) dX6_isSpelled_49 ⟨Nat.zero_le _, Nat.zero_le _⟩ (fun H locs hP hD hS => ?_)
          have hP : va_P Γ.1 vwCl (wd_X6_isSpelled Γ q0 q1 length kind first fin letters) H := hP
          have hD : va_D A (wd_X6_isSpelled Γ q0 q1 length kind first fin letters) := hD
          refine lv_icmp_eq (tgt := 57) hx hb dX6_isSpelled_52 (by decide) (fun hc_4 => ?_) (fun hc_4 => ?_)
          · have hf := vm_pos hc_4 hf
            refine lv_iinc (v := (x2 + 1)) (lv' := [(2, .int (x2 + 1)), (0, .ref q0), (1, .ref (Γ.2.2.2.1 x1))]) hx hb dX6_isSpelled_57 hl (k := 2) rfl rfl (by decide) rfl (fun ls hl => ?_)
            refine lv_goto (tgt := 28) hx hb dX6_isSpelled_60 (by decide) ?_
            exact ih (x2 + 1) hP hD hS (lv_sub hl [1, 2, 0] rfl) hf
          · have hf := vm_neg hc_4 hf
            have hX := hX28
            rw [← Option.some.inj hf] at hX
            exact K_55  hP hD hS (lv_sub hl [] rfl) hX
    exact LP FU x2 hP hD hS hl h1
  have K_24 : ∀ {H : Heap} {locs : List Loc} {ls : Array Slot}, va_P Γ.1 vwCl (wd_X6_isSpelled Γ q0 q1 length kind first fin letters) H → va_D A (wd_X6_isSpelled Γ q0 q1 length kind first fin letters) → va_S A s.heap H locs → lv_has ls 3 [] → f_X6_isSpelled_24 = some out → W p l e ({ frames := 4, cells := 0, slots := 0, locals := 93 } : Room) s m ([.ref q0, .ref (Γ.2.2.2.1 x1)] : List Value).toArray below meth c H locs 0 0 QQ (F0 m 24 ls []) := by
    intro H locs ls hP hD hS hl hf
    unfold f_X6_isSpelled_24 at hf
    refine lv_iconst (v := 0) hx hb dX6_isSpelled_24 (by decide) ?_
    subst hout; obtain rfl := Option.some.inj hf
    subst hQQ
    exact W.zret hx hb hr rfl (fun t ht hW => ⟨⟨_, (), rfl, rfl, by rw [ht]; exact hP, hD⟩, hS.F ht⟩) hS.2.2 dX6_isSpelled_25
  unfold f_X6_isSpelled at hf
  refine lv_aload_n hx hb dX6_isSpelled_0 rfl (lv_at hl 0 rfl) ?_
  refine va_get (D := Γ.1) (ci := 6) (v := .int kind) (C := RX6) (T := TX6) (N := 5) hx hb hts hi6 hown hK hP 0 rfl rfl 2 (by decide) (hts (.fieldLink RX6 25 "SandPlates$Text" "kind" "I") (List.mem_of_getElem? (i := 1) rfl)) (fun _ h9 => h9) rfl dX6_isSpelled_1 ?_
  refine lv_iconst (v := 1) hx hb dX6_isSpelled_4 (by decide) ?_
  refine lv_icmp_ne (tgt := 24) hx hb dX6_isSpelled_5 (by decide) (fun hc_5 => ?_) (fun hc_5 => ?_)
  · have hf := vm_neg hc_5 hf
    exact K_24  hP hD hS (lv_sub hl [] rfl) hf
  · have hf := vm_pos hc_5 hf
    refine lv_aload_n hx hb dX6_isSpelled_8 rfl (lv_at hl 0 rfl) ?_
    refine va_get (D := Γ.1) (ci := 6) (v := .int fin) (C := RX6) (T := TX6) (N := 5) hx hb hts hi6 hown hK hP 0 rfl rfl 4 (by decide) (hts (.fieldLink RX6 19 "SandPlates$Text" "end" "I") (List.mem_of_getElem? (i := 2) rfl)) (fun _ h9 => h9) rfl dX6_isSpelled_9 ?_
    refine lv_aload_n hx hb dX6_isSpelled_12 rfl (lv_at hl 0 rfl) ?_
    refine va_get (D := Γ.1) (ci := 6) (v := .int first) (C := RX6) (T := TX6) (N := 5) hx hb hts hi6 hown hK hP 0 rfl rfl 3 (by decide) (hts (.fieldLink RX6 22 "SandPlates$Text" "first" "I") (List.mem_of_getElem? (i := 3) rfl)) (fun _ h9 => h9) rfl dX6_isSpelled_13 ?_
    refine lv_isub hx hb dX6_isSpelled_16 ?_
    refine lv_aload_n hx hb dX6_isSpelled_17 rfl (lv_at hl 1 rfl) ?_
    refine vm_cVi (isC := []) (wc := []) (w1 := []) (As := []) (rest := [.int (fin - first)]) ⟨hx, hb, hml, hown, hts⟩ hE hP hD hS hA rfl rfl rfl (c_J0_length l Γ _ x1 hs1) (cwV 0 hts gX6_isSpelled_J0_length_8abf5 rfl rfl rfl (by decide +kernel) ⟨Nat.le_of_ble_eq_true rfl, Nat.le_of_ble_eq_true rfl⟩) (vk_recv hE.2.2.2.2.1 hs1 hS) rfl hl.1 rfl (Nat.le_of_ble_eq_true rfl) dX6_isSpelled_18 ⟨Nat.zero_le _, Nat.zero_le _⟩ (fun H locs hP hD hS => ?_)
    have hP : va_P Γ.1 vwCl (wd_X6_isSpelled Γ q0 q1 length kind first fin letters) H := hP
    have hD : va_D A (wd_X6_isSpelled Γ q0 q1 length kind first fin letters) := hD
    refine lv_icmp_eq (tgt := 26) hx hb dX6_isSpelled_21 (by decide) (fun hc_6 => ?_) (fun hc_6 => ?_)
    · have hf := vm_pos hc_6 hf
      refine lv_iconst (v := 0) hx hb dX6_isSpelled_26 (by decide) ?_
      refine lv_istore_n (lv' := [(2, .int 0), (0, .ref q0), (1, .ref (Γ.2.2.2.1 x1))]) hx hb dX6_isSpelled_27 rfl hl (by decide) rfl (fun ls hl => ?_)
      exact K_28 0 hP hD hS (lv_sub hl [1, 2, 0] rfl) hf
    · have hf := vm_neg hc_6 hf
      exact K_24  hP hD hS (lv_sub hl [] rfl) hf
def wd_X5_spelling (Γ : GE) : va_W := []
def f_X5_spelling (x0 : Int32) : Option Nat := if x0 = 0 then (some 0) else if x0 = 1 then (some 1) else if x0 = 2 then (some 2) else if x0 = 3 then (some 3) else if x0 = 4 then (some 4) else if x0 = 5 then (some 5) else if x0 = 6 then (some 6) else if x0 = 7 then (some 7) else (some 8)
set_option maxHeartbeats 4000000 in
set_option maxRecDepth 100000 in
theorem c_X5_spelling (l : Launch) (Γ : GE) (sz : Nat) (x0 : Int32) (ro : Nat) (hf : f_X5_spelling x0 = some ro) : MetR l yX5_spelling wsX5_spelling ({ frames := 0, cells := 0, slots := 0, locals := 0 } : Room) Γ [.int x0] (wd_X5_spelling Γ) (wd_X5_spelling Γ) sz (Γ.2.2.2.1 ro) := by
  refine Met.ofW (cc := cX5_spelling) (maxL := 1) (ret := (some (.object "java/lang/String"))) (by decide) rfl ?_
  intro p e s m args below meth c s₁ B hml hv
  obtain ⟨rfl, hsz, hE, hP, hD⟩ := hv
  have hx := B.exec
  have hb := B.bytes
  have hr := B.returns
  have hts := atoms_spec (ws := wsX5_spelling) B.pre
  have hown : s.vm.findClass RX5 = some m.cls := findClass_of_methodNamed B.named
  have hlocks := B.notSynchronized
  subst hsz
  generalize hAe : va_A (wd_X5_spelling Γ) s.heap.size = A at hE hD ⊢
  have hA : ∀ q : Nat, s.heap.size ≤ q → A q := fun q h => by rw [← hAe]; exact Or.inr h
  clear hAe
  have hS : va_S A s.heap s.heap [] := va_S.rf
  have hK := hE.1
  have hl := lv_entry ([.int x0]) (n := 1) (Nat.le_of_ble_eq_true rfl)
  rw [lg_entry_eq]
  generalize (lg_sl ([.int x0]) ++ List.replicate (1 - (lg_sl ([.int x0])).length) Slot.unset).toArray = ls at hl ⊢
  have hl : lv_has ls 1 [(0, .int x0)] := hl
  obtain ⟨out, hout⟩ : ∃ o, o = ro := ⟨_, rfl⟩
  rw [← hout] at hf
  obtain ⟨QQ, hQQ⟩ : ∃ Q, Q = MQ below (va_Qr (fun _ : Unit => True) (fun u a t => a = (Γ.2.2.2.1 ro) ∧ CQ Γ (wd_X5_spelling Γ) A u t) A) (([.int x0] : List Value).toArray) s 0 0 A := ⟨_, rfl⟩
  show W p l e ({ frames := 0, cells := 0, slots := 0, locals := 0 } : Room) s m (([.int x0] : List Value).toArray) below meth c s.heap [] 0 0 (MQ below _ (([.int x0] : List Value).toArray) s 0 0 A) (F0 m 0 ls [])
  rw [← hQQ]
  unfold f_X5_spelling at hf
  refine lv_iload_n hx hb dX5_spelling_0 rfl (lv_at hl 0 rfl) ?_
  by_cases hc_1 : x0 = 0
  · have hf := vm_pos hc_1 hf
    refine lv_tableIn (x := x0) (tgt := 48) hx hb dX5_spelling_1 (by rw [hc_1]; decide) (by rw [hc_1]; decide) (by rw [hc_1]; rfl) (by decide) ?_
    refine va_ldcS hx hb hown (hE.2.2.2.1 0 (by decide)) dX5_spelling_48 ?_
    subst hout; obtain rfl := Option.some.inj hf
    subst hQQ
    exact W.aret (v := .ref (Γ.2.2.2.1 0)) hx hb hr (Or.inl ⟨_, rfl⟩) (Or.inr ⟨_, rfl⟩) (fun t ht hW => ⟨⟨(), _, rfl, trivial, rfl, by rw [ht]; exact hP, hD⟩, hS.F ht⟩) hS.2.2 dX5_spelling_50
  · have hf := vm_neg hc_1 hf
    by_cases hc_2 : x0 = 1
    · have hf := vm_pos hc_2 hf
      refine lv_tableIn (x := x0) (tgt := 51) hx hb dX5_spelling_1 (by rw [hc_2]; decide) (by rw [hc_2]; decide) (by rw [hc_2]; rfl) (by decide) ?_
      refine va_ldcS hx hb hown (hE.2.2.2.1 1 (by decide)) dX5_spelling_51 ?_
      subst hout; obtain rfl := Option.some.inj hf
      subst hQQ
      exact W.aret (v := .ref (Γ.2.2.2.1 1)) hx hb hr (Or.inl ⟨_, rfl⟩) (Or.inr ⟨_, rfl⟩) (fun t ht hW => ⟨⟨(), _, rfl, trivial, rfl, by rw [ht]; exact hP, hD⟩, hS.F ht⟩) hS.2.2 dX5_spelling_53
    · have hf := vm_neg hc_2 hf
      by_cases hc_3 : x0 = 2
      · have hf := vm_pos hc_3 hf
        refine lv_tableIn (x := x0) (tgt := 54) hx hb dX5_spelling_1 (by rw [hc_3]; decide) (by rw [hc_3]; decide) (by rw [hc_3]; rfl) (by decide) ?_
        refine va_ldcS hx hb hown (hE.2.2.2.1 2 (by decide)) dX5_spelling_54 ?_
        subst hout; obtain rfl := Option.some.inj hf
        subst hQQ
        exact W.aret (v := .ref (Γ.2.2.2.1 2)) hx hb hr (Or.inl ⟨_, rfl⟩) (Or.inr ⟨_, rfl⟩) (fun t ht hW => ⟨⟨(), _, rfl, trivial, rfl, by rw [ht]; exact hP, hD⟩, hS.F ht⟩) hS.2.2 dX5_spelling_56
      · have hf := vm_neg hc_3 hf
        by_cases hc_4 : x0 = 3
        · have hf := vm_pos hc_4 hf
          refine lv_tableIn (x := x0) (tgt := 57) hx hb dX5_spelling_1 (by rw [hc_4]; decide) (by rw [hc_4]; decide) (by rw [hc_4]; rfl) (by decide) ?_
          refine va_ldcS hx hb hown (hE.2.2.2.1 3 (by decide)) dX5_spelling_57 ?_
          subst hout; obtain rfl := Option.some.inj hf
          subst hQQ
          exact W.aret (v := .ref (Γ.2.2.2.1 3)) hx hb hr (Or.inl ⟨_, rfl⟩) (Or.inr ⟨_, rfl⟩) (fun t ht hW => ⟨⟨(), _, rfl, trivial, rfl, by rw [ht]; exact hP, hD⟩, hS.F ht⟩) hS.2.2 dX5_spelling_59
        · have hf := vm_neg hc_4 hf
          by_cases hc_5 : x0 = 4
          · have hf := vm_pos hc_5 hf
            refine lv_tableIn (x := x0) (tgt := 60) hx hb dX5_spelling_1 (by rw [hc_5]; decide) (by rw [hc_5]; decide) (by rw [hc_5]; rfl) (by decide) ?_
            refine va_ldcS hx hb hown (hE.2.2.2.1 4 (by decide)) dX5_spelling_60 ?_
            subst hout; obtain rfl := Option.some.inj hf
            subst hQQ
            exact W.aret (v := .ref (Γ.2.2.2.1 4)) hx hb hr (Or.inl ⟨_, rfl⟩) (Or.inr ⟨_, rfl⟩) (fun t ht hW => ⟨⟨(), _, rfl, trivial, rfl, by rw [ht]; exact hP, hD⟩, hS.F ht⟩) hS.2.2 dX5_spelling_62
          · have hf := vm_neg hc_5 hf
            by_cases hc_6 : x0 = 5
            · have hf := vm_pos hc_6 hf
              refine lv_tableIn (x := x0) (tgt := 63) hx hb dX5_spelling_1 (by rw [hc_6]; decide) (by rw [hc_6]; decide) (by rw [hc_6]; rfl) (by decide) ?_
              refine va_ldcS hx hb hown (hE.2.2.2.1 5 (by decide)) dX5_spelling_63 ?_
              subst hout; obtain rfl := Option.some.inj hf
              subst hQQ
              exact W.aret (v := .ref (Γ.2.2.2.1 5)) hx hb hr (Or.inl ⟨_, rfl⟩) (Or.inr ⟨_, rfl⟩) (fun t ht hW => ⟨⟨(), _, rfl, trivial, rfl, by rw [ht]; exact hP, hD⟩, hS.F ht⟩) hS.2.2 dX5_spelling_65
            · have hf := vm_neg hc_6 hf
              by_cases hc_7 : x0 = 6
              · have hf := vm_pos hc_7 hf
                refine lv_tableIn (x := x0) (tgt := 66) hx hb dX5_spelling_1 (by rw [hc_7]; decide) (by rw [hc_7]; decide) (by rw [hc_7]; rfl) (by decide) ?_
                refine va_ldcS hx hb hown (hE.2.2.2.1 6 (by decide)) dX5_spelling_66 ?_
                subst hout; obtain rfl := Option.some.inj hf
                subst hQQ
                exact W.aret (v := .ref (Γ.2.2.2.1 6)) hx hb hr (Or.inl ⟨_, rfl⟩) (Or.inr ⟨_, rfl⟩) (fun t ht hW => ⟨⟨(), _, rfl, trivial, rfl, by rw [ht]; exact hP, hD⟩, hS.F ht⟩) hS.2.2 dX5_spelling_68
              · have hf := vm_neg hc_7 hf
                by_cases hc_8 : x0 = 7
                · have hf := vm_pos hc_8 hf
                  refine lv_tableIn (x := x0) (tgt := 69) hx hb dX5_spelling_1 (by rw [hc_8]; decide) (by rw [hc_8]; decide) (by rw [hc_8]; rfl) (by decide) ?_
                  refine va_ldcS hx hb hown (hE.2.2.2.1 7 (by decide)) dX5_spelling_69 ?_
                  subst hout; obtain rfl := Option.some.inj hf
                  subst hQQ
                  exact W.aret (v := .ref (Γ.2.2.2.1 7)) hx hb hr (Or.inl ⟨_, rfl⟩) (Or.inr ⟨_, rfl⟩) (fun t ht hW => ⟨⟨(), _, rfl, trivial, rfl, by rw [ht]; exact hP, hD⟩, hS.F ht⟩) hS.2.2 dX5_spelling_71
                · have hf := vm_neg hc_8 hf
                  refine lv_tableOut (x := x0) (tgt := 72) hx hb dX5_spelling_1 (by have z0 : x0.toInt ≠ 0 := vm_neI hc_1 rfl; have z1 : x0.toInt ≠ 1 := vm_neI hc_2 rfl; have z2 : x0.toInt ≠ 2 := vm_neI hc_3 rfl; have z3 : x0.toInt ≠ 3 := vm_neI hc_4 rfl; have z4 : x0.toInt ≠ 4 := vm_neI hc_5 rfl; have z5 : x0.toInt ≠ 5 := vm_neI hc_6 rfl; have z6 : x0.toInt ≠ 6 := vm_neI hc_7 rfl; have z7 : x0.toInt ≠ 7 := vm_neI hc_8 rfl; omega) (by decide) ?_
                  refine va_ldcS hx hb hown (hE.2.2.2.1 8 (by decide)) dX5_spelling_72 ?_
                  subst hout; obtain rfl := Option.some.inj hf
                  subst hQQ
                  exact W.aret (v := .ref (Γ.2.2.2.1 8)) hx hb hr (Or.inl ⟨_, rfl⟩) (Or.inr ⟨_, rfl⟩) (fun t ht hW => ⟨⟨(), _, rfl, trivial, rfl, by rw [ht]; exact hP, hD⟩, hS.F ht⟩) hS.2.2 dX5_spelling_74
theorem f_X5_spelling_lt {x : Int32} {k : Nat} (h : f_X5_spelling x = some k) : k < 9 := by
  unfold f_X5_spelling at h
  repeat' split at h
  all_goals (cases h; decide)
def wd_X5_wordHere (Γ : GE) (q0 q1 q2 d0 : Nat) (isPlateFixed : Int32) (rowsTold : Int32) (text_length : Int32) (text_kind : Int32) (text_first : Int32) (text_fin : Int32) (text_letters : Nat → Int32) : va_W := [(q0, .inr (5, [.ref q1, .ref d0, .int isPlateFixed, .int rowsTold])), (q1, .inr (6, [.ref q2, .int text_length, .int text_kind, .int text_first, .int text_fin])), (q2, .inl (Γ.2.1 0, 120, .inl text_letters))]
def f_X5_wordHere_30  : Option Int32 := some (-1)
def f_X5_wordHere_22 (x1 : Int32) : Option Int32 := some x1
def f_X5_wordHere_2b (text_kind : Int32) (text_first : Int32) (text_fin : Int32) (text_letters : Nat → Int32) (x1 : Int32) (k : (Int32 → Option (Unit ⊕ Int32))) : Option (Unit ⊕ Int32) := if 8 < x1 then (some (Sum.inl ())) else (ob1 (f_X5_spelling x1) (fun r_2 => ob1 (f_X6_isSpelled text_kind text_first text_fin text_letters r_2) (fun r_4 => if r_4 = 0 then (k (x1 + 1)) else (some (Sum.inr x1)))))
def f_X5_wordHere_2s (text_kind : Int32) (text_first : Int32) (text_fin : Int32) (text_letters : Nat → Int32) : Int32 → (Int32 → Option (Unit ⊕ Int32)) → Option (Unit ⊕ Int32) := fun t k => f_X5_wordHere_2b text_kind text_first text_fin text_letters t k
def f_X5_wordHere_2 (text_kind : Int32) (text_first : Int32) (text_fin : Int32) (text_letters : Nat → Int32) (x1 : Int32) : Option Int32 := obx (vm_it (f_X5_wordHere_2s text_kind text_first text_fin text_letters) FU x1) (Sum.elim (un0 (f_X5_wordHere_30)) (fun x1 => f_X5_wordHere_22 x1))
def f_X5_wordHere (text_kind : Int32) (text_first : Int32) (text_fin : Int32) (text_letters : Nat → Int32) : Option Int32 := f_X5_wordHere_2 text_kind text_first text_fin text_letters 0
set_option maxHeartbeats 4000000 in
set_option maxRecDepth 100000 in
theorem c_X5_wordHere (l : Launch) (Γ : GE) (sz : Nat) (q0 q1 q2 d0 : Nat) (isPlateFixed : Int32) (rowsTold : Int32) (text_length : Int32) (text_kind : Int32) (text_first : Int32) (text_fin : Int32) (text_letters : Nat → Int32) (ro : Int32) (hf : f_X5_wordHere text_kind text_first text_fin text_letters = some ro) : MetI l yX5_wordHere wsX5_wordHere ({ frames := 5, cells := 0, slots := 0, locals := 115 } : Room) Γ [.ref q0] (wd_X5_wordHere Γ q0 q1 q2 d0 isPlateFixed rowsTold text_length text_kind text_first text_fin text_letters) (wd_X5_wordHere Γ q0 q1 q2 d0 isPlateFixed rowsTold text_length text_kind text_first text_fin text_letters) sz ro := by
  refine Met.ofW (cc := cX5_wordHere) (maxL := 2) (ret := (some .int)) (by decide) rfl ?_
  intro p e s m args below meth c s₁ B hml hv
  obtain ⟨rfl, hsz, hE, hP, hD⟩ := hv
  have hx := B.exec
  have hb := B.bytes
  have hr := B.returns
  have hts := atoms_spec (ws := wsX5_wordHere) B.pre
  have hown : s.vm.findClass RX5 = some m.cls := findClass_of_methodNamed B.named
  have hlocks := B.notSynchronized
  subst hsz
  generalize hAe : va_A (wd_X5_wordHere Γ q0 q1 q2 d0 isPlateFixed rowsTold text_length text_kind text_first text_fin text_letters) s.heap.size = A at hE hD ⊢
  have hA : ∀ q : Nat, s.heap.size ≤ q → A q := fun q h => by rw [← hAe]; exact Or.inr h
  clear hAe
  have hS : va_S A s.heap s.heap [] := va_S.rf
  have hK := hE.1
  have hl := lv_entry ([.ref q0]) (n := 2) (Nat.le_of_ble_eq_true rfl)
  rw [lg_entry_eq]
  generalize (lg_sl ([.ref q0]) ++ List.replicate (2 - (lg_sl ([.ref q0])).length) Slot.unset).toArray = ls at hl ⊢
  have hl : lv_has ls 2 [(0, .ref q0)] := hl
  have hi5 : ∀ w ∈ u_ws RX5 TX5 4, w ∈ wsX5_wordHere := fun w h => (List.mem_cons_of_mem _ (List.mem_append_left _ (List.mem_append_right _ h)))
  have hi6 : ∀ w ∈ u_ws RX6 TX6 5, w ∈ wsX5_wordHere := fun w h => (List.mem_cons_of_mem _ (List.mem_append_right _ h))
  obtain ⟨out, hout⟩ : ∃ o, o = ro := ⟨_, rfl⟩
  rw [← hout] at hf
  obtain ⟨QQ, hQQ⟩ : ∃ Q, Q = MQ below (va_Qi (fun (r' : Int32) (_ : Unit) => r' = ro) (CQ Γ (wd_X5_wordHere Γ q0 q1 q2 d0 isPlateFixed rowsTold text_length text_kind text_first text_fin text_letters) A) A) (([.ref q0] : List Value).toArray) s 0 0 A := ⟨_, rfl⟩
  show W p l e ({ frames := 5, cells := 0, slots := 0, locals := 115 } : Room) s m (([.ref q0] : List Value).toArray) below meth c s.heap [] 0 0 (MQ below _ (([.ref q0] : List Value).toArray) s 0 0 A) (F0 m 0 ls [])
  rw [← hQQ]
  have K_30 : ∀ {H : Heap} {locs : List Loc} {ls : Array Slot}, va_P Γ.1 vwCl (wd_X5_wordHere Γ q0 q1 q2 d0 isPlateFixed rowsTold text_length text_kind text_first text_fin text_letters) H → va_D A (wd_X5_wordHere Γ q0 q1 q2 d0 isPlateFixed rowsTold text_length text_kind text_first text_fin text_letters) → va_S A s.heap H locs → lv_has ls 2 [] → f_X5_wordHere_30 = some out → W p l e ({ frames := 5, cells := 0, slots := 0, locals := 115 } : Room) s m ([.ref q0] : List Value).toArray below meth c H locs 0 0 QQ (F0 m 30 ls []) := by
    intro H locs ls hP hD hS hl hf
    unfold f_X5_wordHere_30 at hf
    refine lv_iconst (v := (-1)) hx hb dX5_wordHere_30 (by decide) ?_
    subst hout; obtain rfl := Option.some.inj hf
    subst hQQ
    exact W.iret hx hb hr (fun t ht hW => ⟨⟨_, (), rfl, rfl, by rw [ht]; exact hP, hD⟩, hS.F ht⟩) hS.2.2 dX5_wordHere_31
  have K_22 : ∀ (x1 : Int32) {H : Heap} {locs : List Loc} {ls : Array Slot}, va_P Γ.1 vwCl (wd_X5_wordHere Γ q0 q1 q2 d0 isPlateFixed rowsTold text_length text_kind text_first text_fin text_letters) H → va_D A (wd_X5_wordHere Γ q0 q1 q2 d0 isPlateFixed rowsTold text_length text_kind text_first text_fin text_letters) → va_S A s.heap H locs → lv_has ls 2 [(1, .int x1)] → f_X5_wordHere_22 x1 = some out → W p l e ({ frames := 5, cells := 0, slots := 0, locals := 115 } : Room) s m ([.ref q0] : List Value).toArray below meth c H locs 0 0 QQ (F0 m 22 ls []) := by
    intro x1 H locs ls hP hD hS hl hf
    unfold f_X5_wordHere_22 at hf
    refine lv_iload_n hx hb dX5_wordHere_22 rfl (lv_at hl 0 rfl) ?_
    subst hout; obtain rfl := Option.some.inj hf
    subst hQQ
    exact W.iret hx hb hr (fun t ht hW => ⟨⟨_, (), rfl, rfl, by rw [ht]; exact hP, hD⟩, hS.F ht⟩) hS.2.2 dX5_wordHere_23
  have K_2 : ∀ (x1 : Int32) {H : Heap} {locs : List Loc} {ls : Array Slot}, va_P Γ.1 vwCl (wd_X5_wordHere Γ q0 q1 q2 d0 isPlateFixed rowsTold text_length text_kind text_first text_fin text_letters) H → va_D A (wd_X5_wordHere Γ q0 q1 q2 d0 isPlateFixed rowsTold text_length text_kind text_first text_fin text_letters) → va_S A s.heap H locs → lv_has ls 2 [(0, .ref q0), (1, .int x1)] → f_X5_wordHere_2 text_kind text_first text_fin text_letters x1 = some out → W p l e ({ frames := 5, cells := 0, slots := 0, locals := 115 } : Room) s m ([.ref q0] : List Value).toArray below meth c H locs 0 0 QQ (F0 m 2 ls []) := by
    intro x1 H locs ls hP hD hS hl hf
    unfold f_X5_wordHere_2 at hf
    obtain ⟨ex2, h1, hX2⟩ := obx_some hf
    have LP : ∀ (n : Nat) (x1 : Int32)  {H : Heap} {locs : List Loc} {ls : Array Slot}, va_P Γ.1 vwCl (wd_X5_wordHere Γ q0 q1 q2 d0 isPlateFixed rowsTold text_length text_kind text_first text_fin text_letters) H → va_D A (wd_X5_wordHere Γ q0 q1 q2 d0 isPlateFixed rowsTold text_length text_kind text_first text_fin text_letters) → va_S A s.heap H locs → lv_has ls 2 [(0, .ref q0), (1, .int x1)] → vm_it (f_X5_wordHere_2s text_kind text_first text_fin text_letters) n x1 = some ex2 → W p l e ({ frames := 5, cells := 0, slots := 0, locals := 115 } : Room) s m ([.ref q0] : List Value).toArray below meth c H locs 0 0 QQ (F0 m 2 ls []) := by
      clear hP hD hS hl hf h1
      intro n
      induction n with
      | zero => intro x1 H locs ls hP hD hS hl hf; exact (vm_it_0 hf).elim
      | succ n ih =>
        intro x1 H locs ls hP hD hS hl hf
        have hf : f_X5_wordHere_2b text_kind text_first text_fin text_letters x1 (vm_it (f_X5_wordHere_2s text_kind text_first text_fin text_letters) n) = some ex2 := hf
        unfold f_X5_wordHere_2b at hf
        refine lv_iload_n hx hb dX5_wordHere_2 rfl (lv_at hl 1 rfl) ?_
        refine lv_bipush (v := 8) hx hb dX5_wordHere_3 (by decide) ?_
        refine lv_icmp_gt (tgt := 30) hx hb dX5_wordHere_5 (by decide) (fun hc_1 => ?_) (fun hc_1 => ?_)
        · have hf := vm_pos hc_1 hf
          have hX := hX2
          rw [← Option.some.inj hf] at hX
          exact K_30  hP hD hS (lv_sub hl [] rfl) hX
        · have hf := vm_neg hc_1 hf
          refine lv_aload_n hx hb dX5_wordHere_8 rfl (lv_at hl 0 rfl) ?_
          refine va_get (D := Γ.1) (ci := 5) (v := .ref q1) (C := RX5) (T := TX5) (N := 4) hx hb hts hi5 hown hK hP 0 rfl rfl 0 (by decide) (hts (.fieldLink RX5 12 "SandPlates$Teller" "text" "LSandPlates$Text;") (List.mem_of_getElem? (i := 1) rfl)) (fun _ h9 => h9) rfl dX5_wordHere_9 ?_
          refine lv_iload_n hx hb dX5_wordHere_12 rfl (lv_at hl 1 rfl) ?_
          obtain ⟨r_2, hq_3, hf⟩ := ob1_some hf
          refine vm_cSr (isC := []) (wc := (wd_X5_spelling Γ)) (w1 := (wd_X5_spelling Γ)) (As := [.int x1]) (rest := [.ref q1]) ⟨hx, hb, hml, hown, hts⟩ hE hP hD hS hA rfl rfl rfl (c_X5_spelling l Γ _ x1 r_2 hq_3) (va_cwS 1 hts gX5_wordHere_X5_spelling rfl rfl rfl (by decide +kernel) ⟨Nat.le_of_ble_eq_true rfl, Nat.le_of_ble_eq_true rfl⟩) rfl hl.1 rfl (Nat.le_of_ble_eq_true rfl) dX5_wordHere_13 ⟨Nat.zero_le _, Nat.zero_le _⟩ (fun H locs hP hD hS => ?_)
          have hP : va_P Γ.1 vwCl (wd_X5_wordHere Γ q0 q1 q2 d0 isPlateFixed rowsTold text_length text_kind text_first text_fin text_letters) H := hP
          have hD : va_D A (wd_X5_wordHere Γ q0 q1 q2 d0 isPlateFixed rowsTold text_length text_kind text_first text_fin text_letters) := hD
          obtain ⟨r_4, hq_5, hf⟩ := ob1_some hf
          refine vm_cNi (isC := [1, 2]) (wc := (wd_X6_isSpelled Γ q1 q2 text_length text_kind text_first text_fin text_letters)) (w1 := (wd_X6_isSpelled Γ q1 q2 text_length text_kind text_first text_fin text_letters)) (As := [.ref (Γ.2.2.2.1 r_2)]) (rest := []) ⟨hx, hb, hml, hown, hts⟩ hE hP hD hS hA rfl rfl rfl (c_X6_isSpelled l Γ _ q1 q2 text_length text_kind text_first text_fin text_letters r_2 (f_X5_spelling_lt hq_3) r_4 hq_5) ⟨va_cnB 1 hts ggX5_wordHere_X6_isSpelled rfl rfl rfl (nmX5_79 hE.2.1) (hts (.initialized RX6) (List.mem_of_getElem? (i := 7) rfl)) (by decide +kernel) ⟨Nat.le_of_ble_eq_true rfl, Nat.le_of_ble_eq_true rfl⟩, (hts (.instanceMethod yX6_isSpelled) (List.mem_of_getElem? (i := 6) rfl)), (hts (.selects RX6 yX6_isSpelled yX6_isSpelled) (List.mem_of_getElem? (i := 8) rfl))⟩ (va_recv (ci := 6) (q0 := 1) hK hP rfl rfl) rfl hl.1 rfl (Nat.le_of_ble_eq_true rfl) dX5_wordHere_16 ⟨Nat.zero_le _, Nat.zero_le _⟩ (fun H locs hP hD hS => ?_)
          have hP : va_P Γ.1 vwCl (wd_X5_wordHere Γ q0 q1 q2 d0 isPlateFixed rowsTold text_length text_kind text_first text_fin text_letters) H := hP
          have hD : va_D A (wd_X5_wordHere Γ q0 q1 q2 d0 isPlateFixed rowsTold text_length text_kind text_first text_fin text_letters) := hD
          refine lv_if_eq (tgt := 24) hx hb dX5_wordHere_19 (by decide) (fun hc_6 => ?_) (fun hc_6 => ?_)
          · have hf := vm_pos hc_6 hf
            refine lv_iinc (v := (x1 + 1)) (lv' := [(1, .int (x1 + 1)), (0, .ref q0)]) hx hb dX5_wordHere_24 hl (k := 1) rfl rfl (by decide) rfl (fun ls hl => ?_)
            refine lv_goto (tgt := 2) hx hb dX5_wordHere_27 (by decide) ?_
            exact ih (x1 + 1) hP hD hS (lv_sub hl [1, 0] rfl) hf
          · have hf := vm_neg hc_6 hf
            have hX := hX2
            rw [← Option.some.inj hf] at hX
            exact K_22 x1 hP hD hS (lv_sub hl [1] rfl) hX
    exact LP FU x1 hP hD hS hl h1
  unfold f_X5_wordHere at hf
  refine lv_iconst (v := 0) hx hb dX5_wordHere_0 (by decide) ?_
  refine lv_istore_n (lv' := [(1, .int 0), (0, .ref q0)]) hx hb dX5_wordHere_1 rfl hl (by decide) rfl (fun ls hl => ?_)
  exact K_2 0 hP hD hS (lv_sub hl [1, 0] rfl) hf
def wd_X5_readAll (Γ : GE) (q0 q1 q2 q3 q4 q5 q6 : Nat) (isPlateFixed : Int32) (rowsTold : Int32) (text_length : Int32) (text_kind : Int32) (text_first : Int32) (text_fin : Int32) (text_letters : Nat → Int32) (plate_columns : Int32) (plate_rows : Int32) (plate_numbers : Nat → Int32) (plate_figure : Nat → Int32) (plate_grains : Nat → Int32) : va_W := [(q0, .inr (5, [.ref q1, .ref q3, .int isPlateFixed, .int rowsTold])), (q1, .inr (6, [.ref q2, .int text_length, .int text_kind, .int text_first, .int text_fin])), (q2, .inl (Γ.2.1 0, 120, .inl text_letters)), (q3, .inr (2, [.int plate_columns, .int plate_rows, .ref q4, .ref q5, .ref q6])), (q4, .inl (Γ.2.1 0, 7, .inl plate_numbers)), (q5, .inl (Γ.2.1 0, 36, .inl plate_figure)), (q6, .inl (Γ.2.1 0, 36, .inl plate_grains))]
def f_X5_readAll_66 (isPlateFixed : Int32) (rowsTold : Int32) (text_kind : Int32) (text_first : Int32) (text_fin : Int32) (plate_columns : Int32) (plate_rows : Int32) (plate_numbers : Nat → Int32) (plate_figure : Nat → Int32) (plate_grains : Nat → Int32) : Option (Int32 × Int32 × Int32 × Int32 × Int32 × Int32 × Int32 × Int32 × (Nat → Int32) × (Nat → Int32) × (Nat → Int32)) := some (((-10) - text_first), isPlateFixed, rowsTold, text_kind, text_first, text_fin, plate_columns, plate_rows, plate_numbers, plate_figure, plate_grains)
def f_X5_readAll_49 (isPlateFixed : Int32) (rowsTold : Int32) (text_kind : Int32) (text_first : Int32) (text_fin : Int32) (plate_columns : Int32) (plate_rows : Int32) (plate_numbers : Nat → Int32) (plate_figure : Nat → Int32) (plate_grains : Nat → Int32) : Option (Int32 × Int32 × Int32 × Int32 × Int32 × Int32 × Int32 × Int32 × (Nat → Int32) × (Nat → Int32) × (Nat → Int32)) := some (((-10) - text_first), isPlateFixed, rowsTold, text_kind, text_first, text_fin, plate_columns, plate_rows, plate_numbers, plate_figure, plate_grains)
def f_X5_readAll_29 (isPlateFixed : Int32) (rowsTold : Int32) (text_kind : Int32) (text_first : Int32) (text_fin : Int32) (plate_columns : Int32) (plate_rows : Int32) (plate_numbers : Nat → Int32) (plate_figure : Nat → Int32) (plate_grains : Nat → Int32) (x1 : Int32) : Option (Int32 × Int32 × Int32 × Int32 × Int32 × Int32 × Int32 × Int32 × (Nat → Int32) × (Nat → Int32) × (Nat → Int32)) := some (x1, isPlateFixed, rowsTold, text_kind, text_first, text_fin, plate_columns, plate_rows, plate_numbers, plate_figure, plate_grains)
def f_X5_readAll_6b (text_length : Int32) (text_letters : Nat → Int32) (plate_grains : Nat → Int32) (isPlateFixed : Int32) (rowsTold : Int32) (text_kind : Int32) (text_first : Int32) (text_fin : Int32) (plate_columns : Int32) (plate_rows : Int32) (plate_numbers : Nat → Int32) (plate_figure : Nat → Int32) (x1 : Int32) (k : ((Int32 × Int32 × Int32 × Int32 × Int32 × Int32 × Int32 × (Nat → Int32) × (Nat → Int32) × Int32) → Option ((Int32 × Int32 × Int32 × Int32 × Int32 × Int32 × Int32 × (Nat → Int32) × (Nat → Int32)) ⊕ ((Int32 × Int32 × Int32 × Int32 × Int32 × Int32 × Int32 × (Nat → Int32) × (Nat → Int32) × Int32) ⊕ (Int32 × Int32 × Int32 × Int32 × Int32 × Int32 × Int32 × (Nat → Int32) × (Nat → Int32)))))) : Option ((Int32 × Int32 × Int32 × Int32 × Int32 × Int32 × Int32 × (Nat → Int32) × (Nat → Int32)) ⊕ ((Int32 × Int32 × Int32 × Int32 × Int32 × Int32 × Int32 × (Nat → Int32) × (Nat → Int32) × Int32) ⊕ (Int32 × Int32 × Int32 × Int32 × Int32 × Int32 × Int32 × (Nat → Int32) × (Nat → Int32)))) := if 120 < x1 then (some (Sum.inl (isPlateFixed, rowsTold, text_kind, text_first, text_fin, plate_columns, plate_rows, plate_numbers, plate_figure))) else (ob3 (f_X6_advance text_length text_fin text_letters) (fun text_kind_2 text_first_3 text_fin_4 => if text_kind_2 = 0 then (some (Sum.inr (Sum.inl (isPlateFixed, rowsTold, text_kind_2, text_first_3, text_fin_4, plate_columns, plate_rows, plate_numbers, plate_figure, x1)))) else (ob1 (f_X5_wordHere text_kind_2 text_first_3 text_fin_4 text_letters) (fun r_7 => ob10 (f_X5_readTold isPlateFixed rowsTold text_length text_kind_2 text_first_3 text_fin_4 text_letters plate_columns plate_rows plate_numbers plate_figure r_7) (fun r_9 isPlateFixed_10 rowsTold_11 text_kind_12 text_first_13 text_fin_14 plate_columns_15 plate_rows_16 plate_numbers_17 plate_figure_18 => if r_9 = 0 then (some (Sum.inr (Sum.inr (isPlateFixed_10, rowsTold_11, text_kind_12, text_first_13, text_fin_14, plate_columns_15, plate_rows_16, plate_numbers_17, plate_figure_18)))) else (ob4 (f_X5_readSemicolon text_length text_fin_14 text_letters) (fun r_21 text_kind_22 text_first_23 text_fin_24 => if r_21 = 0 then (some (Sum.inr (Sum.inr (isPlateFixed_10, rowsTold_11, text_kind_22, text_first_23, text_fin_24, plate_columns_15, plate_rows_16, plate_numbers_17, plate_figure_18)))) else (k (isPlateFixed_10, rowsTold_11, text_kind_22, text_first_23, text_fin_24, plate_columns_15, plate_rows_16, plate_numbers_17, plate_figure_18, (x1 + 1))))))))))
def f_X5_readAll_6s (text_length : Int32) (text_letters : Nat → Int32) (plate_grains : Nat → Int32) : (Int32 × Int32 × Int32 × Int32 × Int32 × Int32 × Int32 × (Nat → Int32) × (Nat → Int32) × Int32) → ((Int32 × Int32 × Int32 × Int32 × Int32 × Int32 × Int32 × (Nat → Int32) × (Nat → Int32) × Int32) → Option ((Int32 × Int32 × Int32 × Int32 × Int32 × Int32 × Int32 × (Nat → Int32) × (Nat → Int32)) ⊕ ((Int32 × Int32 × Int32 × Int32 × Int32 × Int32 × Int32 × (Nat → Int32) × (Nat → Int32) × Int32) ⊕ (Int32 × Int32 × Int32 × Int32 × Int32 × Int32 × Int32 × (Nat → Int32) × (Nat → Int32))))) → Option ((Int32 × Int32 × Int32 × Int32 × Int32 × Int32 × Int32 × (Nat → Int32) × (Nat → Int32)) ⊕ ((Int32 × Int32 × Int32 × Int32 × Int32 × Int32 × Int32 × (Nat → Int32) × (Nat → Int32) × Int32) ⊕ (Int32 × Int32 × Int32 × Int32 × Int32 × Int32 × Int32 × (Nat → Int32) × (Nat → Int32)))) := fun t k => f_X5_readAll_6b text_length text_letters plate_grains t.1 t.2.1 t.2.2.1 t.2.2.2.1 t.2.2.2.2.1 t.2.2.2.2.2.1 t.2.2.2.2.2.2.1 t.2.2.2.2.2.2.2.1 t.2.2.2.2.2.2.2.2.1 t.2.2.2.2.2.2.2.2.2 k
def f_X5_readAll_6 (isPlateFixed : Int32) (rowsTold : Int32) (text_length : Int32) (text_kind : Int32) (text_first : Int32) (text_fin : Int32) (text_letters : Nat → Int32) (plate_columns : Int32) (plate_rows : Int32) (plate_numbers : Nat → Int32) (plate_figure : Nat → Int32) (plate_grains : Nat → Int32) (x1 : Int32) : Option (Int32 × Int32 × Int32 × Int32 × Int32 × Int32 × Int32 × Int32 × (Nat → Int32) × (Nat → Int32) × (Nat → Int32)) := obx (vm_it (f_X5_readAll_6s text_length text_letters plate_grains) FU (isPlateFixed, rowsTold, text_kind, text_first, text_fin, plate_columns, plate_rows, plate_numbers, plate_figure, x1)) (Sum.elim (un9 (fun isPlateFixed rowsTold text_kind text_first text_fin plate_columns plate_rows plate_numbers plate_figure => f_X5_readAll_66 isPlateFixed rowsTold text_kind text_first text_fin plate_columns plate_rows plate_numbers plate_figure plate_grains)) (Sum.elim (un10 (fun isPlateFixed rowsTold text_kind text_first text_fin plate_columns plate_rows plate_numbers plate_figure x1 => f_X5_readAll_29 isPlateFixed rowsTold text_kind text_first text_fin plate_columns plate_rows plate_numbers plate_figure plate_grains x1)) (un9 (fun isPlateFixed rowsTold text_kind text_first text_fin plate_columns plate_rows plate_numbers plate_figure => f_X5_readAll_49 isPlateFixed rowsTold text_kind text_first text_fin plate_columns plate_rows plate_numbers plate_figure plate_grains))))
def f_X5_readAll (text_length : Int32) (text_kind : Int32) (text_first : Int32) (text_letters : Nat → Int32) (plate_numbers : Nat → Int32) (plate_figure : Nat → Int32) (plate_grains : Nat → Int32) : Option (Int32 × Int32 × Int32 × Int32 × Int32 × Int32 × Int32 × Int32 × (Nat → Int32) × (Nat → Int32) × (Nat → Int32)) := ob8 (f_X5_startAnew plate_numbers plate_figure plate_grains) (fun isPlateFixed_27 rowsTold_28 text_fin_29 plate_columns_30 plate_rows_31 plate_numbers_32 plate_figure_33 plate_grains_34 => f_X5_readAll_6 isPlateFixed_27 rowsTold_28 text_length text_kind text_first text_fin_29 text_letters plate_columns_30 plate_rows_31 plate_numbers_32 plate_figure_33 plate_grains_34 0)
set_option maxHeartbeats 4000000 in
set_option maxRecDepth 100000 in
theorem c_X5_readAll (l : Launch) (Γ : GE) (sz : Nat) (q0 q1 q2 q3 q4 q5 q6 : Nat) (isPlateFixed : Int32) (rowsTold : Int32) (text_length : Int32) (text_kind : Int32) (text_first : Int32) (text_fin : Int32) (text_letters : Nat → Int32) (plate_columns : Int32) (plate_rows : Int32) (plate_numbers : Nat → Int32) (plate_figure : Nat → Int32) (plate_grains : Nat → Int32) (ro : Int32) (o_isPlateFixed : Int32) (o_rowsTold : Int32) (o_text_kind : Int32) (o_text_first : Int32) (o_text_fin : Int32) (o_plate_columns : Int32) (o_plate_rows : Int32) (o_plate_numbers : Nat → Int32) (o_plate_figure : Nat → Int32) (o_plate_grains : Nat → Int32) (hf : f_X5_readAll text_length text_kind text_first text_letters plate_numbers plate_figure plate_grains = some (ro, o_isPlateFixed, o_rowsTold, o_text_kind, o_text_first, o_text_fin, o_plate_columns, o_plate_rows, o_plate_numbers, o_plate_figure, o_plate_grains)) : MetI l yX5_readAll wsX5_readAll ({ frames := 6, cells := 0, slots := 0, locals := 136 } : Room) Γ [.ref q0] (wd_X5_readAll Γ q0 q1 q2 q3 q4 q5 q6 isPlateFixed rowsTold text_length text_kind text_first text_fin text_letters plate_columns plate_rows plate_numbers plate_figure plate_grains) (wd_X5_readAll Γ q0 q1 q2 q3 q4 q5 q6 o_isPlateFixed o_rowsTold text_length o_text_kind o_text_first o_text_fin text_letters o_plate_columns o_plate_rows o_plate_numbers o_plate_figure o_plate_grains) sz ro := by
  refine Met.ofW (cc := cX5_readAll) (maxL := 2) (ret := (some .int)) (by decide) rfl ?_
  intro p e s m args below meth c s₁ B hml hv
  obtain ⟨rfl, hsz, hE, hP, hD⟩ := hv
  have hx := B.exec
  have hb := B.bytes
  have hr := B.returns
  have hts := atoms_spec (ws := wsX5_readAll) B.pre
  have hown : s.vm.findClass RX5 = some m.cls := findClass_of_methodNamed B.named
  have hlocks := B.notSynchronized
  subst hsz
  generalize hAe : va_A (wd_X5_readAll Γ q0 q1 q2 q3 q4 q5 q6 isPlateFixed rowsTold text_length text_kind text_first text_fin text_letters plate_columns plate_rows plate_numbers plate_figure plate_grains) s.heap.size = A at hE hD ⊢
  have hA : ∀ q : Nat, s.heap.size ≤ q → A q := fun q h => by rw [← hAe]; exact Or.inr h
  clear hAe
  have hS : va_S A s.heap s.heap [] := va_S.rf
  have hK := hE.1
  have hl := lv_entry ([.ref q0]) (n := 2) (Nat.le_of_ble_eq_true rfl)
  rw [lg_entry_eq]
  generalize (lg_sl ([.ref q0]) ++ List.replicate (2 - (lg_sl ([.ref q0])).length) Slot.unset).toArray = ls at hl ⊢
  have hl : lv_has ls 2 [(0, .ref q0)] := hl
  have hi2 : ∀ w ∈ u_ws RX2 TX2 5, w ∈ wsX5_readAll := fun w h => (List.mem_cons_of_mem _ (List.mem_append_right _ h))
  have hi5 : ∀ w ∈ u_ws RX5 TX5 4, w ∈ wsX5_readAll := fun w h => (List.mem_cons_of_mem _ (List.mem_append_left _ (List.mem_append_left _ (List.mem_append_right _ h))))
  have hi6 : ∀ w ∈ u_ws RX6 TX6 5, w ∈ wsX5_readAll := fun w h => (List.mem_cons_of_mem _ (List.mem_append_left _ (List.mem_append_right _ h)))
  obtain ⟨out, hout⟩ : ∃ o, o = (ro, o_isPlateFixed, o_rowsTold, o_text_kind, o_text_first, o_text_fin, o_plate_columns, o_plate_rows, o_plate_numbers, o_plate_figure, o_plate_grains) := ⟨_, rfl⟩
  rw [← hout] at hf
  obtain ⟨QQ, hQQ⟩ : ∃ Q, Q = MQ below (va_Qi (fun (r' : Int32) (_ : Unit) => r' = ro) (CQ Γ (wd_X5_readAll Γ q0 q1 q2 q3 q4 q5 q6 o_isPlateFixed o_rowsTold text_length o_text_kind o_text_first o_text_fin text_letters o_plate_columns o_plate_rows o_plate_numbers o_plate_figure o_plate_grains) A) A) (([.ref q0] : List Value).toArray) s 0 0 A := ⟨_, rfl⟩
  show W p l e ({ frames := 6, cells := 0, slots := 0, locals := 136 } : Room) s m (([.ref q0] : List Value).toArray) below meth c s.heap [] 0 0 (MQ below _ (([.ref q0] : List Value).toArray) s 0 0 A) (F0 m 0 ls [])
  rw [← hQQ]
  have K_66 : ∀ (isPlateFixed : Int32) (rowsTold : Int32) (text_kind : Int32) (text_first : Int32) (text_fin : Int32) (plate_columns : Int32) (plate_rows : Int32) (plate_numbers : Nat → Int32) (plate_figure : Nat → Int32) (plate_grains : Nat → Int32) {H : Heap} {locs : List Loc} {ls : Array Slot}, va_P Γ.1 vwCl (wd_X5_readAll Γ q0 q1 q2 q3 q4 q5 q6 isPlateFixed rowsTold text_length text_kind text_first text_fin text_letters plate_columns plate_rows plate_numbers plate_figure plate_grains) H → va_D A (wd_X5_readAll Γ q0 q1 q2 q3 q4 q5 q6 isPlateFixed rowsTold text_length text_kind text_first text_fin text_letters plate_columns plate_rows plate_numbers plate_figure plate_grains) → va_S A s.heap H locs → lv_has ls 2 [(0, .ref q0)] → f_X5_readAll_66 isPlateFixed rowsTold text_kind text_first text_fin plate_columns plate_rows plate_numbers plate_figure plate_grains = some out → W p l e ({ frames := 6, cells := 0, slots := 0, locals := 136 } : Room) s m ([.ref q0] : List Value).toArray below meth c H locs 0 0 QQ (F0 m 66 ls []) := by
    intro isPlateFixed rowsTold text_kind text_first text_fin plate_columns plate_rows plate_numbers plate_figure plate_grains H locs ls hP hD hS hl hf
    unfold f_X5_readAll_66 at hf
    refine lv_bipush (v := (-10)) hx hb dX5_readAll_66 (by decide) ?_
    refine lv_aload_n hx hb dX5_readAll_68 rfl (lv_at hl 0 rfl) ?_
    refine va_get (D := Γ.1) (ci := 5) (v := .ref q1) (C := RX5) (T := TX5) (N := 4) hx hb hts hi5 hown hK hP 0 rfl rfl 0 (by decide) (hts (.fieldLink RX5 12 "SandPlates$Teller" "text" "LSandPlates$Text;") (List.mem_of_getElem? (i := 1) rfl)) (fun _ h9 => h9) rfl dX5_readAll_69 ?_
    refine va_getN (D := Γ.1) (ci := 6) (v := .int text_first) (C := RX6) (T := TX6) (N := 5) hx hb hts hi6 hown hK hP 1 rfl rfl 3 (by decide) (va_Nw.use rfl (nfX5_47 hE.2.1)) (fun _ h9 => h9) rfl dX5_readAll_72 ?_
    refine lv_isub hx hb dX5_readAll_75 ?_
    subst hout; obtain ⟨rfl, rfl, rfl, rfl, rfl, rfl, rfl, rfl, rfl, rfl, rfl⟩ := rt11 hf
    subst hQQ
    exact W.iret hx hb hr (fun t ht hW => ⟨⟨_, (), rfl, rfl, by rw [ht]; exact hP, hD⟩, hS.F ht⟩) hS.2.2 dX5_readAll_76
  have K_49 : ∀ (isPlateFixed : Int32) (rowsTold : Int32) (text_kind : Int32) (text_first : Int32) (text_fin : Int32) (plate_columns : Int32) (plate_rows : Int32) (plate_numbers : Nat → Int32) (plate_figure : Nat → Int32) (plate_grains : Nat → Int32) {H : Heap} {locs : List Loc} {ls : Array Slot}, va_P Γ.1 vwCl (wd_X5_readAll Γ q0 q1 q2 q3 q4 q5 q6 isPlateFixed rowsTold text_length text_kind text_first text_fin text_letters plate_columns plate_rows plate_numbers plate_figure plate_grains) H → va_D A (wd_X5_readAll Γ q0 q1 q2 q3 q4 q5 q6 isPlateFixed rowsTold text_length text_kind text_first text_fin text_letters plate_columns plate_rows plate_numbers plate_figure plate_grains) → va_S A s.heap H locs → lv_has ls 2 [(0, .ref q0)] → f_X5_readAll_49 isPlateFixed rowsTold text_kind text_first text_fin plate_columns plate_rows plate_numbers plate_figure plate_grains = some out → W p l e ({ frames := 6, cells := 0, slots := 0, locals := 136 } : Room) s m ([.ref q0] : List Value).toArray below meth c H locs 0 0 QQ (F0 m 49 ls []) := by
    intro isPlateFixed rowsTold text_kind text_first text_fin plate_columns plate_rows plate_numbers plate_figure plate_grains H locs ls hP hD hS hl hf
    unfold f_X5_readAll_49 at hf
    refine lv_bipush (v := (-10)) hx hb dX5_readAll_49 (by decide) ?_
    refine lv_aload_n hx hb dX5_readAll_51 rfl (lv_at hl 0 rfl) ?_
    refine va_get (D := Γ.1) (ci := 5) (v := .ref q1) (C := RX5) (T := TX5) (N := 4) hx hb hts hi5 hown hK hP 0 rfl rfl 0 (by decide) (hts (.fieldLink RX5 12 "SandPlates$Teller" "text" "LSandPlates$Text;") (List.mem_of_getElem? (i := 1) rfl)) (fun _ h9 => h9) rfl dX5_readAll_52 ?_
    refine va_getN (D := Γ.1) (ci := 6) (v := .int text_first) (C := RX6) (T := TX6) (N := 5) hx hb hts hi6 hown hK hP 1 rfl rfl 3 (by decide) (va_Nw.use rfl (nfX5_47 hE.2.1)) (fun _ h9 => h9) rfl dX5_readAll_55 ?_
    refine lv_isub hx hb dX5_readAll_58 ?_
    subst hout; obtain ⟨rfl, rfl, rfl, rfl, rfl, rfl, rfl, rfl, rfl, rfl, rfl⟩ := rt11 hf
    subst hQQ
    exact W.iret hx hb hr (fun t ht hW => ⟨⟨_, (), rfl, rfl, by rw [ht]; exact hP, hD⟩, hS.F ht⟩) hS.2.2 dX5_readAll_59
  have K_29 : ∀ (isPlateFixed : Int32) (rowsTold : Int32) (text_kind : Int32) (text_first : Int32) (text_fin : Int32) (plate_columns : Int32) (plate_rows : Int32) (plate_numbers : Nat → Int32) (plate_figure : Nat → Int32) (plate_grains : Nat → Int32) (x1 : Int32) {H : Heap} {locs : List Loc} {ls : Array Slot}, va_P Γ.1 vwCl (wd_X5_readAll Γ q0 q1 q2 q3 q4 q5 q6 isPlateFixed rowsTold text_length text_kind text_first text_fin text_letters plate_columns plate_rows plate_numbers plate_figure plate_grains) H → va_D A (wd_X5_readAll Γ q0 q1 q2 q3 q4 q5 q6 isPlateFixed rowsTold text_length text_kind text_first text_fin text_letters plate_columns plate_rows plate_numbers plate_figure plate_grains) → va_S A s.heap H locs → lv_has ls 2 [(1, .int x1)] → f_X5_readAll_29 isPlateFixed rowsTold text_kind text_first text_fin plate_columns plate_rows plate_numbers plate_figure plate_grains x1 = some out → W p l e ({ frames := 6, cells := 0, slots := 0, locals := 136 } : Room) s m ([.ref q0] : List Value).toArray below meth c H locs 0 0 QQ (F0 m 29 ls []) := by
    intro isPlateFixed rowsTold text_kind text_first text_fin plate_columns plate_rows plate_numbers plate_figure plate_grains x1 H locs ls hP hD hS hl hf
    unfold f_X5_readAll_29 at hf
    refine lv_iload_n hx hb dX5_readAll_29 rfl (lv_at hl 0 rfl) ?_
    subst hout; obtain ⟨rfl, rfl, rfl, rfl, rfl, rfl, rfl, rfl, rfl, rfl, rfl⟩ := rt11 hf
    subst hQQ
    exact W.iret hx hb hr (fun t ht hW => ⟨⟨_, (), rfl, rfl, by rw [ht]; exact hP, hD⟩, hS.F ht⟩) hS.2.2 dX5_readAll_30
  have K_6 : ∀ (isPlateFixed : Int32) (rowsTold : Int32) (text_kind : Int32) (text_first : Int32) (text_fin : Int32) (plate_columns : Int32) (plate_rows : Int32) (plate_numbers : Nat → Int32) (plate_figure : Nat → Int32) (plate_grains : Nat → Int32) (x1 : Int32) {H : Heap} {locs : List Loc} {ls : Array Slot}, va_P Γ.1 vwCl (wd_X5_readAll Γ q0 q1 q2 q3 q4 q5 q6 isPlateFixed rowsTold text_length text_kind text_first text_fin text_letters plate_columns plate_rows plate_numbers plate_figure plate_grains) H → va_D A (wd_X5_readAll Γ q0 q1 q2 q3 q4 q5 q6 isPlateFixed rowsTold text_length text_kind text_first text_fin text_letters plate_columns plate_rows plate_numbers plate_figure plate_grains) → va_S A s.heap H locs → lv_has ls 2 [(0, .ref q0), (1, .int x1)] → f_X5_readAll_6 isPlateFixed rowsTold text_length text_kind text_first text_fin text_letters plate_columns plate_rows plate_numbers plate_figure plate_grains x1 = some out → W p l e ({ frames := 6, cells := 0, slots := 0, locals := 136 } : Room) s m ([.ref q0] : List Value).toArray below meth c H locs 0 0 QQ (F0 m 6 ls []) := by
    intro isPlateFixed rowsTold text_kind text_first text_fin plate_columns plate_rows plate_numbers plate_figure plate_grains x1 H locs ls hP hD hS hl hf
    unfold f_X5_readAll_6 at hf
    obtain ⟨ex6, h1, hX6⟩ := obx_some hf
    have LP : ∀ (n : Nat) (isPlateFixed : Int32) (rowsTold : Int32) (text_kind : Int32) (text_first : Int32) (text_fin : Int32) (plate_columns : Int32) (plate_rows : Int32) (plate_numbers : Nat → Int32) (plate_figure : Nat → Int32) (x1 : Int32)  {H : Heap} {locs : List Loc} {ls : Array Slot}, va_P Γ.1 vwCl (wd_X5_readAll Γ q0 q1 q2 q3 q4 q5 q6 isPlateFixed rowsTold text_length text_kind text_first text_fin text_letters plate_columns plate_rows plate_numbers plate_figure plate_grains) H → va_D A (wd_X5_readAll Γ q0 q1 q2 q3 q4 q5 q6 isPlateFixed rowsTold text_length text_kind text_first text_fin text_letters plate_columns plate_rows plate_numbers plate_figure plate_grains) → va_S A s.heap H locs → lv_has ls 2 [(0, .ref q0), (1, .int x1)] → vm_it (f_X5_readAll_6s text_length text_letters plate_grains) n (isPlateFixed, rowsTold, text_kind, text_first, text_fin, plate_columns, plate_rows, plate_numbers, plate_figure, x1) = some ex6 → W p l e ({ frames := 6, cells := 0, slots := 0, locals := 136 } : Room) s m ([.ref q0] : List Value).toArray below meth c H locs 0 0 QQ (F0 m 6 ls []) := by
      clear hP hD hS hl hf h1
      intro n
      induction n with
      | zero => intro isPlateFixed rowsTold text_kind text_first text_fin plate_columns plate_rows plate_numbers plate_figure x1 H locs ls hP hD hS hl hf; exact (vm_it_0 hf).elim
      | succ n ih =>
        intro isPlateFixed rowsTold text_kind text_first text_fin plate_columns plate_rows plate_numbers plate_figure x1 H locs ls hP hD hS hl hf
        have hf : f_X5_readAll_6b text_length text_letters plate_grains isPlateFixed rowsTold text_kind text_first text_fin plate_columns plate_rows plate_numbers plate_figure x1 (vm_it (f_X5_readAll_6s text_length text_letters plate_grains) n) = some ex6 := hf
        unfold f_X5_readAll_6b at hf
        refine lv_iload_n hx hb dX5_readAll_6 rfl (lv_at hl 1 rfl) ?_
        refine lv_bipush (v := 120) hx hb dX5_readAll_7 (by decide) ?_
        refine lv_icmp_gt (tgt := 66) hx hb dX5_readAll_9 (by decide) (fun hc_1 => ?_) (fun hc_1 => ?_)
        · have hf := vm_pos hc_1 hf
          have hX := hX6
          rw [← Option.some.inj hf] at hX
          exact K_66 isPlateFixed rowsTold text_kind text_first text_fin plate_columns plate_rows plate_numbers plate_figure plate_grains hP hD hS (lv_sub hl [0] rfl) hX
        · have hf := vm_neg hc_1 hf
          refine lv_aload_n hx hb dX5_readAll_12 rfl (lv_at hl 0 rfl) ?_
          refine va_get (D := Γ.1) (ci := 5) (v := .ref q1) (C := RX5) (T := TX5) (N := 4) hx hb hts hi5 hown hK hP 0 rfl rfl 0 (by decide) (hts (.fieldLink RX5 12 "SandPlates$Teller" "text" "LSandPlates$Text;") (List.mem_of_getElem? (i := 1) rfl)) (fun _ h9 => h9) rfl dX5_readAll_13 ?_
          obtain ⟨text_kind_2, text_first_3, text_fin_4, hq_5, hf⟩ := ob3_some hf
          refine vm_cNv (isC := [1, 2]) (wc := (wd_X6_advance Γ q1 q2 text_length text_kind text_first text_fin text_letters)) (w1 := (wd_X6_advance Γ q1 q2 text_length text_kind_2 text_first_3 text_fin_4 text_letters)) (As := []) (rest := []) ⟨hx, hb, hml, hown, hts⟩ hE hP hD hS hA rfl rfl rfl (c_X6_advance l Γ _ q1 q2 text_length text_kind text_first text_fin text_letters text_kind_2 text_first_3 text_fin_4 hq_5) ⟨va_cnB 0 hts ggX5_readAll_X6_advance rfl rfl rfl (nmX5_28 hE.2.1) (hts (.initialized RX6) (List.mem_of_getElem? (i := 11) rfl)) (by decide +kernel) ⟨Nat.le_of_ble_eq_true rfl, Nat.le_of_ble_eq_true rfl⟩, (hts (.instanceMethod yX6_advance) (List.mem_of_getElem? (i := 36) rfl)), (hts (.selects RX6 yX6_advance yX6_advance) (List.mem_of_getElem? (i := 37) rfl))⟩ (va_recv (ci := 6) (q0 := 1) hK hP rfl rfl) rfl hl.1 rfl (Nat.le_of_ble_eq_true rfl) dX5_readAll_16 ⟨Nat.zero_le _, Nat.zero_le _⟩ (fun H locs hP hD hS => ?_)
          have hP : va_P Γ.1 vwCl (wd_X5_readAll Γ q0 q1 q2 q3 q4 q5 q6 isPlateFixed rowsTold text_length text_kind_2 text_first_3 text_fin_4 text_letters plate_columns plate_rows plate_numbers plate_figure plate_grains) H := hP
          have hD : va_D A (wd_X5_readAll Γ q0 q1 q2 q3 q4 q5 q6 isPlateFixed rowsTold text_length text_kind_2 text_first_3 text_fin_4 text_letters plate_columns plate_rows plate_numbers plate_figure plate_grains) := hD
          refine lv_aload_n hx hb dX5_readAll_19 rfl (lv_at hl 0 rfl) ?_
          refine va_get (D := Γ.1) (ci := 5) (v := .ref q1) (C := RX5) (T := TX5) (N := 4) hx hb hts hi5 hown hK hP 0 rfl rfl 0 (by decide) (hts (.fieldLink RX5 12 "SandPlates$Teller" "text" "LSandPlates$Text;") (List.mem_of_getElem? (i := 1) rfl)) (fun _ h9 => h9) rfl dX5_readAll_20 ?_
          refine va_getN (D := Γ.1) (ci := 6) (v := .int text_kind_2) (C := RX6) (T := TX6) (N := 5) hx hb hts hi6 hown hK hP 1 rfl rfl 2 (by decide) (va_Nw.use rfl (nfX5_31 hE.2.1)) (fun _ h9 => h9) rfl dX5_readAll_23 ?_
          refine lv_if_ne (tgt := 31) hx hb dX5_readAll_26 (by decide) (fun hc_6 => ?_) (fun hc_6 => ?_)
          · have hf := vm_neg hc_6 hf
            refine lv_aload_n hx hb dX5_readAll_31 rfl (lv_at hl 0 rfl) ?_
            refine lv_aload_n hx hb dX5_readAll_32 rfl (lv_at hl 0 rfl) ?_
            obtain ⟨r_7, hq_8, hf⟩ := ob1_some hf
            refine vm_cVi (isC := [0, 1, 2]) (wc := (wd_X5_wordHere Γ q0 q1 q2 q3 isPlateFixed rowsTold text_length text_kind_2 text_first_3 text_fin_4 text_letters)) (w1 := (wd_X5_wordHere Γ q0 q1 q2 q3 isPlateFixed rowsTold text_length text_kind_2 text_first_3 text_fin_4 text_letters)) (As := []) (rest := [.ref q0]) ⟨hx, hb, hml, hown, hts⟩ hE hP hD hS hA rfl rfl rfl (c_X5_wordHere l Γ _ q0 q1 q2 q3 isPlateFixed rowsTold text_length text_kind_2 text_first_3 text_fin_4 text_letters r_7 hq_8) (cwV 0 hts gX5_readAll_X5_wordHere rfl rfl rfl (by decide +kernel) ⟨Nat.le_of_ble_eq_true rfl, Nat.le_of_ble_eq_true rfl⟩) (va_recv (ci := 5) (q0 := 0) hK hP rfl rfl) rfl hl.1 rfl (Nat.le_of_ble_eq_true rfl) dX5_readAll_33 ⟨Nat.zero_le _, Nat.zero_le _⟩ (fun H locs hP hD hS => ?_)
            have hP : va_P Γ.1 vwCl (wd_X5_readAll Γ q0 q1 q2 q3 q4 q5 q6 isPlateFixed rowsTold text_length text_kind_2 text_first_3 text_fin_4 text_letters plate_columns plate_rows plate_numbers plate_figure plate_grains) H := hP
            have hD : va_D A (wd_X5_readAll Γ q0 q1 q2 q3 q4 q5 q6 isPlateFixed rowsTold text_length text_kind_2 text_first_3 text_fin_4 text_letters plate_columns plate_rows plate_numbers plate_figure plate_grains) := hD
            obtain ⟨r_9, isPlateFixed_10, rowsTold_11, text_kind_12, text_first_13, text_fin_14, plate_columns_15, plate_rows_16, plate_numbers_17, plate_figure_18, hq_19, hf⟩ := ob10_some hf
            refine vm_cVi (isC := [0, 1, 2, 3, 4, 5]) (wc := (wd_X5_readTold Γ q0 q1 q2 q3 q4 q5 q6 isPlateFixed rowsTold text_length text_kind_2 text_first_3 text_fin_4 text_letters plate_columns plate_rows plate_numbers plate_figure)) (w1 := (wd_X5_readTold Γ q0 q1 q2 q3 q4 q5 q6 isPlateFixed_10 rowsTold_11 text_length text_kind_12 text_first_13 text_fin_14 text_letters plate_columns_15 plate_rows_16 plate_numbers_17 plate_figure_18)) (As := [.int r_7]) (rest := []) ⟨hx, hb, hml, hown, hts⟩ hE hP hD hS hA rfl rfl rfl (c_X5_readTold l Γ _ q0 q1 q2 q3 q4 q5 q6 isPlateFixed rowsTold text_length text_kind_2 text_first_3 text_fin_4 text_letters plate_columns plate_rows plate_numbers plate_figure r_7 r_9 isPlateFixed_10 rowsTold_11 text_kind_12 text_first_13 text_fin_14 plate_columns_15 plate_rows_16 plate_numbers_17 plate_figure_18 hq_19) (cwV 1 hts gX5_readAll_X5_readTold rfl rfl rfl (by decide +kernel) ⟨Nat.le_of_ble_eq_true rfl, Nat.le_of_ble_eq_true rfl⟩) (va_recv (ci := 5) (q0 := 0) hK hP rfl rfl) rfl hl.1 rfl (Nat.le_of_ble_eq_true rfl) dX5_readAll_36 ⟨Nat.zero_le _, Nat.zero_le _⟩ (fun H locs hP hD hS => ?_)
            have hP : va_P Γ.1 vwCl (wd_X5_readAll Γ q0 q1 q2 q3 q4 q5 q6 isPlateFixed_10 rowsTold_11 text_length text_kind_12 text_first_13 text_fin_14 text_letters plate_columns_15 plate_rows_16 plate_numbers_17 plate_figure_18 plate_grains) H := hP
            have hD : va_D A (wd_X5_readAll Γ q0 q1 q2 q3 q4 q5 q6 isPlateFixed_10 rowsTold_11 text_length text_kind_12 text_first_13 text_fin_14 text_letters plate_columns_15 plate_rows_16 plate_numbers_17 plate_figure_18 plate_grains) := hD
            refine lv_if_eq (tgt := 49) hx hb dX5_readAll_39 (by decide) (fun hc_20 => ?_) (fun hc_20 => ?_)
            · have hf := vm_pos hc_20 hf
              have hX := hX6
              rw [← Option.some.inj hf] at hX
              exact K_49 isPlateFixed_10 rowsTold_11 text_kind_12 text_first_13 text_fin_14 plate_columns_15 plate_rows_16 plate_numbers_17 plate_figure_18 plate_grains hP hD hS (lv_sub hl [0] rfl) hX
            · have hf := vm_neg hc_20 hf
              refine lv_aload_n hx hb dX5_readAll_42 rfl (lv_at hl 0 rfl) ?_
              obtain ⟨r_21, text_kind_22, text_first_23, text_fin_24, hq_25, hf⟩ := ob4_some hf
              refine vm_cVi (isC := [0, 1, 2]) (wc := (wd_X5_readSemicolon Γ q0 q1 q2 q3 isPlateFixed_10 rowsTold_11 text_length text_kind_12 text_first_13 text_fin_14 text_letters)) (w1 := (wd_X5_readSemicolon Γ q0 q1 q2 q3 isPlateFixed_10 rowsTold_11 text_length text_kind_22 text_first_23 text_fin_24 text_letters)) (As := []) (rest := []) ⟨hx, hb, hml, hown, hts⟩ hE hP hD hS hA rfl rfl rfl (c_X5_readSemicolon l Γ _ q0 q1 q2 q3 isPlateFixed_10 rowsTold_11 text_length text_kind_12 text_first_13 text_fin_14 text_letters r_21 text_kind_22 text_first_23 text_fin_24 hq_25) (cwV 0 hts gX5_readAll_X5_readSemicolon rfl rfl rfl (by decide +kernel) ⟨Nat.le_of_ble_eq_true rfl, Nat.le_of_ble_eq_true rfl⟩) (va_recv (ci := 5) (q0 := 0) hK hP rfl rfl) rfl hl.1 rfl (Nat.le_of_ble_eq_true rfl) dX5_readAll_43 ⟨Nat.zero_le _, Nat.zero_le _⟩ (fun H locs hP hD hS => ?_)
              have hP : va_P Γ.1 vwCl (wd_X5_readAll Γ q0 q1 q2 q3 q4 q5 q6 isPlateFixed_10 rowsTold_11 text_length text_kind_22 text_first_23 text_fin_24 text_letters plate_columns_15 plate_rows_16 plate_numbers_17 plate_figure_18 plate_grains) H := hP
              have hD : va_D A (wd_X5_readAll Γ q0 q1 q2 q3 q4 q5 q6 isPlateFixed_10 rowsTold_11 text_length text_kind_22 text_first_23 text_fin_24 text_letters plate_columns_15 plate_rows_16 plate_numbers_17 plate_figure_18 plate_grains) := hD
              refine lv_if_ne (tgt := 60) hx hb dX5_readAll_46 (by decide) (fun hc_26 => ?_) (fun hc_26 => ?_)
              · have hf := vm_neg hc_26 hf
                refine lv_iinc (v := (x1 + 1)) (lv' := [(1, .int (x1 + 1)), (0, .ref q0)]) hx hb dX5_readAll_60 hl (k := 1) rfl rfl (by decide) rfl (fun ls hl => ?_)
                refine lv_goto (tgt := 6) hx hb dX5_readAll_63 (by decide) ?_
                exact ih isPlateFixed_10 rowsTold_11 text_kind_22 text_first_23 text_fin_24 plate_columns_15 plate_rows_16 plate_numbers_17 plate_figure_18 (x1 + 1) hP hD hS (lv_sub hl [1, 0] rfl) hf
              · have hf := vm_pos hc_26 hf
                have hX := hX6
                rw [← Option.some.inj hf] at hX
                exact K_49 isPlateFixed_10 rowsTold_11 text_kind_22 text_first_23 text_fin_24 plate_columns_15 plate_rows_16 plate_numbers_17 plate_figure_18 plate_grains hP hD hS (lv_sub hl [0] rfl) hX
          · have hf := vm_pos hc_6 hf
            have hX := hX6
            rw [← Option.some.inj hf] at hX
            exact K_29 isPlateFixed rowsTold text_kind_2 text_first_3 text_fin_4 plate_columns plate_rows plate_numbers plate_figure plate_grains x1 hP hD hS (lv_sub hl [1] rfl) hX
    exact LP FU isPlateFixed rowsTold text_kind text_first text_fin plate_columns plate_rows plate_numbers plate_figure x1 hP hD hS hl h1
  unfold f_X5_readAll at hf
  refine lv_aload_n hx hb dX5_readAll_0 rfl (lv_at hl 0 rfl) ?_
  obtain ⟨isPlateFixed_27, rowsTold_28, text_fin_29, plate_columns_30, plate_rows_31, plate_numbers_32, plate_figure_33, plate_grains_34, hq_35, hf⟩ := ob8_some hf
  refine vm_cVv (isC := [0, 1, 3, 4, 5, 6]) (wc := (wd_X5_startAnew Γ q0 q1 q3 q4 q5 q6 q2 isPlateFixed rowsTold text_length text_kind text_first text_fin plate_columns plate_rows plate_numbers plate_figure plate_grains)) (w1 := (wd_X5_startAnew Γ q0 q1 q3 q4 q5 q6 q2 isPlateFixed_27 rowsTold_28 text_length text_kind text_first text_fin_29 plate_columns_30 plate_rows_31 plate_numbers_32 plate_figure_33 plate_grains_34)) (As := []) (rest := []) ⟨hx, hb, hml, hown, hts⟩ hE hP hD hS hA rfl rfl rfl (c_X5_startAnew l Γ _ q0 q1 q3 q4 q5 q6 q2 isPlateFixed rowsTold text_length text_kind text_first text_fin plate_columns plate_rows plate_numbers plate_figure plate_grains isPlateFixed_27 rowsTold_28 text_fin_29 plate_columns_30 plate_rows_31 plate_numbers_32 plate_figure_33 plate_grains_34 hq_35) (cwV 0 hts gX5_readAll_X5_startAnew rfl rfl rfl (by decide +kernel) ⟨Nat.le_of_ble_eq_true rfl, Nat.le_of_ble_eq_true rfl⟩) (va_recv (ci := 5) (q0 := 0) hK hP rfl rfl) rfl hl.1 rfl (Nat.le_of_ble_eq_true rfl) dX5_readAll_1 ⟨Nat.zero_le _, Nat.zero_le _⟩ (fun H locs hP hD hS => ?_)
  have hP : va_P Γ.1 vwCl (wd_X5_readAll Γ q0 q1 q2 q3 q4 q5 q6 isPlateFixed_27 rowsTold_28 text_length text_kind text_first text_fin_29 text_letters plate_columns_30 plate_rows_31 plate_numbers_32 plate_figure_33 plate_grains_34) H := hP
  have hD : va_D A (wd_X5_readAll Γ q0 q1 q2 q3 q4 q5 q6 isPlateFixed_27 rowsTold_28 text_length text_kind text_first text_fin_29 text_letters plate_columns_30 plate_rows_31 plate_numbers_32 plate_figure_33 plate_grains_34) := hD
  refine lv_iconst (v := 0) hx hb dX5_readAll_4 (by decide) ?_
  refine lv_istore_n (lv' := [(1, .int 0), (0, .ref q0)]) hx hb dX5_readAll_5 rfl hl (by decide) rfl (fun ls hl => ?_)
  exact K_6 isPlateFixed_27 rowsTold_28 text_kind text_first text_fin_29 plate_columns_30 plate_rows_31 plate_numbers_32 plate_figure_33 plate_grains_34 0 hP hD hS (lv_sub hl [1, 0] rfl) hf
