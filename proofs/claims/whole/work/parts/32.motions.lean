def wd_X1_pull (Γ : GE) (q0 q1 q2 q3 d0 d1 d2 d3 d4 d5 d6 : Nat) (columns : Int32) (rows : Int32) (heights : Nat → Int32) (p1_columns : Int32) (p1_rows : Int32) (p1_numbers : Nat → Int32) : va_W := [(q0, .inr (1, [.ref q1, .ref d0, .ref d1, .ref d2, .ref d3, .int columns, .int rows, .ref d4])), (q1, .inl (Γ.2.1 0, 36, .inl heights)), (q2, .inr (2, [.int p1_columns, .int p1_rows, .ref q3, .ref d5, .ref d6])), (q3, .inl (Γ.2.1 0, 7, .inl p1_numbers))]
def f_X1_pull_131 (x6 : Int32) (x8 : Int32) (x9 : Int32) (x10 : Int32) (s0 : Int32) : Option Int32 := some ((((x8 + x9) + x10) + s0) - (4 * x6))
def f_X1_pull_111 (heights : Nat → Int32) (x2 : Int32) (x5 : Int32) (x6 : Int32) (x7 : Int32) (x8 : Int32) (x9 : Int32) (s0 : Int32) : Option Int32 := if x2 ≤ 0 then (f_X1_pull_131 x6 x8 x9 s0 x7) else (if inb (x5 - 1) 36 = true then f_X1_pull_131 x6 x8 x9 s0 (heights ((x5 - 1).toNatClampNeg)) else none)
def f_X1_pull_84 (heights : Nat → Int32) (p1_rows : Int32) (x2 : Int32) (x3 : Int32) (x4 : Int32) (x5 : Int32) (x6 : Int32) (x7 : Int32) (x8 : Int32) (s0 : Int32) : Option Int32 := if (p1_rows - 1) ≤ x3 then (f_X1_pull_111 heights x2 x5 x6 x7 x8 s0 x7) else (if inb (x5 + x4) 36 = true then f_X1_pull_111 heights x2 x5 x6 x7 x8 s0 (heights ((x5 + x4).toNatClampNeg)) else none)
def f_X1_pull_60 (heights : Nat → Int32) (p1_rows : Int32) (x2 : Int32) (x3 : Int32) (x4 : Int32) (x5 : Int32) (x6 : Int32) (x7 : Int32) (s0 : Int32) : Option Int32 := if (x4 - 1) ≤ x2 then (f_X1_pull_84 heights p1_rows x2 x3 x4 x5 x6 x7 s0 x7) else (if inb (x5 + 1) 36 = true then f_X1_pull_84 heights p1_rows x2 x3 x4 x5 x6 x7 s0 (heights ((x5 + 1).toNatClampNeg)) else none)
def f_X1_pull_39 (heights : Nat → Int32) (p1_rows : Int32) (x2 : Int32) (x3 : Int32) (x4 : Int32) (x5 : Int32) (x6 : Int32) (s0 : Int32) : Option Int32 := if x3 ≤ 0 then (f_X1_pull_60 heights p1_rows x2 x3 x4 x5 x6 s0 s0) else (if inb (x5 - x4) 36 = true then f_X1_pull_60 heights p1_rows x2 x3 x4 x5 x6 s0 (heights ((x5 - x4).toNatClampNeg)) else none)
def f_X1_pull (heights : Nat → Int32) (p1_columns : Int32) (p1_rows : Int32) (p1_numbers : Nat → Int32) (x2 : Int32) (x3 : Int32) : Option Int32 := if inb ((p1_columns * x3) + x2) 36 = true then if (p1_numbers 0) = 1 then (f_X1_pull_39 heights p1_rows x2 x3 p1_columns ((p1_columns * x3) + x2) (heights (((p1_columns * x3) + x2).toNatClampNeg)) (heights (((p1_columns * x3) + x2).toNatClampNeg))) else (f_X1_pull_39 heights p1_rows x2 x3 p1_columns ((p1_columns * x3) + x2) (heights (((p1_columns * x3) + x2).toNatClampNeg)) 0) else none
set_option maxHeartbeats 4000000 in
set_option maxRecDepth 100000 in
theorem c_X1_pull (l : Launch) (Γ : GE) (sz : Nat) (q0 q1 q2 q3 d0 d1 d2 d3 d4 d5 d6 : Nat) (columns : Int32) (rows : Int32) (heights : Nat → Int32) (p1_columns : Int32) (p1_rows : Int32) (p1_numbers : Nat → Int32) (x2 : Int32) (x3 : Int32) (ro : Int32) (hf : f_X1_pull heights p1_columns p1_rows p1_numbers x2 x3 = some ro) : MetI l yX1_pull wsX1_pull ({ frames := 0, cells := 0, slots := 0, locals := 0 } : Room) Γ [.ref q0, .ref q2, .int x2, .int x3] (wd_X1_pull Γ q0 q1 q2 q3 d0 d1 d2 d3 d4 d5 d6 columns rows heights p1_columns p1_rows p1_numbers) (wd_X1_pull Γ q0 q1 q2 q3 d0 d1 d2 d3 d4 d5 d6 columns rows heights p1_columns p1_rows p1_numbers) sz ro := by
  refine Met.ofW (cc := cX1_pull) (maxL := 12) (ret := (some .int)) (by decide) rfl ?_
  intro p e s m args below meth c s₁ B hml hv
  obtain ⟨rfl, hsz, hE, hP, hD⟩ := hv
  have hx := B.exec
  have hb := B.bytes
  have hr := B.returns
  have hts := atoms_spec (ws := wsX1_pull) B.pre
  have hown : s.vm.findClass RX1 = some m.cls := findClass_of_methodNamed B.named
  have hlocks := B.notSynchronized
  subst hsz
  generalize hAe : va_A (wd_X1_pull Γ q0 q1 q2 q3 d0 d1 d2 d3 d4 d5 d6 columns rows heights p1_columns p1_rows p1_numbers) s.heap.size = A at hE hD ⊢
  have hA : ∀ q : Nat, s.heap.size ≤ q → A q := fun q h => by rw [← hAe]; exact Or.inr h
  clear hAe
  have hS : va_S A s.heap s.heap [] := va_S.rf
  have hK := hE.1
  have hl := lv_entry ([.ref q0, .ref q2, .int x2, .int x3]) (n := 12) (Nat.le_of_ble_eq_true rfl)
  rw [lg_entry_eq]
  generalize (lg_sl ([.ref q0, .ref q2, .int x2, .int x3]) ++ List.replicate (12 - (lg_sl ([.ref q0, .ref q2, .int x2, .int x3])).length) Slot.unset).toArray = ls at hl ⊢
  have hl : lv_has ls 12 [(0, .ref q0), (1, .ref q2), (2, .int x2), (3, .int x3)] := hl
  have hi1 : ∀ w ∈ u_ws RX1 TX1 8, w ∈ wsX1_pull := fun w h => (List.mem_cons_of_mem _ (List.mem_append_right _ h))
  have hi2 : ∀ w ∈ u_ws RX2 TX2 5, w ∈ wsX1_pull := fun w h => (List.mem_cons_of_mem _ (List.mem_append_left _ (List.mem_append_right _ h)))
  obtain ⟨out, hout⟩ : ∃ o, o = ro := ⟨_, rfl⟩
  rw [← hout] at hf
  obtain ⟨QQ, hQQ⟩ : ∃ Q, Q = MQ below (va_Qi (fun (r' : Int32) (_ : Unit) => r' = ro) (CQ Γ (wd_X1_pull Γ q0 q1 q2 q3 d0 d1 d2 d3 d4 d5 d6 columns rows heights p1_columns p1_rows p1_numbers) A) A) (([.ref q0, .ref q2, .int x2, .int x3] : List Value).toArray) s 0 0 A := ⟨_, rfl⟩
  show W p l e ({ frames := 0, cells := 0, slots := 0, locals := 0 } : Room) s m (([.ref q0, .ref q2, .int x2, .int x3] : List Value).toArray) below meth c s.heap [] 0 0 (MQ below _ (([.ref q0, .ref q2, .int x2, .int x3] : List Value).toArray) s 0 0 A) (F0 m 0 ls [])
  rw [← hQQ]
  have K_131 : ∀ (x6 : Int32) (x8 : Int32) (x9 : Int32) (x10 : Int32) (s0 : Int32) {H : Heap} {locs : List Loc} {ls : Array Slot}, va_P Γ.1 vwCl (wd_X1_pull Γ q0 q1 q2 q3 d0 d1 d2 d3 d4 d5 d6 columns rows heights p1_columns p1_rows p1_numbers) H → va_D A (wd_X1_pull Γ q0 q1 q2 q3 d0 d1 d2 d3 d4 d5 d6 columns rows heights p1_columns p1_rows p1_numbers) → va_S A s.heap H locs → lv_has ls 12 [(6, .int x6), (8, .int x8), (9, .int x9), (10, .int x10)] → f_X1_pull_131 x6 x8 x9 x10 s0 = some out → W p l e ({ frames := 0, cells := 0, slots := 0, locals := 0 } : Room) s m ([.ref q0, .ref q2, .int x2, .int x3] : List Value).toArray below meth c H locs 0 0 QQ (F0 m 131 ls [.int s0]) := by
    intro x6 x8 x9 x10 s0 H locs ls hP hD hS hl hf
    unfold f_X1_pull_131 at hf
    refine lv_istore (lv' := [(11, .int s0), (6, .int x6), (8, .int x8), (9, .int x9), (10, .int x10)]) hx hb dX1_pull_131 hl (by decide) rfl (fun ls hl => ?_)
    refine lv_iload hx hb dX1_pull_133 (lv_at hl 2 rfl) ?_
    refine lv_iload hx hb dX1_pull_135 (lv_at hl 3 rfl) ?_
    refine lv_iadd hx hb dX1_pull_137 ?_
    refine lv_iload hx hb dX1_pull_138 (lv_at hl 4 rfl) ?_
    refine lv_iadd hx hb dX1_pull_140 ?_
    refine lv_iload hx hb dX1_pull_141 (lv_at hl 0 rfl) ?_
    refine lv_iadd hx hb dX1_pull_143 ?_
    refine lv_iconst (v := 4) hx hb dX1_pull_144 (by decide) ?_
    refine lv_iload hx hb dX1_pull_145 (lv_at hl 1 rfl) ?_
    refine lv_imul hx hb dX1_pull_147 ?_
    refine lv_isub hx hb dX1_pull_148 ?_
    subst hout; obtain rfl := Option.some.inj hf
    subst hQQ
    exact W.iret hx hb hr (fun t ht hW => ⟨⟨_, (), rfl, rfl, by rw [ht]; exact hP, hD⟩, hS.F ht⟩) hS.2.2 dX1_pull_149
  have K_111 : ∀ (x5 : Int32) (x6 : Int32) (x7 : Int32) (x8 : Int32) (x9 : Int32) (s0 : Int32) {H : Heap} {locs : List Loc} {ls : Array Slot}, va_P Γ.1 vwCl (wd_X1_pull Γ q0 q1 q2 q3 d0 d1 d2 d3 d4 d5 d6 columns rows heights p1_columns p1_rows p1_numbers) H → va_D A (wd_X1_pull Γ q0 q1 q2 q3 d0 d1 d2 d3 d4 d5 d6 columns rows heights p1_columns p1_rows p1_numbers) → va_S A s.heap H locs → lv_has ls 12 [(0, .ref q0), (2, .int x2), (5, .int x5), (6, .int x6), (7, .int x7), (8, .int x8), (9, .int x9)] → f_X1_pull_111 heights x2 x5 x6 x7 x8 x9 s0 = some out → W p l e ({ frames := 0, cells := 0, slots := 0, locals := 0 } : Room) s m ([.ref q0, .ref q2, .int x2, .int x3] : List Value).toArray below meth c H locs 0 0 QQ (F0 m 111 ls [.int s0]) := by
    intro x5 x6 x7 x8 x9 s0 H locs ls hP hD hS hl hf
    unfold f_X1_pull_111 at hf
    refine lv_istore (lv' := [(10, .int s0), (0, .ref q0), (2, .int x2), (5, .int x5), (6, .int x6), (7, .int x7), (8, .int x8), (9, .int x9)]) hx hb dX1_pull_111 hl (by decide) rfl (fun ls hl => ?_)
    refine lv_iload_n hx hb dX1_pull_113 rfl (lv_at hl 2 rfl) ?_
    refine lv_if_le (tgt := 129) hx hb dX1_pull_114 (by decide) (fun hc_1 => ?_) (fun hc_1 => ?_)
    · have hf := vm_pos hc_1 hf
      refine lv_iload hx hb dX1_pull_129 (lv_at hl 5 rfl) ?_
      exact K_131 x6 x8 x9 s0 x7 hP hD hS (lv_sub hl [4, 6, 7, 0] rfl) hf
    · have hf := vm_neg hc_1 hf
      refine lv_aload_n hx hb dX1_pull_117 rfl (lv_at hl 1 rfl) ?_
      refine va_get (D := Γ.1) (ci := 1) (v := .ref q1) (C := RX1) (T := TX1) (N := 8) hx hb hts hi1 hown hK hP 0 rfl rfl 0 (by decide) (hts (.fieldLink RX1 9 "SandPlates$Motions" "heights" "[I") (List.mem_of_getElem? (i := 1) rfl)) (fun _ h9 => h9) rfl dX1_pull_118 ?_
      refine lv_iload hx hb dX1_pull_121 (lv_at hl 3 rfl) ?_
      refine lv_iconst (v := 1) hx hb dX1_pull_123 (by decide) ?_
      refine lv_isub hx hb dX1_pull_124 ?_
      obtain ⟨hc_2, hf⟩ := vm_ck hf
      refine vm_iald hx hb hK hP 1 0 rfl rfl hc_2 (j := (x5 - 1).toNatClampNeg) rfl dX1_pull_125 ?_
      refine lv_goto (tgt := 131) hx hb dX1_pull_126 (by decide) ?_
      exact K_131 x6 x8 x9 s0 (heights ((x5 - 1).toNatClampNeg)) hP hD hS (lv_sub hl [4, 6, 7, 0] rfl) hf
  have K_84 : ∀ (x4 : Int32) (x5 : Int32) (x6 : Int32) (x7 : Int32) (x8 : Int32) (s0 : Int32) {H : Heap} {locs : List Loc} {ls : Array Slot}, va_P Γ.1 vwCl (wd_X1_pull Γ q0 q1 q2 q3 d0 d1 d2 d3 d4 d5 d6 columns rows heights p1_columns p1_rows p1_numbers) H → va_D A (wd_X1_pull Γ q0 q1 q2 q3 d0 d1 d2 d3 d4 d5 d6 columns rows heights p1_columns p1_rows p1_numbers) → va_S A s.heap H locs → lv_has ls 12 [(0, .ref q0), (1, .ref q2), (2, .int x2), (3, .int x3), (4, .int x4), (5, .int x5), (6, .int x6), (7, .int x7), (8, .int x8)] → f_X1_pull_84 heights p1_rows x2 x3 x4 x5 x6 x7 x8 s0 = some out → W p l e ({ frames := 0, cells := 0, slots := 0, locals := 0 } : Room) s m ([.ref q0, .ref q2, .int x2, .int x3] : List Value).toArray below meth c H locs 0 0 QQ (F0 m 84 ls [.int s0]) := by
    intro x4 x5 x6 x7 x8 s0 H locs ls hP hD hS hl hf
    unfold f_X1_pull_84 at hf
    refine lv_istore (lv' := [(9, .int s0), (0, .ref q0), (1, .ref q2), (2, .int x2), (3, .int x3), (4, .int x4), (5, .int x5), (6, .int x6), (7, .int x7), (8, .int x8)]) hx hb dX1_pull_84 hl (by decide) rfl (fun ls hl => ?_)
    refine lv_iload_n hx hb dX1_pull_86 rfl (lv_at hl 4 rfl) ?_
    refine lv_aload_n hx hb dX1_pull_87 rfl (lv_at hl 2 rfl) ?_
    refine va_getN (D := Γ.1) (ci := 2) (v := .int p1_rows) (C := RX2) (T := TX2) (N := 5) hx hb hts hi2 hown hK hP 2 rfl rfl 1 (by decide) (va_Nw.use rfl (nfX1_63 hE.2.1)) (fun _ h9 => h9) rfl dX1_pull_88 ?_
    refine lv_iconst (v := 1) hx hb dX1_pull_91 (by decide) ?_
    refine lv_isub hx hb dX1_pull_92 ?_
    refine lv_icmp_ge (tgt := 109) hx hb dX1_pull_93 (by decide) (fun hc_3 => ?_) (fun hc_3 => ?_)
    · have hf := vm_pos hc_3 hf
      refine lv_iload hx hb dX1_pull_109 (lv_at hl 8 rfl) ?_
      exact K_111 x5 x6 x7 x8 s0 x7 hP hD hS (lv_sub hl [1, 3, 6, 7, 8, 9, 0] rfl) hf
    · have hf := vm_neg hc_3 hf
      refine lv_aload_n hx hb dX1_pull_96 rfl (lv_at hl 1 rfl) ?_
      refine va_get (D := Γ.1) (ci := 1) (v := .ref q1) (C := RX1) (T := TX1) (N := 8) hx hb hts hi1 hown hK hP 0 rfl rfl 0 (by decide) (hts (.fieldLink RX1 9 "SandPlates$Motions" "heights" "[I") (List.mem_of_getElem? (i := 1) rfl)) (fun _ h9 => h9) rfl dX1_pull_97 ?_
      refine lv_iload hx hb dX1_pull_100 (lv_at hl 6 rfl) ?_
      refine lv_iload hx hb dX1_pull_102 (lv_at hl 5 rfl) ?_
      refine lv_iadd hx hb dX1_pull_104 ?_
      obtain ⟨hc_4, hf⟩ := vm_ck hf
      refine vm_iald hx hb hK hP 1 0 rfl rfl hc_4 (j := (x5 + x4).toNatClampNeg) rfl dX1_pull_105 ?_
      refine lv_goto (tgt := 111) hx hb dX1_pull_106 (by decide) ?_
      exact K_111 x5 x6 x7 x8 s0 (heights ((x5 + x4).toNatClampNeg)) hP hD hS (lv_sub hl [1, 3, 6, 7, 8, 9, 0] rfl) hf
  have K_60 : ∀ (x4 : Int32) (x5 : Int32) (x6 : Int32) (x7 : Int32) (s0 : Int32) {H : Heap} {locs : List Loc} {ls : Array Slot}, va_P Γ.1 vwCl (wd_X1_pull Γ q0 q1 q2 q3 d0 d1 d2 d3 d4 d5 d6 columns rows heights p1_columns p1_rows p1_numbers) H → va_D A (wd_X1_pull Γ q0 q1 q2 q3 d0 d1 d2 d3 d4 d5 d6 columns rows heights p1_columns p1_rows p1_numbers) → va_S A s.heap H locs → lv_has ls 12 [(0, .ref q0), (1, .ref q2), (2, .int x2), (3, .int x3), (4, .int x4), (5, .int x5), (6, .int x6), (7, .int x7)] → f_X1_pull_60 heights p1_rows x2 x3 x4 x5 x6 x7 s0 = some out → W p l e ({ frames := 0, cells := 0, slots := 0, locals := 0 } : Room) s m ([.ref q0, .ref q2, .int x2, .int x3] : List Value).toArray below meth c H locs 0 0 QQ (F0 m 60 ls [.int s0]) := by
    intro x4 x5 x6 x7 s0 H locs ls hP hD hS hl hf
    unfold f_X1_pull_60 at hf
    refine lv_istore (lv' := [(8, .int s0), (0, .ref q0), (1, .ref q2), (2, .int x2), (3, .int x3), (4, .int x4), (5, .int x5), (6, .int x6), (7, .int x7)]) hx hb dX1_pull_60 hl (by decide) rfl (fun ls hl => ?_)
    refine lv_iload_n hx hb dX1_pull_62 rfl (lv_at hl 3 rfl) ?_
    refine lv_iload hx hb dX1_pull_63 (lv_at hl 5 rfl) ?_
    refine lv_iconst (v := 1) hx hb dX1_pull_65 (by decide) ?_
    refine lv_isub hx hb dX1_pull_66 ?_
    refine lv_icmp_ge (tgt := 82) hx hb dX1_pull_67 (by decide) (fun hc_5 => ?_) (fun hc_5 => ?_)
    · have hf := vm_pos hc_5 hf
      refine lv_iload hx hb dX1_pull_82 (lv_at hl 8 rfl) ?_
      exact K_84 x4 x5 x6 x7 s0 x7 hP hD hS (lv_sub hl [1, 2, 3, 4, 5, 6, 7, 8, 0] rfl) hf
    · have hf := vm_neg hc_5 hf
      refine lv_aload_n hx hb dX1_pull_70 rfl (lv_at hl 1 rfl) ?_
      refine va_get (D := Γ.1) (ci := 1) (v := .ref q1) (C := RX1) (T := TX1) (N := 8) hx hb hts hi1 hown hK hP 0 rfl rfl 0 (by decide) (hts (.fieldLink RX1 9 "SandPlates$Motions" "heights" "[I") (List.mem_of_getElem? (i := 1) rfl)) (fun _ h9 => h9) rfl dX1_pull_71 ?_
      refine lv_iload hx hb dX1_pull_74 (lv_at hl 6 rfl) ?_
      refine lv_iconst (v := 1) hx hb dX1_pull_76 (by decide) ?_
      refine lv_iadd hx hb dX1_pull_77 ?_
      obtain ⟨hc_6, hf⟩ := vm_ck hf
      refine vm_iald hx hb hK hP 1 0 rfl rfl hc_6 (j := (x5 + 1).toNatClampNeg) rfl dX1_pull_78 ?_
      refine lv_goto (tgt := 84) hx hb dX1_pull_79 (by decide) ?_
      exact K_84 x4 x5 x6 x7 s0 (heights ((x5 + 1).toNatClampNeg)) hP hD hS (lv_sub hl [1, 2, 3, 4, 5, 6, 7, 8, 0] rfl) hf
  have K_39 : ∀ (x4 : Int32) (x5 : Int32) (x6 : Int32) (s0 : Int32) {H : Heap} {locs : List Loc} {ls : Array Slot}, va_P Γ.1 vwCl (wd_X1_pull Γ q0 q1 q2 q3 d0 d1 d2 d3 d4 d5 d6 columns rows heights p1_columns p1_rows p1_numbers) H → va_D A (wd_X1_pull Γ q0 q1 q2 q3 d0 d1 d2 d3 d4 d5 d6 columns rows heights p1_columns p1_rows p1_numbers) → va_S A s.heap H locs → lv_has ls 12 [(0, .ref q0), (1, .ref q2), (2, .int x2), (3, .int x3), (4, .int x4), (5, .int x5), (6, .int x6)] → f_X1_pull_39 heights p1_rows x2 x3 x4 x5 x6 s0 = some out → W p l e ({ frames := 0, cells := 0, slots := 0, locals := 0 } : Room) s m ([.ref q0, .ref q2, .int x2, .int x3] : List Value).toArray below meth c H locs 0 0 QQ (F0 m 39 ls [.int s0]) := by
    intro x4 x5 x6 s0 H locs ls hP hD hS hl hf
    unfold f_X1_pull_39 at hf
    refine lv_istore (lv' := [(7, .int s0), (0, .ref q0), (1, .ref q2), (2, .int x2), (3, .int x3), (4, .int x4), (5, .int x5), (6, .int x6)]) hx hb dX1_pull_39 hl (by decide) rfl (fun ls hl => ?_)
    refine lv_iload_n hx hb dX1_pull_41 rfl (lv_at hl 4 rfl) ?_
    refine lv_if_le (tgt := 58) hx hb dX1_pull_42 (by decide) (fun hc_7 => ?_) (fun hc_7 => ?_)
    · have hf := vm_pos hc_7 hf
      refine lv_iload hx hb dX1_pull_58 (lv_at hl 0 rfl) ?_
      exact K_60 x4 x5 x6 s0 s0 hP hD hS (lv_sub hl [1, 2, 3, 4, 5, 6, 7, 0] rfl) hf
    · have hf := vm_neg hc_7 hf
      refine lv_aload_n hx hb dX1_pull_45 rfl (lv_at hl 1 rfl) ?_
      refine va_get (D := Γ.1) (ci := 1) (v := .ref q1) (C := RX1) (T := TX1) (N := 8) hx hb hts hi1 hown hK hP 0 rfl rfl 0 (by decide) (hts (.fieldLink RX1 9 "SandPlates$Motions" "heights" "[I") (List.mem_of_getElem? (i := 1) rfl)) (fun _ h9 => h9) rfl dX1_pull_46 ?_
      refine lv_iload hx hb dX1_pull_49 (lv_at hl 6 rfl) ?_
      refine lv_iload hx hb dX1_pull_51 (lv_at hl 5 rfl) ?_
      refine lv_isub hx hb dX1_pull_53 ?_
      obtain ⟨hc_8, hf⟩ := vm_ck hf
      refine vm_iald hx hb hK hP 1 0 rfl rfl hc_8 (j := (x5 - x4).toNatClampNeg) rfl dX1_pull_54 ?_
      refine lv_goto (tgt := 60) hx hb dX1_pull_55 (by decide) ?_
      exact K_60 x4 x5 x6 s0 (heights ((x5 - x4).toNatClampNeg)) hP hD hS (lv_sub hl [1, 2, 3, 4, 5, 6, 7, 0] rfl) hf
  unfold f_X1_pull at hf
  refine lv_aload_n hx hb dX1_pull_0 rfl (lv_at hl 1 rfl) ?_
  refine va_getN (D := Γ.1) (ci := 2) (v := .int p1_columns) (C := RX2) (T := TX2) (N := 5) hx hb hts hi2 hown hK hP 2 rfl rfl 0 (by decide) (va_Nw.use rfl (nfX1_59 hE.2.1)) (fun _ h9 => h9) rfl dX1_pull_1 ?_
  refine lv_istore (lv' := [(4, .int p1_columns), (0, .ref q0), (1, .ref q2), (2, .int x2), (3, .int x3)]) hx hb dX1_pull_4 hl (by decide) rfl (fun ls hl => ?_)
  refine lv_iload hx hb dX1_pull_6 (lv_at hl 0 rfl) ?_
  refine lv_iload_n hx hb dX1_pull_8 rfl (lv_at hl 4 rfl) ?_
  refine lv_imul hx hb dX1_pull_9 ?_
  refine lv_iload_n hx hb dX1_pull_10 rfl (lv_at hl 3 rfl) ?_
  refine lv_iadd hx hb dX1_pull_11 ?_
  refine lv_istore (lv' := [(5, .int ((p1_columns * x3) + x2)), (4, .int p1_columns), (0, .ref q0), (1, .ref q2), (2, .int x2), (3, .int x3)]) hx hb dX1_pull_12 hl (by decide) rfl (fun ls hl => ?_)
  refine lv_aload_n hx hb dX1_pull_14 rfl (lv_at hl 2 rfl) ?_
  refine va_get (D := Γ.1) (ci := 1) (v := .ref q1) (C := RX1) (T := TX1) (N := 8) hx hb hts hi1 hown hK hP 0 rfl rfl 0 (by decide) (hts (.fieldLink RX1 9 "SandPlates$Motions" "heights" "[I") (List.mem_of_getElem? (i := 1) rfl)) (fun _ h9 => h9) rfl dX1_pull_15 ?_
  refine lv_iload hx hb dX1_pull_18 (lv_at hl 0 rfl) ?_
  obtain ⟨hc_9, hf⟩ := vm_ck hf
  refine vm_iald hx hb hK hP 1 0 rfl rfl hc_9 (j := ((p1_columns * x3) + x2).toNatClampNeg) rfl dX1_pull_20 ?_
  refine lv_istore (lv' := [(6, .int (heights (((p1_columns * x3) + x2).toNatClampNeg))), (5, .int ((p1_columns * x3) + x2)), (4, .int p1_columns), (0, .ref q0), (1, .ref q2), (2, .int x2), (3, .int x3)]) hx hb dX1_pull_21 hl (by decide) rfl (fun ls hl => ?_)
  refine lv_aload_n hx hb dX1_pull_23 rfl (lv_at hl 4 rfl) ?_
  refine va_getN (D := Γ.1) (ci := 2) (v := .ref q3) (C := RX2) (T := TX2) (N := 5) hx hb hts hi2 hown hK hP 2 rfl rfl 2 (by decide) (va_Nw.use rfl (nfX1_48 hE.2.1)) (fun _ h9 => h9) rfl dX1_pull_24 ?_
  refine lv_iconst (v := 0) hx hb dX1_pull_27 (by decide) ?_
  refine vm_iald hx hb hK hP 3 0 rfl rfl (by decide +kernel) (j := 0) rfl dX1_pull_28 ?_
  refine lv_iconst (v := 1) hx hb dX1_pull_29 (by decide) ?_
  refine lv_icmp_ne (tgt := 38) hx hb dX1_pull_30 (by decide) (fun hc_10 => ?_) (fun hc_10 => ?_)
  · have hf := vm_neg hc_10 hf
    refine lv_iconst (v := 0) hx hb dX1_pull_38 (by decide) ?_
    exact K_39 p1_columns ((p1_columns * x3) + x2) (heights (((p1_columns * x3) + x2).toNatClampNeg)) 0 hP hD hS (lv_sub hl [3, 4, 5, 6, 2, 1, 0] rfl) hf
  · have hf := vm_pos hc_10 hf
    refine lv_iload hx hb dX1_pull_33 (lv_at hl 0 rfl) ?_
    refine lv_goto (tgt := 39) hx hb dX1_pull_35 (by decide) ?_
    exact K_39 p1_columns ((p1_columns * x3) + x2) (heights (((p1_columns * x3) + x2).toNatClampNeg)) (heights (((p1_columns * x3) + x2).toNatClampNeg)) hP hD hS (lv_sub hl [3, 4, 5, 6, 2, 1, 0] rfl) hf
def wd_X1_rest (Γ : GE) (q0 q1 q2 d0 d1 d2 d3 : Nat) (columns : Int32) (rows : Int32) (heights : Nat → Int32) (speeds : Nat → Int32) : va_W := [(q0, .inr (1, [.ref q1, .ref q2, .ref d0, .ref d1, .ref d2, .int columns, .int rows, .ref d3])), (q1, .inl (Γ.2.1 0, 36, .inl heights)), (q2, .inl (Γ.2.1 0, 36, .inl speeds))]
def f_X1_rest (heights : Nat → Int32) (speeds : Nat → Int32) : Option ((Nat → Int32) × (Nat → Int32)) := ob1 (f_J7_fill_53178 36 heights 0) (fun heights_1 => ob1 (f_J7_fill_53178 36 speeds 0) (fun speeds_3 => some (heights_1, speeds_3)))
set_option maxHeartbeats 4000000 in
set_option maxRecDepth 100000 in
theorem c_X1_rest (l : Launch) (Γ : GE) (sz : Nat) (q0 q1 q2 d0 d1 d2 d3 : Nat) (columns : Int32) (rows : Int32) (heights : Nat → Int32) (speeds : Nat → Int32) (o_heights : Nat → Int32) (o_speeds : Nat → Int32) (hf : f_X1_rest heights speeds = some (o_heights, o_speeds)) : MetV l yX1_rest wsX1_rest ({ frames := 1, cells := 0, slots := 0, locals := 23 } : Room) Γ [.ref q0] (wd_X1_rest Γ q0 q1 q2 d0 d1 d2 d3 columns rows heights speeds) (wd_X1_rest Γ q0 q1 q2 d0 d1 d2 d3 columns rows o_heights o_speeds) sz := by
  refine Met.ofW (cc := cX1_rest) (maxL := 1) (ret := none) (by decide) rfl ?_
  intro p e s m args below meth c s₁ B hml hv
  obtain ⟨rfl, hsz, hE, hP, hD⟩ := hv
  have hx := B.exec
  have hb := B.bytes
  have hr := B.returns
  have hts := atoms_spec (ws := wsX1_rest) B.pre
  have hown : s.vm.findClass RX1 = some m.cls := findClass_of_methodNamed B.named
  have hlocks := B.notSynchronized
  subst hsz
  generalize hAe : va_A (wd_X1_rest Γ q0 q1 q2 d0 d1 d2 d3 columns rows heights speeds) s.heap.size = A at hE hD ⊢
  have hA : ∀ q : Nat, s.heap.size ≤ q → A q := fun q h => by rw [← hAe]; exact Or.inr h
  clear hAe
  have hS : va_S A s.heap s.heap [] := va_S.rf
  have hK := hE.1
  have hl := lv_entry ([.ref q0]) (n := 1) (Nat.le_of_ble_eq_true rfl)
  rw [lg_entry_eq]
  generalize (lg_sl ([.ref q0]) ++ List.replicate (1 - (lg_sl ([.ref q0])).length) Slot.unset).toArray = ls at hl ⊢
  have hl : lv_has ls 1 [(0, .ref q0)] := hl
  have hi1 : ∀ w ∈ u_ws RX1 TX1 8, w ∈ wsX1_rest := fun w h => (List.mem_cons_of_mem _ (List.mem_append_right _ h))
  obtain ⟨out, hout⟩ : ∃ o, o = (o_heights, o_speeds) := ⟨_, rfl⟩
  rw [← hout] at hf
  obtain ⟨QQ, hQQ⟩ : ∃ Q, Q = MQ below (va_Qv (fun _ : Unit => True) (CQ Γ (wd_X1_rest Γ q0 q1 q2 d0 d1 d2 d3 columns rows o_heights o_speeds) A) A) (([.ref q0] : List Value).toArray) s 0 0 A := ⟨_, rfl⟩
  show W p l e ({ frames := 1, cells := 0, slots := 0, locals := 23 } : Room) s m (([.ref q0] : List Value).toArray) below meth c s.heap [] 0 0 (MQ below _ (([.ref q0] : List Value).toArray) s 0 0 A) (F0 m 0 ls [])
  rw [← hQQ]
  unfold f_X1_rest at hf
  refine lv_aload_n hx hb dX1_rest_0 rfl (lv_at hl 0 rfl) ?_
  refine va_get (D := Γ.1) (ci := 1) (v := .ref q1) (C := RX1) (T := TX1) (N := 8) hx hb hts hi1 hown hK hP 0 rfl rfl 0 (by decide) (hts (.fieldLink RX1 9 "SandPlates$Motions" "heights" "[I") (List.mem_of_getElem? (i := 1) rfl)) (fun _ h9 => h9) rfl dX1_rest_1 ?_
  refine lv_iconst (v := 0) hx hb dX1_rest_4 (by decide) ?_
  obtain ⟨heights_1, hq_2, hf⟩ := ob1_some hf
  refine vm_cSv (isC := [1]) (wc := (wd_J7_fill_53178 Γ q1 36 heights)) (w1 := (wd_J7_fill_53178 Γ q1 36 heights_1)) (As := [.ref q1, .int 0]) (rest := []) ⟨hx, hb, hml, hown, hts⟩ hE hP hD hS hA rfl rfl rfl (c_J7_fill_53178 l Γ _ q1 36 heights 0 heights_1 hq_2) (va_cwS 2 hts gX1_rest_J7_fill_53178 rfl rfl rfl (by decide +kernel) ⟨Nat.le_of_ble_eq_true rfl, Nat.le_of_ble_eq_true rfl⟩) rfl hl.1 rfl (Nat.le_of_ble_eq_true rfl) dX1_rest_5 ⟨Nat.zero_le _, Nat.zero_le _⟩ (fun H locs hP hD hS => ?_)
  have hP : va_P Γ.1 vwCl (wd_X1_rest Γ q0 q1 q2 d0 d1 d2 d3 columns rows heights_1 speeds) H := hP
  have hD : va_D A (wd_X1_rest Γ q0 q1 q2 d0 d1 d2 d3 columns rows heights_1 speeds) := hD
  refine lv_aload_n hx hb dX1_rest_8 rfl (lv_at hl 0 rfl) ?_
  refine va_get (D := Γ.1) (ci := 1) (v := .ref q2) (C := RX1) (T := TX1) (N := 8) hx hb hts hi1 hown hK hP 0 rfl rfl 1 (by decide) (hts (.fieldLink RX1 15 "SandPlates$Motions" "speeds" "[I") (List.mem_of_getElem? (i := 2) rfl)) (fun _ h9 => h9) rfl dX1_rest_9 ?_
  refine lv_iconst (v := 0) hx hb dX1_rest_12 (by decide) ?_
  obtain ⟨speeds_3, hq_4, hf⟩ := ob1_some hf
  refine vm_cSv (isC := [2]) (wc := (wd_J7_fill_53178 Γ q2 36 speeds)) (w1 := (wd_J7_fill_53178 Γ q2 36 speeds_3)) (As := [.ref q2, .int 0]) (rest := []) ⟨hx, hb, hml, hown, hts⟩ hE hP hD hS hA rfl rfl rfl (c_J7_fill_53178 l Γ _ q2 36 speeds 0 speeds_3 hq_4) (va_cwS 2 hts gX1_rest_J7_fill_53178 rfl rfl rfl (by decide +kernel) ⟨Nat.le_of_ble_eq_true rfl, Nat.le_of_ble_eq_true rfl⟩) rfl hl.1 rfl (Nat.le_of_ble_eq_true rfl) dX1_rest_13 ⟨Nat.zero_le _, Nat.zero_le _⟩ (fun H locs hP hD hS => ?_)
  have hP : va_P Γ.1 vwCl (wd_X1_rest Γ q0 q1 q2 d0 d1 d2 d3 columns rows heights_1 speeds_3) H := hP
  have hD : va_D A (wd_X1_rest Γ q0 q1 q2 d0 d1 d2 d3 columns rows heights_1 speeds_3) := hD
  subst hout; obtain ⟨rfl, rfl⟩ := rt2 hf
  subst hQQ
  exact W.vret hx hb hr (fun t ht hW => ⟨⟨(), rfl, trivial, by rw [ht]; exact hP, hD⟩, hS.F ht⟩) hS.2.2 dX1_rest_16
def wd_X1_step (Γ : GE) (q0 q1 q2 q3 q4 d0 d1 d2 d3 d4 d5 : Nat) (columns : Int32) (rows : Int32) (heights : Nat → Int32) (speeds : Nat → Int32) (p1_columns : Int32) (p1_rows : Int32) (p1_numbers : Nat → Int32) : va_W := [(q0, .inr (1, [.ref q1, .ref q2, .ref d0, .ref d1, .ref d2, .int columns, .int rows, .ref d3])), (q1, .inl (Γ.2.1 0, 36, .inl heights)), (q2, .inl (Γ.2.1 0, 36, .inl speeds)), (q3, .inr (2, [.int p1_columns, .int p1_rows, .ref q4, .ref d4, .ref d5])), (q4, .inl (Γ.2.1 0, 7, .inl p1_numbers))]
def f_X1_step_197 (heights : Nat → Int32) (speeds : Nat → Int32) : Option ((Nat → Int32) × (Nat → Int32)) := some (heights, speeds)
def f_X1_step_128b (p1_columns : Int32) (p1_rows : Int32) (x6 : Int32) (heights : Nat → Int32) (speeds : Nat → Int32) (x7 : Int32) (k : (((Nat → Int32) × (Nat → Int32) × Int32) → Option ((Nat → Int32) × (Nat → Int32)))) : Option ((Nat → Int32) × (Nat → Int32)) := ob1 (f_X2_cells p1_columns p1_rows) (fun r_1 => if r_1 ≤ x7 then (some (heights, speeds)) else (if inb x7 36 = true then if inb x7 36 = true then if ¬ x6 = 0 then if inb x7 36 = true then if inb x7 36 = true then if inb x7 36 = true then if inb x7 36 = true then k ((upd heights (x7.toNatClampNeg) (if (-9999) < (if ((heights (x7.toNatClampNeg)) + ((upd speeds (x7.toNatClampNeg) ((speeds (x7.toNatClampNeg)) - ((speeds (x7.toNatClampNeg)) / x6))) (x7.toNatClampNeg))) < 9999 then ((heights (x7.toNatClampNeg)) + ((upd speeds (x7.toNatClampNeg) ((speeds (x7.toNatClampNeg)) - ((speeds (x7.toNatClampNeg)) / x6))) (x7.toNatClampNeg))) else 9999) then (if ((heights (x7.toNatClampNeg)) + ((upd speeds (x7.toNatClampNeg) ((speeds (x7.toNatClampNeg)) - ((speeds (x7.toNatClampNeg)) / x6))) (x7.toNatClampNeg))) < 9999 then ((heights (x7.toNatClampNeg)) + ((upd speeds (x7.toNatClampNeg) ((speeds (x7.toNatClampNeg)) - ((speeds (x7.toNatClampNeg)) / x6))) (x7.toNatClampNeg))) else 9999) else (-9999))), (upd speeds (x7.toNatClampNeg) ((speeds (x7.toNatClampNeg)) - ((speeds (x7.toNatClampNeg)) / x6))), (x7 + 1)) else none else none else none else none else none else none else none))
def f_X1_step_128s (p1_columns : Int32) (p1_rows : Int32) (x6 : Int32) : ((Nat → Int32) × (Nat → Int32) × Int32) → (((Nat → Int32) × (Nat → Int32) × Int32) → Option ((Nat → Int32) × (Nat → Int32))) → Option ((Nat → Int32) × (Nat → Int32)) := fun t k => f_X1_step_128b p1_columns p1_rows x6 t.1 t.2.1 t.2.2 k
def f_X1_step_128 (heights : Nat → Int32) (speeds : Nat → Int32) (p1_columns : Int32) (p1_rows : Int32) (x6 : Int32) (x7 : Int32) : Option ((Nat → Int32) × (Nat → Int32)) := obx (vm_it (f_X1_step_128s p1_columns p1_rows x6) FU (heights, speeds, x7)) (un2 (fun heights speeds => f_X1_step_197 heights speeds))
def f_X1_step_115 (heights : Nat → Int32) (speeds : Nat → Int32) (p1_columns : Int32) (p1_rows : Int32) (p1_numbers : Nat → Int32) (s1 : Int32) (s2 : Int32) (s3 : Int32) : Option ((Nat → Int32) × (Nat → Int32)) := if inb s1 36 = true then f_X1_step_128 heights (upd speeds (s1.toNatClampNeg) (s2 + s3)) p1_columns p1_rows (p1_numbers 2) 0 else none
def f_X1_step_77 (heights : Nat → Int32) (speeds : Nat → Int32) (p1_columns : Int32) (p1_rows : Int32) (p1_numbers : Nat → Int32) (x2 : Int32) (x3 : Int32) : Option ((Nat → Int32) × (Nat → Int32)) := if inb (p1_numbers 6) 36 = true then if ¬ x2 = 0 then if (x2 / 2) ≤ (vm_rem x3 x2) then (f_X1_step_115 heights speeds p1_columns p1_rows p1_numbers (p1_numbers 6) (speeds ((p1_numbers 6).toNatClampNeg)) (-(p1_numbers 3))) else (f_X1_step_115 heights speeds p1_columns p1_rows p1_numbers (p1_numbers 6) (speeds ((p1_numbers 6).toNatClampNeg)) (p1_numbers 3)) else none else none
def f_X1_step_71 (heights : Nat → Int32) (speeds : Nat → Int32) (p1_columns : Int32) (p1_rows : Int32) (p1_numbers : Nat → Int32) (x2 : Int32) (x3 : Int32) (x4 : Int32) (x5 : Int32) (k : (((Nat → Int32) × Int32) → Option (Nat → Int32))) : Option (Nat → Int32) := k (speeds, (x5 + 1))
def f_X1_step_23b (heights : Nat → Int32) (p1_columns : Int32) (p1_rows : Int32) (p1_numbers : Nat → Int32) (x2 : Int32) (x3 : Int32) (x4 : Int32) (x5 : Int32) (speeds : Nat → Int32) (x6 : Int32) (k : (((Nat → Int32) × Int32) → Option (Nat → Int32))) : Option (Nat → Int32) := if p1_columns ≤ x6 then (some speeds) else (if inb ((p1_columns * x5) + x6) 36 = true then ob1 (f_X1_pull heights p1_columns p1_rows p1_numbers x6 x5) (fun r_17 => if inb ((p1_columns * x5) + x6) 36 = true then k ((upd speeds (((p1_columns * x5) + x6).toNatClampNeg) ((speeds (((p1_columns * x5) + x6).toNatClampNeg)) + ((x4 * r_17) / 16))), (x6 + 1)) else none) else none)
def f_X1_step_23s (heights : Nat → Int32) (p1_columns : Int32) (p1_rows : Int32) (p1_numbers : Nat → Int32) (x2 : Int32) (x3 : Int32) (x4 : Int32) (x5 : Int32) : ((Nat → Int32) × Int32) → (((Nat → Int32) × Int32) → Option (Nat → Int32)) → Option (Nat → Int32) := fun t k => f_X1_step_23b heights p1_columns p1_rows p1_numbers x2 x3 x4 x5 t.1 t.2 k
def f_X1_step_23 (heights : Nat → Int32) (speeds : Nat → Int32) (p1_columns : Int32) (p1_rows : Int32) (p1_numbers : Nat → Int32) (x2 : Int32) (x3 : Int32) (x4 : Int32) (x5 : Int32) (x6 : Int32) (k : (((Nat → Int32) × Int32) → Option (Nat → Int32))) : Option (Nat → Int32) := obx (vm_it (f_X1_step_23s heights p1_columns p1_rows p1_numbers x2 x3 x4 x5) FU (speeds, x6)) (fun speeds => f_X1_step_71 heights speeds p1_columns p1_rows p1_numbers x2 x3 x4 x5 k)
def f_X1_step_11b (heights : Nat → Int32) (p1_columns : Int32) (p1_rows : Int32) (p1_numbers : Nat → Int32) (x2 : Int32) (x3 : Int32) (x4 : Int32) (speeds : Nat → Int32) (x5 : Int32) (k : (((Nat → Int32) × Int32) → Option (Nat → Int32))) : Option (Nat → Int32) := if p1_rows ≤ x5 then (some speeds) else (f_X1_step_23 heights speeds p1_columns p1_rows p1_numbers x2 x3 x4 x5 0 k)
def f_X1_step_11s (heights : Nat → Int32) (p1_columns : Int32) (p1_rows : Int32) (p1_numbers : Nat → Int32) (x2 : Int32) (x3 : Int32) (x4 : Int32) : ((Nat → Int32) × Int32) → (((Nat → Int32) × Int32) → Option (Nat → Int32)) → Option (Nat → Int32) := fun t k => f_X1_step_11b heights p1_columns p1_rows p1_numbers x2 x3 x4 t.1 t.2 k
def f_X1_step_11 (heights : Nat → Int32) (speeds : Nat → Int32) (p1_columns : Int32) (p1_rows : Int32) (p1_numbers : Nat → Int32) (x2 : Int32) (x3 : Int32) (x4 : Int32) (x5 : Int32) : Option ((Nat → Int32) × (Nat → Int32)) := obx (vm_it (f_X1_step_11s heights p1_columns p1_rows p1_numbers x2 x3 x4) FU (speeds, x5)) (fun speeds => f_X1_step_77 heights speeds p1_columns p1_rows p1_numbers x2 x3)
def f_X1_step (heights : Nat → Int32) (speeds : Nat → Int32) (p1_columns : Int32) (p1_rows : Int32) (p1_numbers : Nat → Int32) (x2 : Int32) (x3 : Int32) : Option ((Nat → Int32) × (Nat → Int32)) := f_X1_step_11 heights speeds p1_columns p1_rows p1_numbers x2 x3 (p1_numbers 1) 0
set_option maxHeartbeats 4000000 in
set_option maxRecDepth 100000 in
theorem c_X1_step (l : Launch) (Γ : GE) (sz : Nat) (q0 q1 q2 q3 q4 d0 d1 d2 d3 d4 d5 : Nat) (columns : Int32) (rows : Int32) (heights : Nat → Int32) (speeds : Nat → Int32) (p1_columns : Int32) (p1_rows : Int32) (p1_numbers : Nat → Int32) (x2 : Int32) (x3 : Int32) (o_heights : Nat → Int32) (o_speeds : Nat → Int32) (hf : f_X1_step heights speeds p1_columns p1_rows p1_numbers x2 x3 = some (o_heights, o_speeds)) : MetV l yX1_step wsX1_step ({ frames := 1, cells := 0, slots := 0, locals := 31 } : Room) Γ [.ref q0, .ref q3, .int x2, .int x3] (wd_X1_step Γ q0 q1 q2 q3 q4 d0 d1 d2 d3 d4 d5 columns rows heights speeds p1_columns p1_rows p1_numbers) (wd_X1_step Γ q0 q1 q2 q3 q4 d0 d1 d2 d3 d4 d5 columns rows o_heights o_speeds p1_columns p1_rows p1_numbers) sz := by
  refine Met.ofW (cc := cX1_step) (maxL := 8) (ret := none) (by decide) rfl ?_
  intro p e s m args below meth c s₁ B hml hv
  obtain ⟨rfl, hsz, hE, hP, hD⟩ := hv
  have hx := B.exec
  have hb := B.bytes
  have hr := B.returns
  have hts := atoms_spec (ws := wsX1_step) B.pre
  have hown : s.vm.findClass RX1 = some m.cls := findClass_of_methodNamed B.named
  have hlocks := B.notSynchronized
  subst hsz
  generalize hAe : va_A (wd_X1_step Γ q0 q1 q2 q3 q4 d0 d1 d2 d3 d4 d5 columns rows heights speeds p1_columns p1_rows p1_numbers) s.heap.size = A at hE hD ⊢
  have hA : ∀ q : Nat, s.heap.size ≤ q → A q := fun q h => by rw [← hAe]; exact Or.inr h
  clear hAe
  have hS : va_S A s.heap s.heap [] := va_S.rf
  have hK := hE.1
  have hl := lv_entry ([.ref q0, .ref q3, .int x2, .int x3]) (n := 8) (Nat.le_of_ble_eq_true rfl)
  rw [lg_entry_eq]
  generalize (lg_sl ([.ref q0, .ref q3, .int x2, .int x3]) ++ List.replicate (8 - (lg_sl ([.ref q0, .ref q3, .int x2, .int x3])).length) Slot.unset).toArray = ls at hl ⊢
  have hl : lv_has ls 8 [(0, .ref q0), (1, .ref q3), (2, .int x2), (3, .int x3)] := hl
  have hi1 : ∀ w ∈ u_ws RX1 TX1 8, w ∈ wsX1_step := fun w h => (List.mem_cons_of_mem _ (List.mem_append_right _ h))
  have hi2 : ∀ w ∈ u_ws RX2 TX2 5, w ∈ wsX1_step := fun w h => (List.mem_cons_of_mem _ (List.mem_append_left _ (List.mem_append_right _ h)))
  obtain ⟨out, hout⟩ : ∃ o, o = (o_heights, o_speeds) := ⟨_, rfl⟩
  rw [← hout] at hf
  obtain ⟨QQ, hQQ⟩ : ∃ Q, Q = MQ below (va_Qv (fun _ : Unit => True) (CQ Γ (wd_X1_step Γ q0 q1 q2 q3 q4 d0 d1 d2 d3 d4 d5 columns rows o_heights o_speeds p1_columns p1_rows p1_numbers) A) A) (([.ref q0, .ref q3, .int x2, .int x3] : List Value).toArray) s 0 0 A := ⟨_, rfl⟩
  show W p l e ({ frames := 1, cells := 0, slots := 0, locals := 31 } : Room) s m (([.ref q0, .ref q3, .int x2, .int x3] : List Value).toArray) below meth c s.heap [] 0 0 (MQ below _ (([.ref q0, .ref q3, .int x2, .int x3] : List Value).toArray) s 0 0 A) (F0 m 0 ls [])
  rw [← hQQ]
  have K_197 : ∀ (heights : Nat → Int32) (speeds : Nat → Int32) {H : Heap} {locs : List Loc} {ls : Array Slot}, va_P Γ.1 vwCl (wd_X1_step Γ q0 q1 q2 q3 q4 d0 d1 d2 d3 d4 d5 columns rows heights speeds p1_columns p1_rows p1_numbers) H → va_D A (wd_X1_step Γ q0 q1 q2 q3 q4 d0 d1 d2 d3 d4 d5 columns rows heights speeds p1_columns p1_rows p1_numbers) → va_S A s.heap H locs → lv_has ls 8 [] → f_X1_step_197 heights speeds = some out → W p l e ({ frames := 1, cells := 0, slots := 0, locals := 31 } : Room) s m ([.ref q0, .ref q3, .int x2, .int x3] : List Value).toArray below meth c H locs 0 0 QQ (F0 m 197 ls []) := by
    intro heights speeds H locs ls hP hD hS hl hf
    unfold f_X1_step_197 at hf
    subst hout; obtain ⟨rfl, rfl⟩ := rt2 hf
    subst hQQ
    exact W.vret hx hb hr (fun t ht hW => ⟨⟨(), rfl, trivial, by rw [ht]; exact hP, hD⟩, hS.F ht⟩) hS.2.2 dX1_step_197
  have K_128 : ∀ (heights : Nat → Int32) (speeds : Nat → Int32) (x6 : Int32) (x7 : Int32) {H : Heap} {locs : List Loc} {ls : Array Slot}, va_P Γ.1 vwCl (wd_X1_step Γ q0 q1 q2 q3 q4 d0 d1 d2 d3 d4 d5 columns rows heights speeds p1_columns p1_rows p1_numbers) H → va_D A (wd_X1_step Γ q0 q1 q2 q3 q4 d0 d1 d2 d3 d4 d5 columns rows heights speeds p1_columns p1_rows p1_numbers) → va_S A s.heap H locs → lv_has ls 8 [(0, .ref q0), (1, .ref q3), (6, .int x6), (7, .int x7)] → f_X1_step_128 heights speeds p1_columns p1_rows x6 x7 = some out → W p l e ({ frames := 1, cells := 0, slots := 0, locals := 31 } : Room) s m ([.ref q0, .ref q3, .int x2, .int x3] : List Value).toArray below meth c H locs 0 0 QQ (F0 m 128 ls []) := by
    intro heights speeds x6 x7 H locs ls hP hD hS hl hf
    unfold f_X1_step_128 at hf
    obtain ⟨ex128, h1, hX128⟩ := obx_some hf
    have LP : ∀ (n : Nat) (heights : Nat → Int32) (speeds : Nat → Int32) (x7 : Int32)  {H : Heap} {locs : List Loc} {ls : Array Slot}, va_P Γ.1 vwCl (wd_X1_step Γ q0 q1 q2 q3 q4 d0 d1 d2 d3 d4 d5 columns rows heights speeds p1_columns p1_rows p1_numbers) H → va_D A (wd_X1_step Γ q0 q1 q2 q3 q4 d0 d1 d2 d3 d4 d5 columns rows heights speeds p1_columns p1_rows p1_numbers) → va_S A s.heap H locs → lv_has ls 8 [(0, .ref q0), (1, .ref q3), (6, .int x6), (7, .int x7)] → vm_it (f_X1_step_128s p1_columns p1_rows x6) n (heights, speeds, x7) = some ex128 → W p l e ({ frames := 1, cells := 0, slots := 0, locals := 31 } : Room) s m ([.ref q0, .ref q3, .int x2, .int x3] : List Value).toArray below meth c H locs 0 0 QQ (F0 m 128 ls []) := by
      clear hP hD hS hl hf h1
      intro n
      induction n with
      | zero => intro heights speeds x7 H locs ls hP hD hS hl hf; exact (vm_it_0 hf).elim
      | succ n ih =>
        intro heights speeds x7 H locs ls hP hD hS hl hf
        have hf : f_X1_step_128b p1_columns p1_rows x6 heights speeds x7 (vm_it (f_X1_step_128s p1_columns p1_rows x6) n) = some ex128 := hf
        unfold f_X1_step_128b at hf
        refine lv_iload hx hb dX1_step_128 (lv_at hl 3 rfl) ?_
        refine lv_aload_n hx hb dX1_step_130 rfl (lv_at hl 1 rfl) ?_
        obtain ⟨r_1, hq_2, hf⟩ := ob1_some hf
        refine vm_cNi (isC := [3]) (wc := (wd_X2_cells Γ q3 q4 d4 d5 p1_columns p1_rows)) (w1 := (wd_X2_cells Γ q3 q4 d4 d5 p1_columns p1_rows)) (As := []) (rest := [.int x7]) ⟨hx, hb, hml, hown, hts⟩ hE hP hD hS hA rfl rfl rfl (c_X2_cells l Γ _ q3 q4 d4 d5 p1_columns p1_rows r_1 hq_2) ⟨va_cnB 0 hts ggX1_step_X2_cells rfl rfl rfl (nmX1_76 hE.2.1) (hts (.initialized RX2) (List.mem_of_getElem? (i := 16) rfl)) (by decide +kernel) ⟨Nat.le_of_ble_eq_true rfl, Nat.le_of_ble_eq_true rfl⟩, (hts (.instanceMethod yX2_cells) (List.mem_of_getElem? (i := 15) rfl)), (hts (.selects RX2 yX2_cells yX2_cells) (List.mem_of_getElem? (i := 17) rfl))⟩ (va_recv (ci := 2) (q0 := 3) hK hP rfl rfl) rfl hl.1 rfl (Nat.le_of_ble_eq_true rfl) dX1_step_131 ⟨Nat.zero_le _, Nat.zero_le _⟩ (fun H locs hP hD hS => ?_)
        have hP : va_P Γ.1 vwCl (wd_X1_step Γ q0 q1 q2 q3 q4 d0 d1 d2 d3 d4 d5 columns rows heights speeds p1_columns p1_rows p1_numbers) H := hP
        have hD : va_D A (wd_X1_step Γ q0 q1 q2 q3 q4 d0 d1 d2 d3 d4 d5 columns rows heights speeds p1_columns p1_rows p1_numbers) := hD
        refine lv_icmp_ge (tgt := 197) hx hb dX1_step_134 (by decide) (fun hc_3 => ?_) (fun hc_3 => ?_)
        · have hf := vm_pos hc_3 hf
          have hX := hX128
          rw [← Option.some.inj hf] at hX
          exact K_197 heights speeds hP hD hS (lv_sub hl [] rfl) hX
        · have hf := vm_neg hc_3 hf
          refine lv_aload_n hx hb dX1_step_137 rfl (lv_at hl 0 rfl) ?_
          refine va_get (D := Γ.1) (ci := 1) (v := .ref q2) (C := RX1) (T := TX1) (N := 8) hx hb hts hi1 hown hK hP 0 rfl rfl 1 (by decide) (hts (.fieldLink RX1 15 "SandPlates$Motions" "speeds" "[I") (List.mem_of_getElem? (i := 1) rfl)) (fun _ h9 => h9) rfl dX1_step_138 ?_
          refine lv_iload hx hb dX1_step_141 (lv_at hl 3 rfl) ?_
          refine lv_dup2_11 hx hb dX1_step_143 rfl rfl ?_
          obtain ⟨hc_4, hf⟩ := vm_ck hf
          refine vm_iald hx hb hK hP 2 0 rfl rfl hc_4 (j := x7.toNatClampNeg) rfl dX1_step_144 ?_
          refine lv_aload_n hx hb dX1_step_145 rfl (lv_at hl 0 rfl) ?_
          refine va_get (D := Γ.1) (ci := 1) (v := .ref q2) (C := RX1) (T := TX1) (N := 8) hx hb hts hi1 hown hK hP 0 rfl rfl 1 (by decide) (hts (.fieldLink RX1 15 "SandPlates$Motions" "speeds" "[I") (List.mem_of_getElem? (i := 1) rfl)) (fun _ h9 => h9) rfl dX1_step_146 ?_
          refine lv_iload hx hb dX1_step_149 (lv_at hl 3 rfl) ?_
          obtain ⟨hc_5, hf⟩ := vm_ck hf
          refine vm_iald hx hb hK hP 2 0 rfl rfl hc_5 (j := x7.toNatClampNeg) rfl dX1_step_151 ?_
          refine lv_iload hx hb dX1_step_152 (lv_at hl 2 rfl) ?_
          obtain ⟨hc_6, hf⟩ := vm_ck hf
          refine lv_idiv hx hb dX1_step_154 hc_6 ?_
          refine lv_isub hx hb dX1_step_155 ?_
          obtain ⟨hc_7, hf⟩ := vm_ck hf
          refine vm_iast hx hb hK hP hD hS 2 0 rfl rfl hc_7 (j := (x7.toNatClampNeg)) rfl dX1_step_156 (fun H locs hP hD hS => ?_)
          have hP : va_P Γ.1 vwCl (wd_X1_step Γ q0 q1 q2 q3 q4 d0 d1 d2 d3 d4 d5 columns rows heights (upd speeds (x7.toNatClampNeg) ((speeds (x7.toNatClampNeg)) - ((speeds (x7.toNatClampNeg)) / x6))) p1_columns p1_rows p1_numbers) H := hP
          have hD : va_D A (wd_X1_step Γ q0 q1 q2 q3 q4 d0 d1 d2 d3 d4 d5 columns rows heights (upd speeds (x7.toNatClampNeg) ((speeds (x7.toNatClampNeg)) - ((speeds (x7.toNatClampNeg)) / x6))) p1_columns p1_rows p1_numbers) := hD
          refine lv_aload_n hx hb dX1_step_157 rfl (lv_at hl 0 rfl) ?_
          refine va_get (D := Γ.1) (ci := 1) (v := .ref q1) (C := RX1) (T := TX1) (N := 8) hx hb hts hi1 hown hK hP 0 rfl rfl 0 (by decide) (hts (.fieldLink RX1 9 "SandPlates$Motions" "heights" "[I") (List.mem_of_getElem? (i := 2) rfl)) (fun _ h9 => h9) rfl dX1_step_158 ?_
          refine lv_iload hx hb dX1_step_161 (lv_at hl 3 rfl) ?_
          refine lv_sipush (v := (-9999)) hx hb dX1_step_163 (by decide) ?_
          refine lv_sipush (v := 9999) hx hb dX1_step_166 (by decide) ?_
          refine lv_aload_n hx hb dX1_step_169 rfl (lv_at hl 0 rfl) ?_
          refine va_get (D := Γ.1) (ci := 1) (v := .ref q1) (C := RX1) (T := TX1) (N := 8) hx hb hts hi1 hown hK hP 0 rfl rfl 0 (by decide) (hts (.fieldLink RX1 9 "SandPlates$Motions" "heights" "[I") (List.mem_of_getElem? (i := 2) rfl)) (fun _ h9 => h9) rfl dX1_step_170 ?_
          refine lv_iload hx hb dX1_step_173 (lv_at hl 3 rfl) ?_
          obtain ⟨hc_8, hf⟩ := vm_ck hf
          refine vm_iald hx hb hK hP 1 0 rfl rfl hc_8 (j := x7.toNatClampNeg) rfl dX1_step_175 ?_
          refine lv_aload_n hx hb dX1_step_176 rfl (lv_at hl 0 rfl) ?_
          refine va_get (D := Γ.1) (ci := 1) (v := .ref q2) (C := RX1) (T := TX1) (N := 8) hx hb hts hi1 hown hK hP 0 rfl rfl 1 (by decide) (hts (.fieldLink RX1 15 "SandPlates$Motions" "speeds" "[I") (List.mem_of_getElem? (i := 1) rfl)) (fun _ h9 => h9) rfl dX1_step_177 ?_
          refine lv_iload hx hb dX1_step_180 (lv_at hl 3 rfl) ?_
          obtain ⟨hc_9, hf⟩ := vm_ck hf
          refine vm_iald hx hb hK hP 2 0 rfl rfl hc_9 (j := x7.toNatClampNeg) rfl dX1_step_182 ?_
          refine lv_iadd hx hb dX1_step_183 ?_
          refine va_mmin hx hb (hml.trans hl.1.symm) hown (hts (.methodLink RX1 90 Lib.Math.min.name) (List.mem_of_getElem? (i := 3) rfl)) (hts (.static Lib.Math.min.name) (List.mem_of_getElem? (i := 4) rfl)) (hts (.initialized "java/lang/Math") (List.mem_of_getElem? (i := 5) rfl)) (hts (.code Lib.Math.min.name Lib.Math.min.code 2 (some .int)) (List.mem_of_getElem? (i := 6) rfl)) (Nat.le_of_ble_eq_true rfl) (Nat.le_of_ble_eq_true rfl) (Nat.zero_le _) (Nat.zero_le _) dX1_step_184 ?_
          refine va_mmax hx hb (hml.trans hl.1.symm) hown (hts (.methodLink RX1 84 Lib.Math.max.name) (List.mem_of_getElem? (i := 7) rfl)) (hts (.static Lib.Math.max.name) (List.mem_of_getElem? (i := 8) rfl)) (hts (.initialized "java/lang/Math") (List.mem_of_getElem? (i := 5) rfl)) (hts (.code Lib.Math.max.name Lib.Math.max.code 2 (some .int)) (List.mem_of_getElem? (i := 9) rfl)) (Nat.le_of_ble_eq_true rfl) (Nat.le_of_ble_eq_true rfl) (Nat.zero_le _) (Nat.zero_le _) dX1_step_187 ?_
          obtain ⟨hc_10, hf⟩ := vm_ck hf
          refine vm_iast hx hb hK hP hD hS 1 0 rfl rfl hc_10 (j := (x7.toNatClampNeg)) rfl dX1_step_190 (fun H locs hP hD hS => ?_)
          have hP : va_P Γ.1 vwCl (wd_X1_step Γ q0 q1 q2 q3 q4 d0 d1 d2 d3 d4 d5 columns rows (upd heights (x7.toNatClampNeg) (if (-9999) < (if ((heights (x7.toNatClampNeg)) + ((upd speeds (x7.toNatClampNeg) ((speeds (x7.toNatClampNeg)) - ((speeds (x7.toNatClampNeg)) / x6))) (x7.toNatClampNeg))) < 9999 then ((heights (x7.toNatClampNeg)) + ((upd speeds (x7.toNatClampNeg) ((speeds (x7.toNatClampNeg)) - ((speeds (x7.toNatClampNeg)) / x6))) (x7.toNatClampNeg))) else 9999) then (if ((heights (x7.toNatClampNeg)) + ((upd speeds (x7.toNatClampNeg) ((speeds (x7.toNatClampNeg)) - ((speeds (x7.toNatClampNeg)) / x6))) (x7.toNatClampNeg))) < 9999 then ((heights (x7.toNatClampNeg)) + ((upd speeds (x7.toNatClampNeg) ((speeds (x7.toNatClampNeg)) - ((speeds (x7.toNatClampNeg)) / x6))) (x7.toNatClampNeg))) else 9999) else (-9999))) (upd speeds (x7.toNatClampNeg) ((speeds (x7.toNatClampNeg)) - ((speeds (x7.toNatClampNeg)) / x6))) p1_columns p1_rows p1_numbers) H := hP
          have hD : va_D A (wd_X1_step Γ q0 q1 q2 q3 q4 d0 d1 d2 d3 d4 d5 columns rows (upd heights (x7.toNatClampNeg) (if (-9999) < (if ((heights (x7.toNatClampNeg)) + ((upd speeds (x7.toNatClampNeg) ((speeds (x7.toNatClampNeg)) - ((speeds (x7.toNatClampNeg)) / x6))) (x7.toNatClampNeg))) < 9999 then ((heights (x7.toNatClampNeg)) + ((upd speeds (x7.toNatClampNeg) ((speeds (x7.toNatClampNeg)) - ((speeds (x7.toNatClampNeg)) / x6))) (x7.toNatClampNeg))) else 9999) then (if ((heights (x7.toNatClampNeg)) + ((upd speeds (x7.toNatClampNeg) ((speeds (x7.toNatClampNeg)) - ((speeds (x7.toNatClampNeg)) / x6))) (x7.toNatClampNeg))) < 9999 then ((heights (x7.toNatClampNeg)) + ((upd speeds (x7.toNatClampNeg) ((speeds (x7.toNatClampNeg)) - ((speeds (x7.toNatClampNeg)) / x6))) (x7.toNatClampNeg))) else 9999) else (-9999))) (upd speeds (x7.toNatClampNeg) ((speeds (x7.toNatClampNeg)) - ((speeds (x7.toNatClampNeg)) / x6))) p1_columns p1_rows p1_numbers) := hD
          refine lv_iinc (v := (x7 + 1)) (lv' := [(7, .int (x7 + 1)), (0, .ref q0), (1, .ref q3), (6, .int x6)]) hx hb dX1_step_191 hl (k := 3) rfl rfl (by decide) rfl (fun ls hl => ?_)
          refine lv_goto (tgt := 128) hx hb dX1_step_194 (by decide) ?_
          exact ih (upd heights (x7.toNatClampNeg) (if (-9999) < (if ((heights (x7.toNatClampNeg)) + ((upd speeds (x7.toNatClampNeg) ((speeds (x7.toNatClampNeg)) - ((speeds (x7.toNatClampNeg)) / x6))) (x7.toNatClampNeg))) < 9999 then ((heights (x7.toNatClampNeg)) + ((upd speeds (x7.toNatClampNeg) ((speeds (x7.toNatClampNeg)) - ((speeds (x7.toNatClampNeg)) / x6))) (x7.toNatClampNeg))) else 9999) then (if ((heights (x7.toNatClampNeg)) + ((upd speeds (x7.toNatClampNeg) ((speeds (x7.toNatClampNeg)) - ((speeds (x7.toNatClampNeg)) / x6))) (x7.toNatClampNeg))) < 9999 then ((heights (x7.toNatClampNeg)) + ((upd speeds (x7.toNatClampNeg) ((speeds (x7.toNatClampNeg)) - ((speeds (x7.toNatClampNeg)) / x6))) (x7.toNatClampNeg))) else 9999) else (-9999))) (upd speeds (x7.toNatClampNeg) ((speeds (x7.toNatClampNeg)) - ((speeds (x7.toNatClampNeg)) / x6))) (x7 + 1) hP hD hS (lv_sub hl [1, 2, 3, 0] rfl) hf
    exact LP FU heights speeds x7 hP hD hS hl h1
  have K_115 : ∀ (heights : Nat → Int32) (speeds : Nat → Int32) (s1 : Int32) (s2 : Int32) (s3 : Int32) {H : Heap} {locs : List Loc} {ls : Array Slot}, va_P Γ.1 vwCl (wd_X1_step Γ q0 q1 q2 q3 q4 d0 d1 d2 d3 d4 d5 columns rows heights speeds p1_columns p1_rows p1_numbers) H → va_D A (wd_X1_step Γ q0 q1 q2 q3 q4 d0 d1 d2 d3 d4 d5 columns rows heights speeds p1_columns p1_rows p1_numbers) → va_S A s.heap H locs → lv_has ls 8 [(0, .ref q0), (1, .ref q3)] → f_X1_step_115 heights speeds p1_columns p1_rows p1_numbers s1 s2 s3 = some out → W p l e ({ frames := 1, cells := 0, slots := 0, locals := 31 } : Room) s m ([.ref q0, .ref q3, .int x2, .int x3] : List Value).toArray below meth c H locs 0 0 QQ (F0 m 115 ls [.int s3, .int s2, .int s1, .ref q2]) := by
    intro heights speeds s1 s2 s3 H locs ls hP hD hS hl hf
    unfold f_X1_step_115 at hf
    refine lv_iadd hx hb dX1_step_115 ?_
    obtain ⟨hc_11, hf⟩ := vm_ck hf
    refine vm_iast hx hb hK hP hD hS 2 0 rfl rfl hc_11 (j := (s1.toNatClampNeg)) rfl dX1_step_116 (fun H locs hP hD hS => ?_)
    have hP : va_P Γ.1 vwCl (wd_X1_step Γ q0 q1 q2 q3 q4 d0 d1 d2 d3 d4 d5 columns rows heights (upd speeds (s1.toNatClampNeg) (s2 + s3)) p1_columns p1_rows p1_numbers) H := hP
    have hD : va_D A (wd_X1_step Γ q0 q1 q2 q3 q4 d0 d1 d2 d3 d4 d5 columns rows heights (upd speeds (s1.toNatClampNeg) (s2 + s3)) p1_columns p1_rows p1_numbers) := hD
    refine lv_aload_n hx hb dX1_step_117 rfl (lv_at hl 1 rfl) ?_
    refine va_getN (D := Γ.1) (ci := 2) (v := .ref q4) (C := RX2) (T := TX2) (N := 5) hx hb hts hi2 hown hK hP 3 rfl rfl 2 (by decide) (va_Nw.use rfl (nfX1_48 hE.2.1)) (fun _ h9 => h9) rfl dX1_step_118 ?_
    refine lv_iconst (v := 2) hx hb dX1_step_121 (by decide) ?_
    refine vm_iald hx hb hK hP 4 0 rfl rfl (by decide +kernel) (j := 2) rfl dX1_step_122 ?_
    refine lv_istore (lv' := [(6, .int (p1_numbers 2)), (0, .ref q0), (1, .ref q3)]) hx hb dX1_step_123 hl (by decide) rfl (fun ls hl => ?_)
    refine lv_iconst (v := 0) hx hb dX1_step_125 (by decide) ?_
    refine lv_istore (lv' := [(7, .int 0), (6, .int (p1_numbers 2)), (0, .ref q0), (1, .ref q3)]) hx hb dX1_step_126 hl (by decide) rfl (fun ls hl => ?_)
    exact K_128 heights (upd speeds (s1.toNatClampNeg) (s2 + s3)) (p1_numbers 2) 0 hP hD hS (lv_sub hl [2, 3, 1, 0] rfl) hf
  have K_77 : ∀ (heights : Nat → Int32) (speeds : Nat → Int32) {H : Heap} {locs : List Loc} {ls : Array Slot}, va_P Γ.1 vwCl (wd_X1_step Γ q0 q1 q2 q3 q4 d0 d1 d2 d3 d4 d5 columns rows heights speeds p1_columns p1_rows p1_numbers) H → va_D A (wd_X1_step Γ q0 q1 q2 q3 q4 d0 d1 d2 d3 d4 d5 columns rows heights speeds p1_columns p1_rows p1_numbers) → va_S A s.heap H locs → lv_has ls 8 [(0, .ref q0), (1, .ref q3), (2, .int x2), (3, .int x3)] → f_X1_step_77 heights speeds p1_columns p1_rows p1_numbers x2 x3 = some out → W p l e ({ frames := 1, cells := 0, slots := 0, locals := 31 } : Room) s m ([.ref q0, .ref q3, .int x2, .int x3] : List Value).toArray below meth c H locs 0 0 QQ (F0 m 77 ls []) := by
    intro heights speeds H locs ls hP hD hS hl hf
    unfold f_X1_step_77 at hf
    refine lv_aload_n hx hb dX1_step_77 rfl (lv_at hl 1 rfl) ?_
    refine va_getN (D := Γ.1) (ci := 2) (v := .ref q4) (C := RX2) (T := TX2) (N := 5) hx hb hts hi2 hown hK hP 3 rfl rfl 2 (by decide) (va_Nw.use rfl (nfX1_48 hE.2.1)) (fun _ h9 => h9) rfl dX1_step_78 ?_
    refine lv_iconst (v := 3) hx hb dX1_step_81 (by decide) ?_
    refine vm_iald hx hb hK hP 4 0 rfl rfl (by decide +kernel) (j := 3) rfl dX1_step_82 ?_
    refine lv_istore (lv' := [(5, .int (p1_numbers 3)), (0, .ref q0), (1, .ref q3), (2, .int x2), (3, .int x3)]) hx hb dX1_step_83 hl (by decide) rfl (fun ls hl => ?_)
    refine lv_aload_n hx hb dX1_step_85 rfl (lv_at hl 1 rfl) ?_
    refine va_get (D := Γ.1) (ci := 1) (v := .ref q2) (C := RX1) (T := TX1) (N := 8) hx hb hts hi1 hown hK hP 0 rfl rfl 1 (by decide) (hts (.fieldLink RX1 15 "SandPlates$Motions" "speeds" "[I") (List.mem_of_getElem? (i := 1) rfl)) (fun _ h9 => h9) rfl dX1_step_86 ?_
    refine lv_aload_n hx hb dX1_step_89 rfl (lv_at hl 2 rfl) ?_
    refine va_getN (D := Γ.1) (ci := 2) (v := .ref q4) (C := RX2) (T := TX2) (N := 5) hx hb hts hi2 hown hK hP 3 rfl rfl 2 (by decide) (va_Nw.use rfl (nfX1_48 hE.2.1)) (fun _ h9 => h9) rfl dX1_step_90 ?_
    refine lv_bipush (v := 6) hx hb dX1_step_93 (by decide) ?_
    refine vm_iald hx hb hK hP 4 0 rfl rfl (by decide +kernel) (j := 6) rfl dX1_step_95 ?_
    refine lv_dup2_11 hx hb dX1_step_96 rfl rfl ?_
    obtain ⟨hc_12, hf⟩ := vm_ck hf
    refine vm_iald hx hb hK hP 2 0 rfl rfl hc_12 (j := (p1_numbers 6).toNatClampNeg) rfl dX1_step_97 ?_
    refine lv_iload_n hx hb dX1_step_98 rfl (lv_at hl 4 rfl) ?_
    refine lv_iload_n hx hb dX1_step_99 rfl (lv_at hl 3 rfl) ?_
    obtain ⟨hc_13, hf⟩ := vm_ck hf
    refine lv_irem hx hb dX1_step_100 hc_13 ?_
    refine lv_iload_n hx hb dX1_step_101 rfl (lv_at hl 3 rfl) ?_
    refine lv_iconst (v := 2) hx hb dX1_step_102 (by decide) ?_
    refine lv_idiv hx hb dX1_step_103 (by decide) ?_
    refine lv_icmp_ge (tgt := 112) hx hb dX1_step_104 (by decide) (fun hc_14 => ?_) (fun hc_14 => ?_)
    · have hf := vm_pos hc_14 hf
      refine lv_iload hx hb dX1_step_112 (lv_at hl 0 rfl) ?_
      refine lv_ineg hx hb dX1_step_114 ?_
      exact K_115 heights speeds (p1_numbers 6) (speeds ((p1_numbers 6).toNatClampNeg)) (-(p1_numbers 3)) hP hD hS (lv_sub hl [1, 2] rfl) hf
    · have hf := vm_neg hc_14 hf
      refine lv_iload hx hb dX1_step_107 (lv_at hl 0 rfl) ?_
      refine lv_goto (tgt := 115) hx hb dX1_step_109 (by decide) ?_
      exact K_115 heights speeds (p1_numbers 6) (speeds ((p1_numbers 6).toNatClampNeg)) (p1_numbers 3) hP hD hS (lv_sub hl [1, 2] rfl) hf
  have K_11 : ∀ (heights : Nat → Int32) (speeds : Nat → Int32) (x4 : Int32) (x5 : Int32) {H : Heap} {locs : List Loc} {ls : Array Slot}, va_P Γ.1 vwCl (wd_X1_step Γ q0 q1 q2 q3 q4 d0 d1 d2 d3 d4 d5 columns rows heights speeds p1_columns p1_rows p1_numbers) H → va_D A (wd_X1_step Γ q0 q1 q2 q3 q4 d0 d1 d2 d3 d4 d5 columns rows heights speeds p1_columns p1_rows p1_numbers) → va_S A s.heap H locs → lv_has ls 8 [(0, .ref q0), (1, .ref q3), (2, .int x2), (3, .int x3), (4, .int x4), (5, .int x5)] → f_X1_step_11 heights speeds p1_columns p1_rows p1_numbers x2 x3 x4 x5 = some out → W p l e ({ frames := 1, cells := 0, slots := 0, locals := 31 } : Room) s m ([.ref q0, .ref q3, .int x2, .int x3] : List Value).toArray below meth c H locs 0 0 QQ (F0 m 11 ls []) := by
    intro heights speeds x4 x5 H locs ls hP hD hS hl hf
    unfold f_X1_step_11 at hf
    obtain ⟨ex11, h1, hX11⟩ := obx_some hf
    have LP : ∀ (n : Nat) (speeds : Nat → Int32) (x5 : Int32)  {H : Heap} {locs : List Loc} {ls : Array Slot}, va_P Γ.1 vwCl (wd_X1_step Γ q0 q1 q2 q3 q4 d0 d1 d2 d3 d4 d5 columns rows heights speeds p1_columns p1_rows p1_numbers) H → va_D A (wd_X1_step Γ q0 q1 q2 q3 q4 d0 d1 d2 d3 d4 d5 columns rows heights speeds p1_columns p1_rows p1_numbers) → va_S A s.heap H locs → lv_has ls 8 [(0, .ref q0), (1, .ref q3), (2, .int x2), (3, .int x3), (4, .int x4), (5, .int x5)] → vm_it (f_X1_step_11s heights p1_columns p1_rows p1_numbers x2 x3 x4) n (speeds, x5) = some ex11 → W p l e ({ frames := 1, cells := 0, slots := 0, locals := 31 } : Room) s m ([.ref q0, .ref q3, .int x2, .int x3] : List Value).toArray below meth c H locs 0 0 QQ (F0 m 11 ls []) := by
      clear hP hD hS hl hf h1
      intro n
      induction n with
      | zero => intro speeds x5 H locs ls hP hD hS hl hf; exact (vm_it_0 hf).elim
      | succ n ih =>
        intro speeds x5 H locs ls hP hD hS hl hf
        have hf : f_X1_step_11b heights p1_columns p1_rows p1_numbers x2 x3 x4 speeds x5 (vm_it (f_X1_step_11s heights p1_columns p1_rows p1_numbers x2 x3 x4) n) = some ex11 := hf
        have K_71 : ∀ (speeds : Nat → Int32) (x5 : Int32) {H : Heap} {locs : List Loc} {ls : Array Slot}, va_P Γ.1 vwCl (wd_X1_step Γ q0 q1 q2 q3 q4 d0 d1 d2 d3 d4 d5 columns rows heights speeds p1_columns p1_rows p1_numbers) H → va_D A (wd_X1_step Γ q0 q1 q2 q3 q4 d0 d1 d2 d3 d4 d5 columns rows heights speeds p1_columns p1_rows p1_numbers) → va_S A s.heap H locs → lv_has ls 8 [(0, .ref q0), (1, .ref q3), (2, .int x2), (3, .int x3), (4, .int x4), (5, .int x5)] → f_X1_step_71 heights speeds p1_columns p1_rows p1_numbers x2 x3 x4 x5 (vm_it (f_X1_step_11s heights p1_columns p1_rows p1_numbers x2 x3 x4) n) = some ex11 → W p l e ({ frames := 1, cells := 0, slots := 0, locals := 31 } : Room) s m ([.ref q0, .ref q3, .int x2, .int x3] : List Value).toArray below meth c H locs 0 0 QQ (F0 m 71 ls []) := by
          intro speeds x5 H locs ls hP hD hS hl hf
          unfold f_X1_step_71 at hf
          refine lv_iinc (v := (x5 + 1)) (lv' := [(5, .int (x5 + 1)), (0, .ref q0), (1, .ref q3), (2, .int x2), (3, .int x3), (4, .int x4)]) hx hb dX1_step_71 hl (k := 5) rfl rfl (by decide) rfl (fun ls hl => ?_)
          refine lv_goto (tgt := 11) hx hb dX1_step_74 (by decide) ?_
          exact ih speeds (x5 + 1) hP hD hS (lv_sub hl [1, 2, 3, 4, 5, 0] rfl) hf
        have K_23 : ∀ (speeds : Nat → Int32) (x5 : Int32) (x6 : Int32) {H : Heap} {locs : List Loc} {ls : Array Slot}, va_P Γ.1 vwCl (wd_X1_step Γ q0 q1 q2 q3 q4 d0 d1 d2 d3 d4 d5 columns rows heights speeds p1_columns p1_rows p1_numbers) H → va_D A (wd_X1_step Γ q0 q1 q2 q3 q4 d0 d1 d2 d3 d4 d5 columns rows heights speeds p1_columns p1_rows p1_numbers) → va_S A s.heap H locs → lv_has ls 8 [(0, .ref q0), (1, .ref q3), (2, .int x2), (3, .int x3), (4, .int x4), (5, .int x5), (6, .int x6)] → f_X1_step_23 heights speeds p1_columns p1_rows p1_numbers x2 x3 x4 x5 x6 (vm_it (f_X1_step_11s heights p1_columns p1_rows p1_numbers x2 x3 x4) n) = some ex11 → W p l e ({ frames := 1, cells := 0, slots := 0, locals := 31 } : Room) s m ([.ref q0, .ref q3, .int x2, .int x3] : List Value).toArray below meth c H locs 0 0 QQ (F0 m 23 ls []) := by
          intro speeds x5 x6 H locs ls hP hD hS hl hf
          unfold f_X1_step_23 at hf
          obtain ⟨ex23, h1, hX23⟩ := obx_some hf
          have LP : ∀ (n : Nat) (speeds : Nat → Int32) (x6 : Int32)  {H : Heap} {locs : List Loc} {ls : Array Slot}, va_P Γ.1 vwCl (wd_X1_step Γ q0 q1 q2 q3 q4 d0 d1 d2 d3 d4 d5 columns rows heights speeds p1_columns p1_rows p1_numbers) H → va_D A (wd_X1_step Γ q0 q1 q2 q3 q4 d0 d1 d2 d3 d4 d5 columns rows heights speeds p1_columns p1_rows p1_numbers) → va_S A s.heap H locs → lv_has ls 8 [(0, .ref q0), (1, .ref q3), (2, .int x2), (3, .int x3), (4, .int x4), (5, .int x5), (6, .int x6)] → vm_it (f_X1_step_23s heights p1_columns p1_rows p1_numbers x2 x3 x4 x5) n (speeds, x6) = some ex23 → W p l e ({ frames := 1, cells := 0, slots := 0, locals := 31 } : Room) s m ([.ref q0, .ref q3, .int x2, .int x3] : List Value).toArray below meth c H locs 0 0 QQ (F0 m 23 ls []) := by
            clear hP hD hS hl hf h1
            intro n
            induction n with
            | zero => intro speeds x6 H locs ls hP hD hS hl hf; exact (vm_it_0 hf).elim
            | succ n ih =>
              intro speeds x6 H locs ls hP hD hS hl hf
              have hf : f_X1_step_23b heights p1_columns p1_rows p1_numbers x2 x3 x4 x5 speeds x6 (vm_it (f_X1_step_23s heights p1_columns p1_rows p1_numbers x2 x3 x4 x5) n) = some ex23 := hf
              unfold f_X1_step_23b at hf
              refine lv_iload hx hb dX1_step_23 (lv_at hl 6 rfl) ?_
              refine lv_aload_n hx hb dX1_step_25 rfl (lv_at hl 1 rfl) ?_
              refine va_getN (D := Γ.1) (ci := 2) (v := .int p1_columns) (C := RX2) (T := TX2) (N := 5) hx hb hts hi2 hown hK hP 3 rfl rfl 0 (by decide) (va_Nw.use rfl (nfX1_59 hE.2.1)) (fun _ h9 => h9) rfl dX1_step_26 ?_
              refine lv_icmp_ge (tgt := 71) hx hb dX1_step_29 (by decide) (fun hc_15 => ?_) (fun hc_15 => ?_)
              · have hf := vm_pos hc_15 hf
                have hX := hX23
                rw [← Option.some.inj hf] at hX
                exact K_71 speeds x5 hP hD hS (lv_sub hl [0, 1, 2, 3, 4, 5] rfl) hX
              · have hf := vm_neg hc_15 hf
                refine lv_aload_n hx hb dX1_step_32 rfl (lv_at hl 0 rfl) ?_
                refine va_get (D := Γ.1) (ci := 1) (v := .ref q2) (C := RX1) (T := TX1) (N := 8) hx hb hts hi1 hown hK hP 0 rfl rfl 1 (by decide) (hts (.fieldLink RX1 15 "SandPlates$Motions" "speeds" "[I") (List.mem_of_getElem? (i := 1) rfl)) (fun _ h9 => h9) rfl dX1_step_33 ?_
                refine lv_aload_n hx hb dX1_step_36 rfl (lv_at hl 1 rfl) ?_
                refine va_getN (D := Γ.1) (ci := 2) (v := .int p1_columns) (C := RX2) (T := TX2) (N := 5) hx hb hts hi2 hown hK hP 3 rfl rfl 0 (by decide) (va_Nw.use rfl (nfX1_59 hE.2.1)) (fun _ h9 => h9) rfl dX1_step_37 ?_
                refine lv_iload hx hb dX1_step_40 (lv_at hl 5 rfl) ?_
                refine lv_imul hx hb dX1_step_42 ?_
                refine lv_iload hx hb dX1_step_43 (lv_at hl 6 rfl) ?_
                refine lv_iadd hx hb dX1_step_45 ?_
                refine lv_dup2_11 hx hb dX1_step_46 rfl rfl ?_
                obtain ⟨hc_16, hf⟩ := vm_ck hf
                refine vm_iald hx hb hK hP 2 0 rfl rfl hc_16 (j := ((p1_columns * x5) + x6).toNatClampNeg) rfl dX1_step_47 ?_
                refine lv_iload hx hb dX1_step_48 (lv_at hl 4 rfl) ?_
                refine lv_aload_n hx hb dX1_step_50 rfl (lv_at hl 0 rfl) ?_
                refine lv_aload_n hx hb dX1_step_51 rfl (lv_at hl 1 rfl) ?_
                refine lv_iload hx hb dX1_step_52 (lv_at hl 6 rfl) ?_
                refine lv_iload hx hb dX1_step_54 (lv_at hl 5 rfl) ?_
                obtain ⟨r_17, hq_18, hf⟩ := ob1_some hf
                refine vm_cVi (isC := [0, 1, 3, 4]) (wc := (wd_X1_pull Γ q0 q1 q3 q4 q2 d0 d1 d2 d3 d4 d5 columns rows heights p1_columns p1_rows p1_numbers)) (w1 := (wd_X1_pull Γ q0 q1 q3 q4 q2 d0 d1 d2 d3 d4 d5 columns rows heights p1_columns p1_rows p1_numbers)) (As := [.ref q3, .int x6, .int x5]) (rest := [.int x4, .int (speeds (((p1_columns * x5) + x6).toNatClampNeg)), .int ((p1_columns * x5) + x6), .ref q2]) ⟨hx, hb, hml, hown, hts⟩ hE hP hD hS hA rfl rfl rfl (c_X1_pull l Γ _ q0 q1 q3 q4 q2 d0 d1 d2 d3 d4 d5 columns rows heights p1_columns p1_rows p1_numbers x6 x5 r_17 hq_18) (cwV 3 hts gX1_step_X1_pull rfl rfl rfl (by decide +kernel) ⟨Nat.le_of_ble_eq_true rfl, Nat.le_of_ble_eq_true rfl⟩) (va_recv (ci := 1) (q0 := 0) hK hP rfl rfl) rfl hl.1 rfl (Nat.le_of_ble_eq_true rfl) dX1_step_56 ⟨Nat.zero_le _, Nat.zero_le _⟩ (fun H locs hP hD hS => ?_)
                have hP : va_P Γ.1 vwCl (wd_X1_step Γ q0 q1 q2 q3 q4 d0 d1 d2 d3 d4 d5 columns rows heights speeds p1_columns p1_rows p1_numbers) H := hP
                have hD : va_D A (wd_X1_step Γ q0 q1 q2 q3 q4 d0 d1 d2 d3 d4 d5 columns rows heights speeds p1_columns p1_rows p1_numbers) := hD
                refine lv_imul hx hb dX1_step_59 ?_
                refine lv_bipush (v := 16) hx hb dX1_step_60 (by decide) ?_
                refine lv_idiv hx hb dX1_step_62 (by decide) ?_
                refine lv_iadd hx hb dX1_step_63 ?_
                obtain ⟨hc_19, hf⟩ := vm_ck hf
                refine vm_iast hx hb hK hP hD hS 2 0 rfl rfl hc_19 (j := (((p1_columns * x5) + x6).toNatClampNeg)) rfl dX1_step_64 (fun H locs hP hD hS => ?_)
                have hP : va_P Γ.1 vwCl (wd_X1_step Γ q0 q1 q2 q3 q4 d0 d1 d2 d3 d4 d5 columns rows heights (upd speeds (((p1_columns * x5) + x6).toNatClampNeg) ((speeds (((p1_columns * x5) + x6).toNatClampNeg)) + ((x4 * r_17) / 16))) p1_columns p1_rows p1_numbers) H := hP
                have hD : va_D A (wd_X1_step Γ q0 q1 q2 q3 q4 d0 d1 d2 d3 d4 d5 columns rows heights (upd speeds (((p1_columns * x5) + x6).toNatClampNeg) ((speeds (((p1_columns * x5) + x6).toNatClampNeg)) + ((x4 * r_17) / 16))) p1_columns p1_rows p1_numbers) := hD
                refine lv_iinc (v := (x6 + 1)) (lv' := [(6, .int (x6 + 1)), (0, .ref q0), (1, .ref q3), (2, .int x2), (3, .int x3), (4, .int x4), (5, .int x5)]) hx hb dX1_step_65 hl (k := 6) rfl rfl (by decide) rfl (fun ls hl => ?_)
                refine lv_goto (tgt := 23) hx hb dX1_step_68 (by decide) ?_
                exact ih (upd speeds (((p1_columns * x5) + x6).toNatClampNeg) ((speeds (((p1_columns * x5) + x6).toNatClampNeg)) + ((x4 * r_17) / 16))) (x6 + 1) hP hD hS (lv_sub hl [1, 2, 3, 4, 5, 6, 0] rfl) hf
          exact LP FU speeds x6 hP hD hS hl h1
        unfold f_X1_step_11b at hf
        refine lv_iload hx hb dX1_step_11 (lv_at hl 5 rfl) ?_
        refine lv_aload_n hx hb dX1_step_13 rfl (lv_at hl 1 rfl) ?_
        refine va_getN (D := Γ.1) (ci := 2) (v := .int p1_rows) (C := RX2) (T := TX2) (N := 5) hx hb hts hi2 hown hK hP 3 rfl rfl 1 (by decide) (va_Nw.use rfl (nfX1_63 hE.2.1)) (fun _ h9 => h9) rfl dX1_step_14 ?_
        refine lv_icmp_ge (tgt := 77) hx hb dX1_step_17 (by decide) (fun hc_20 => ?_) (fun hc_20 => ?_)
        · have hf := vm_pos hc_20 hf
          have hX := hX11
          rw [← Option.some.inj hf] at hX
          exact K_77 heights speeds hP hD hS (lv_sub hl [0, 1, 2, 3] rfl) hX
        · have hf := vm_neg hc_20 hf
          refine lv_iconst (v := 0) hx hb dX1_step_20 (by decide) ?_
          refine lv_istore (lv' := [(6, .int 0), (0, .ref q0), (1, .ref q3), (2, .int x2), (3, .int x3), (4, .int x4), (5, .int x5)]) hx hb dX1_step_21 hl (by decide) rfl (fun ls hl => ?_)
          exact K_23 speeds x5 0 hP hD hS (lv_sub hl [1, 2, 3, 4, 5, 6, 0] rfl) hf
    exact LP FU speeds x5 hP hD hS hl h1
  unfold f_X1_step at hf
  refine lv_aload_n hx hb dX1_step_0 rfl (lv_at hl 1 rfl) ?_
  refine va_getN (D := Γ.1) (ci := 2) (v := .ref q4) (C := RX2) (T := TX2) (N := 5) hx hb hts hi2 hown hK hP 3 rfl rfl 2 (by decide) (va_Nw.use rfl (nfX1_48 hE.2.1)) (fun _ h9 => h9) rfl dX1_step_1 ?_
  refine lv_iconst (v := 1) hx hb dX1_step_4 (by decide) ?_
  refine vm_iald hx hb hK hP 4 0 rfl rfl (by decide +kernel) (j := 1) rfl dX1_step_5 ?_
  refine lv_istore (lv' := [(4, .int (p1_numbers 1)), (0, .ref q0), (1, .ref q3), (2, .int x2), (3, .int x3)]) hx hb dX1_step_6 hl (by decide) rfl (fun ls hl => ?_)
  refine lv_iconst (v := 0) hx hb dX1_step_8 (by decide) ?_
  refine lv_istore (lv' := [(5, .int 0), (4, .int (p1_numbers 1)), (0, .ref q0), (1, .ref q3), (2, .int x2), (3, .int x3)]) hx hb dX1_step_9 hl (by decide) rfl (fun ls hl => ?_)
  exact K_11 heights speeds (p1_numbers 1) 0 hP hD hS (lv_sub hl [2, 3, 4, 5, 1, 0] rfl) hf
def wd_X1_noteHeights (Γ : GE) (q0 q1 q2 q3 d0 d1 d2 d3 : Nat) (columns : Int32) (rows : Int32) (heights : Nat → Int32) (lowest : Nat → Int32) (p2_a : Nat → Int32) : va_W := [(q0, .inr (1, [.ref q1, .ref d0, .ref q2, .ref d1, .ref d2, .int columns, .int rows, .ref d3])), (q1, .inl (Γ.2.1 0, 36, .inl heights)), (q2, .inl (Γ.2.1 0, 36, .inl lowest)), (q3, .inl (Γ.2.1 0, 36, .inl p2_a))]
def f_X1_noteHeights_49 (lowest : Nat → Int32) (p2_a : Nat → Int32) : Option ((Nat → Int32) × (Nat → Int32)) := some (lowest, p2_a)
def f_X1_noteHeights_2b (heights : Nat → Int32) (x1 : Int32) (lowest : Nat → Int32) (p2_a : Nat → Int32) (x3 : Int32) (k : (((Nat → Int32) × (Nat → Int32) × Int32) → Option ((Nat → Int32) × (Nat → Int32)))) : Option ((Nat → Int32) × (Nat → Int32)) := if x1 ≤ x3 then (some (lowest, p2_a)) else (if inb x3 36 = true then if inb x3 36 = true then if inb x3 36 = true then if inb x3 36 = true then if inb x3 36 = true then if inb x3 36 = true then k ((upd lowest (x3.toNatClampNeg) (if (heights (x3.toNatClampNeg)) < (lowest (x3.toNatClampNeg)) then (heights (x3.toNatClampNeg)) else (lowest (x3.toNatClampNeg)))), (upd p2_a (x3.toNatClampNeg) (if (p2_a (x3.toNatClampNeg)) < (heights (x3.toNatClampNeg)) then (heights (x3.toNatClampNeg)) else (p2_a (x3.toNatClampNeg)))), (x3 + 1)) else none else none else none else none else none else none)
def f_X1_noteHeights_2s (heights : Nat → Int32) (x1 : Int32) : ((Nat → Int32) × (Nat → Int32) × Int32) → (((Nat → Int32) × (Nat → Int32) × Int32) → Option ((Nat → Int32) × (Nat → Int32))) → Option ((Nat → Int32) × (Nat → Int32)) := fun t k => f_X1_noteHeights_2b heights x1 t.1 t.2.1 t.2.2 k
def f_X1_noteHeights_2 (heights : Nat → Int32) (lowest : Nat → Int32) (p2_a : Nat → Int32) (x1 : Int32) (x3 : Int32) : Option ((Nat → Int32) × (Nat → Int32)) := obx (vm_it (f_X1_noteHeights_2s heights x1) FU (lowest, p2_a, x3)) (un2 (fun lowest p2_a => f_X1_noteHeights_49 lowest p2_a))
def f_X1_noteHeights (heights : Nat → Int32) (lowest : Nat → Int32) (p2_a : Nat → Int32) (x1 : Int32) : Option ((Nat → Int32) × (Nat → Int32)) := f_X1_noteHeights_2 heights lowest p2_a x1 0
set_option maxHeartbeats 4000000 in
set_option maxRecDepth 100000 in
theorem c_X1_noteHeights (l : Launch) (Γ : GE) (sz : Nat) (q0 q1 q2 q3 d0 d1 d2 d3 : Nat) (columns : Int32) (rows : Int32) (heights : Nat → Int32) (lowest : Nat → Int32) (p2_a : Nat → Int32) (x1 : Int32) (o_lowest : Nat → Int32) (o_p2_a : Nat → Int32) (hf : f_X1_noteHeights heights lowest p2_a x1 = some (o_lowest, o_p2_a)) : MetV l yX1_noteHeights wsX1_noteHeights ({ frames := 1, cells := 0, slots := 0, locals := 21 } : Room) Γ [.ref q0, .int x1, .ref q3] (wd_X1_noteHeights Γ q0 q1 q2 q3 d0 d1 d2 d3 columns rows heights lowest p2_a) (wd_X1_noteHeights Γ q0 q1 q2 q3 d0 d1 d2 d3 columns rows heights o_lowest o_p2_a) sz := by
  refine Met.ofW (cc := cX1_noteHeights) (maxL := 4) (ret := none) (by decide) rfl ?_
  intro p e s m args below meth c s₁ B hml hv
  obtain ⟨rfl, hsz, hE, hP, hD⟩ := hv
  have hx := B.exec
  have hb := B.bytes
  have hr := B.returns
  have hts := atoms_spec (ws := wsX1_noteHeights) B.pre
  have hown : s.vm.findClass RX1 = some m.cls := findClass_of_methodNamed B.named
  have hlocks := B.notSynchronized
  subst hsz
  generalize hAe : va_A (wd_X1_noteHeights Γ q0 q1 q2 q3 d0 d1 d2 d3 columns rows heights lowest p2_a) s.heap.size = A at hE hD ⊢
  have hA : ∀ q : Nat, s.heap.size ≤ q → A q := fun q h => by rw [← hAe]; exact Or.inr h
  clear hAe
  have hS : va_S A s.heap s.heap [] := va_S.rf
  have hK := hE.1
  have hl := lv_entry ([.ref q0, .int x1, .ref q3]) (n := 4) (Nat.le_of_ble_eq_true rfl)
  rw [lg_entry_eq]
  generalize (lg_sl ([.ref q0, .int x1, .ref q3]) ++ List.replicate (4 - (lg_sl ([.ref q0, .int x1, .ref q3])).length) Slot.unset).toArray = ls at hl ⊢
  have hl : lv_has ls 4 [(0, .ref q0), (1, .int x1), (2, .ref q3)] := hl
  have hi1 : ∀ w ∈ u_ws RX1 TX1 8, w ∈ wsX1_noteHeights := fun w h => (List.mem_cons_of_mem _ (List.mem_append_right _ h))
  obtain ⟨out, hout⟩ : ∃ o, o = (o_lowest, o_p2_a) := ⟨_, rfl⟩
  rw [← hout] at hf
  obtain ⟨QQ, hQQ⟩ : ∃ Q, Q = MQ below (va_Qv (fun _ : Unit => True) (CQ Γ (wd_X1_noteHeights Γ q0 q1 q2 q3 d0 d1 d2 d3 columns rows heights o_lowest o_p2_a) A) A) (([.ref q0, .int x1, .ref q3] : List Value).toArray) s 0 0 A := ⟨_, rfl⟩
  show W p l e ({ frames := 1, cells := 0, slots := 0, locals := 21 } : Room) s m (([.ref q0, .int x1, .ref q3] : List Value).toArray) below meth c s.heap [] 0 0 (MQ below _ (([.ref q0, .int x1, .ref q3] : List Value).toArray) s 0 0 A) (F0 m 0 ls [])
  rw [← hQQ]
  have K_49 : ∀ (lowest : Nat → Int32) (p2_a : Nat → Int32) {H : Heap} {locs : List Loc} {ls : Array Slot}, va_P Γ.1 vwCl (wd_X1_noteHeights Γ q0 q1 q2 q3 d0 d1 d2 d3 columns rows heights lowest p2_a) H → va_D A (wd_X1_noteHeights Γ q0 q1 q2 q3 d0 d1 d2 d3 columns rows heights lowest p2_a) → va_S A s.heap H locs → lv_has ls 4 [] → f_X1_noteHeights_49 lowest p2_a = some out → W p l e ({ frames := 1, cells := 0, slots := 0, locals := 21 } : Room) s m ([.ref q0, .int x1, .ref q3] : List Value).toArray below meth c H locs 0 0 QQ (F0 m 49 ls []) := by
    intro lowest p2_a H locs ls hP hD hS hl hf
    unfold f_X1_noteHeights_49 at hf
    subst hout; obtain ⟨rfl, rfl⟩ := rt2 hf
    subst hQQ
    exact W.vret hx hb hr (fun t ht hW => ⟨⟨(), rfl, trivial, by rw [ht]; exact hP, hD⟩, hS.F ht⟩) hS.2.2 dX1_noteHeights_49
  have K_2 : ∀ (lowest : Nat → Int32) (p2_a : Nat → Int32) (x3 : Int32) {H : Heap} {locs : List Loc} {ls : Array Slot}, va_P Γ.1 vwCl (wd_X1_noteHeights Γ q0 q1 q2 q3 d0 d1 d2 d3 columns rows heights lowest p2_a) H → va_D A (wd_X1_noteHeights Γ q0 q1 q2 q3 d0 d1 d2 d3 columns rows heights lowest p2_a) → va_S A s.heap H locs → lv_has ls 4 [(0, .ref q0), (1, .int x1), (2, .ref q3), (3, .int x3)] → f_X1_noteHeights_2 heights lowest p2_a x1 x3 = some out → W p l e ({ frames := 1, cells := 0, slots := 0, locals := 21 } : Room) s m ([.ref q0, .int x1, .ref q3] : List Value).toArray below meth c H locs 0 0 QQ (F0 m 2 ls []) := by
    intro lowest p2_a x3 H locs ls hP hD hS hl hf
    unfold f_X1_noteHeights_2 at hf
    obtain ⟨ex2, h1, hX2⟩ := obx_some hf
    have LP : ∀ (n : Nat) (lowest : Nat → Int32) (p2_a : Nat → Int32) (x3 : Int32)  {H : Heap} {locs : List Loc} {ls : Array Slot}, va_P Γ.1 vwCl (wd_X1_noteHeights Γ q0 q1 q2 q3 d0 d1 d2 d3 columns rows heights lowest p2_a) H → va_D A (wd_X1_noteHeights Γ q0 q1 q2 q3 d0 d1 d2 d3 columns rows heights lowest p2_a) → va_S A s.heap H locs → lv_has ls 4 [(0, .ref q0), (1, .int x1), (2, .ref q3), (3, .int x3)] → vm_it (f_X1_noteHeights_2s heights x1) n (lowest, p2_a, x3) = some ex2 → W p l e ({ frames := 1, cells := 0, slots := 0, locals := 21 } : Room) s m ([.ref q0, .int x1, .ref q3] : List Value).toArray below meth c H locs 0 0 QQ (F0 m 2 ls []) := by
      clear hP hD hS hl hf h1
      intro n
      induction n with
      | zero => intro lowest p2_a x3 H locs ls hP hD hS hl hf; exact (vm_it_0 hf).elim
      | succ n ih =>
        intro lowest p2_a x3 H locs ls hP hD hS hl hf
        have hf : f_X1_noteHeights_2b heights x1 lowest p2_a x3 (vm_it (f_X1_noteHeights_2s heights x1) n) = some ex2 := hf
        unfold f_X1_noteHeights_2b at hf
        refine lv_iload_n hx hb dX1_noteHeights_2 rfl (lv_at hl 3 rfl) ?_
        refine lv_iload_n hx hb dX1_noteHeights_3 rfl (lv_at hl 1 rfl) ?_
        refine lv_icmp_ge (tgt := 49) hx hb dX1_noteHeights_4 (by decide) (fun hc_1 => ?_) (fun hc_1 => ?_)
        · have hf := vm_pos hc_1 hf
          have hX := hX2
          rw [← Option.some.inj hf] at hX
          exact K_49 lowest p2_a hP hD hS (lv_sub hl [] rfl) hX
        · have hf := vm_neg hc_1 hf
          refine lv_aload_n hx hb dX1_noteHeights_7 rfl (lv_at hl 2 rfl) ?_
          refine lv_iload_n hx hb dX1_noteHeights_8 rfl (lv_at hl 3 rfl) ?_
          refine lv_aload_n hx hb dX1_noteHeights_9 rfl (lv_at hl 2 rfl) ?_
          refine lv_iload_n hx hb dX1_noteHeights_10 rfl (lv_at hl 3 rfl) ?_
          obtain ⟨hc_2, hf⟩ := vm_ck hf
          refine vm_iald hx hb hK hP 3 0 rfl rfl hc_2 (j := x3.toNatClampNeg) rfl dX1_noteHeights_11 ?_
          refine lv_aload_n hx hb dX1_noteHeights_12 rfl (lv_at hl 0 rfl) ?_
          refine va_get (D := Γ.1) (ci := 1) (v := .ref q1) (C := RX1) (T := TX1) (N := 8) hx hb hts hi1 hown hK hP 0 rfl rfl 0 (by decide) (hts (.fieldLink RX1 9 "SandPlates$Motions" "heights" "[I") (List.mem_of_getElem? (i := 1) rfl)) (fun _ h9 => h9) rfl dX1_noteHeights_13 ?_
          refine lv_iload_n hx hb dX1_noteHeights_16 rfl (lv_at hl 3 rfl) ?_
          obtain ⟨hc_3, hf⟩ := vm_ck hf
          refine vm_iald hx hb hK hP 1 0 rfl rfl hc_3 (j := x3.toNatClampNeg) rfl dX1_noteHeights_17 ?_
          refine va_mmax hx hb (hml.trans hl.1.symm) hown (hts (.methodLink RX1 84 Lib.Math.max.name) (List.mem_of_getElem? (i := 2) rfl)) (hts (.static Lib.Math.max.name) (List.mem_of_getElem? (i := 3) rfl)) (hts (.initialized "java/lang/Math") (List.mem_of_getElem? (i := 4) rfl)) (hts (.code Lib.Math.max.name Lib.Math.max.code 2 (some .int)) (List.mem_of_getElem? (i := 5) rfl)) (Nat.le_of_ble_eq_true rfl) (Nat.le_of_ble_eq_true rfl) (Nat.zero_le _) (Nat.zero_le _) dX1_noteHeights_18 ?_
          obtain ⟨hc_4, hf⟩ := vm_ck hf
          refine vm_iast hx hb hK hP hD hS 3 0 rfl rfl hc_4 (j := (x3.toNatClampNeg)) rfl dX1_noteHeights_21 (fun H locs hP hD hS => ?_)
          have hP : va_P Γ.1 vwCl (wd_X1_noteHeights Γ q0 q1 q2 q3 d0 d1 d2 d3 columns rows heights lowest (upd p2_a (x3.toNatClampNeg) (if (p2_a (x3.toNatClampNeg)) < (heights (x3.toNatClampNeg)) then (heights (x3.toNatClampNeg)) else (p2_a (x3.toNatClampNeg))))) H := hP
          have hD : va_D A (wd_X1_noteHeights Γ q0 q1 q2 q3 d0 d1 d2 d3 columns rows heights lowest (upd p2_a (x3.toNatClampNeg) (if (p2_a (x3.toNatClampNeg)) < (heights (x3.toNatClampNeg)) then (heights (x3.toNatClampNeg)) else (p2_a (x3.toNatClampNeg))))) := hD
          refine lv_aload_n hx hb dX1_noteHeights_22 rfl (lv_at hl 0 rfl) ?_
          refine va_get (D := Γ.1) (ci := 1) (v := .ref q2) (C := RX1) (T := TX1) (N := 8) hx hb hts hi1 hown hK hP 0 rfl rfl 2 (by decide) (hts (.fieldLink RX1 18 "SandPlates$Motions" "lowest" "[I") (List.mem_of_getElem? (i := 6) rfl)) (fun _ h9 => h9) rfl dX1_noteHeights_23 ?_
          refine lv_iload_n hx hb dX1_noteHeights_26 rfl (lv_at hl 3 rfl) ?_
          refine lv_aload_n hx hb dX1_noteHeights_27 rfl (lv_at hl 0 rfl) ?_
          refine va_get (D := Γ.1) (ci := 1) (v := .ref q2) (C := RX1) (T := TX1) (N := 8) hx hb hts hi1 hown hK hP 0 rfl rfl 2 (by decide) (hts (.fieldLink RX1 18 "SandPlates$Motions" "lowest" "[I") (List.mem_of_getElem? (i := 6) rfl)) (fun _ h9 => h9) rfl dX1_noteHeights_28 ?_
          refine lv_iload_n hx hb dX1_noteHeights_31 rfl (lv_at hl 3 rfl) ?_
          obtain ⟨hc_5, hf⟩ := vm_ck hf
          refine vm_iald hx hb hK hP 2 0 rfl rfl hc_5 (j := x3.toNatClampNeg) rfl dX1_noteHeights_32 ?_
          refine lv_aload_n hx hb dX1_noteHeights_33 rfl (lv_at hl 0 rfl) ?_
          refine va_get (D := Γ.1) (ci := 1) (v := .ref q1) (C := RX1) (T := TX1) (N := 8) hx hb hts hi1 hown hK hP 0 rfl rfl 0 (by decide) (hts (.fieldLink RX1 9 "SandPlates$Motions" "heights" "[I") (List.mem_of_getElem? (i := 1) rfl)) (fun _ h9 => h9) rfl dX1_noteHeights_34 ?_
          refine lv_iload_n hx hb dX1_noteHeights_37 rfl (lv_at hl 3 rfl) ?_
          obtain ⟨hc_6, hf⟩ := vm_ck hf
          refine vm_iald hx hb hK hP 1 0 rfl rfl hc_6 (j := x3.toNatClampNeg) rfl dX1_noteHeights_38 ?_
          refine va_mmin hx hb (hml.trans hl.1.symm) hown (hts (.methodLink RX1 90 Lib.Math.min.name) (List.mem_of_getElem? (i := 7) rfl)) (hts (.static Lib.Math.min.name) (List.mem_of_getElem? (i := 8) rfl)) (hts (.initialized "java/lang/Math") (List.mem_of_getElem? (i := 4) rfl)) (hts (.code Lib.Math.min.name Lib.Math.min.code 2 (some .int)) (List.mem_of_getElem? (i := 9) rfl)) (Nat.le_of_ble_eq_true rfl) (Nat.le_of_ble_eq_true rfl) (Nat.zero_le _) (Nat.zero_le _) dX1_noteHeights_39 ?_
          obtain ⟨hc_7, hf⟩ := vm_ck hf
          refine vm_iast hx hb hK hP hD hS 2 0 rfl rfl hc_7 (j := (x3.toNatClampNeg)) rfl dX1_noteHeights_42 (fun H locs hP hD hS => ?_)
          have hP : va_P Γ.1 vwCl (wd_X1_noteHeights Γ q0 q1 q2 q3 d0 d1 d2 d3 columns rows heights (upd lowest (x3.toNatClampNeg) (if (heights (x3.toNatClampNeg)) < (lowest (x3.toNatClampNeg)) then (heights (x3.toNatClampNeg)) else (lowest (x3.toNatClampNeg)))) (upd p2_a (x3.toNatClampNeg) (if (p2_a (x3.toNatClampNeg)) < (heights (x3.toNatClampNeg)) then (heights (x3.toNatClampNeg)) else (p2_a (x3.toNatClampNeg))))) H := hP
          have hD : va_D A (wd_X1_noteHeights Γ q0 q1 q2 q3 d0 d1 d2 d3 columns rows heights (upd lowest (x3.toNatClampNeg) (if (heights (x3.toNatClampNeg)) < (lowest (x3.toNatClampNeg)) then (heights (x3.toNatClampNeg)) else (lowest (x3.toNatClampNeg)))) (upd p2_a (x3.toNatClampNeg) (if (p2_a (x3.toNatClampNeg)) < (heights (x3.toNatClampNeg)) then (heights (x3.toNatClampNeg)) else (p2_a (x3.toNatClampNeg))))) := hD
          refine lv_iinc (v := (x3 + 1)) (lv' := [(3, .int (x3 + 1)), (0, .ref q0), (1, .int x1), (2, .ref q3)]) hx hb dX1_noteHeights_43 hl (k := 3) rfl rfl (by decide) rfl (fun ls hl => ?_)
          refine lv_goto (tgt := 2) hx hb dX1_noteHeights_46 (by decide) ?_
          exact ih (upd lowest (x3.toNatClampNeg) (if (heights (x3.toNatClampNeg)) < (lowest (x3.toNatClampNeg)) then (heights (x3.toNatClampNeg)) else (lowest (x3.toNatClampNeg)))) (upd p2_a (x3.toNatClampNeg) (if (p2_a (x3.toNatClampNeg)) < (heights (x3.toNatClampNeg)) then (heights (x3.toNatClampNeg)) else (p2_a (x3.toNatClampNeg)))) (x3 + 1) hP hD hS (lv_sub hl [1, 2, 3, 0] rfl) hf
    exact LP FU lowest p2_a x3 hP hD hS hl h1
  unfold f_X1_noteHeights at hf
  refine lv_iconst (v := 0) hx hb dX1_noteHeights_0 (by decide) ?_
  refine lv_istore_n (lv' := [(3, .int 0), (0, .ref q0), (1, .int x1), (2, .ref q3)]) hx hb dX1_noteHeights_1 rfl hl (by decide) rfl (fun ls hl => ?_)
  exact K_2 lowest p2_a 0 hP hD hS (lv_sub hl [1, 2, 3, 0] rfl) hf
def wd_X1_workOut (Γ : GE) (q0 q1 q2 q3 q4 q5 q6 d0 d1 d2 d3 d4 : Nat) (columns : Int32) (rows : Int32) (heights : Nat → Int32) (speeds : Nat → Int32) (lowest : Nat → Int32) (p1_columns : Int32) (p1_rows : Int32) (p1_numbers : Nat → Int32) (p3_a : Nat → Int32) : va_W := [(q0, .inr (1, [.ref q1, .ref q2, .ref q3, .ref d0, .ref d1, .int columns, .int rows, .ref d2])), (q1, .inl (Γ.2.1 0, 36, .inl heights)), (q2, .inl (Γ.2.1 0, 36, .inl speeds)), (q3, .inl (Γ.2.1 0, 36, .inl lowest)), (q4, .inr (2, [.int p1_columns, .int p1_rows, .ref q5, .ref d3, .ref d4])), (q5, .inl (Γ.2.1 0, 7, .inl p1_numbers)), (q6, .inl (Γ.2.1 0, 36, .inl p3_a))]
def f_X1_workOut_95 (heights : Nat → Int32) (speeds : Nat → Int32) (lowest : Nat → Int32) (p3_a : Nat → Int32) : Option ((Nat → Int32) × (Nat → Int32) × (Nat → Int32) × (Nat → Int32)) := some (heights, speeds, lowest, p3_a)
def f_X1_workOut_66b (heights : Nat → Int32) (speeds : Nat → Int32) (lowest : Nat → Int32) (p1_columns : Int32) (p1_rows : Int32) (p3_a : Nat → Int32) (x4 : Int32) (k : (((Nat → Int32) × Int32) → Option (Nat → Int32))) : Option (Nat → Int32) := ob1 (f_X2_cells p1_columns p1_rows) (fun r_1 => if r_1 ≤ x4 then (some p3_a) else (if inb x4 36 = true then if inb x4 36 = true then if inb x4 36 = true then k ((upd p3_a (x4.toNatClampNeg) ((p3_a (x4.toNatClampNeg)) - (lowest (x4.toNatClampNeg)))), (x4 + 1)) else none else none else none))
def f_X1_workOut_66s (heights : Nat → Int32) (speeds : Nat → Int32) (lowest : Nat → Int32) (p1_columns : Int32) (p1_rows : Int32) : ((Nat → Int32) × Int32) → (((Nat → Int32) × Int32) → Option (Nat → Int32)) → Option (Nat → Int32) := fun t k => f_X1_workOut_66b heights speeds lowest p1_columns p1_rows t.1 t.2 k
def f_X1_workOut_66 (heights : Nat → Int32) (speeds : Nat → Int32) (lowest : Nat → Int32) (p1_columns : Int32) (p1_rows : Int32) (p3_a : Nat → Int32) (x4 : Int32) : Option ((Nat → Int32) × (Nat → Int32) × (Nat → Int32) × (Nat → Int32)) := obx (vm_it (f_X1_workOut_66s heights speeds lowest p1_columns p1_rows) FU (p3_a, x4)) (fun p3_a => f_X1_workOut_95 heights speeds lowest p3_a)
def f_X1_workOut_63 (heights : Nat → Int32) (speeds : Nat → Int32) (lowest : Nat → Int32) (p1_columns : Int32) (p1_rows : Int32) (p3_a : Nat → Int32) : Option ((Nat → Int32) × (Nat → Int32) × (Nat → Int32) × (Nat → Int32)) := f_X1_workOut_66 heights speeds lowest p1_columns p1_rows p3_a 0
def f_X1_workOut_57 (heights : Nat → Int32) (speeds : Nat → Int32) (lowest : Nat → Int32) (p1_columns : Int32) (p1_rows : Int32) (p1_numbers : Nat → Int32) (p3_a : Nat → Int32) (x2 : Int32) (x4 : Int32) (k : (((Nat → Int32) × (Nat → Int32) × (Nat → Int32) × (Nat → Int32) × Int32) → Option ((Nat → Int32) × (Nat → Int32) × (Nat → Int32) × (Nat → Int32)))) : Option ((Nat → Int32) × (Nat → Int32) × (Nat → Int32) × (Nat → Int32)) := k (heights, speeds, lowest, p3_a, (x4 + 1))
def f_X1_workOut_24b (p1_columns : Int32) (p1_rows : Int32) (p1_numbers : Nat → Int32) (x2 : Int32) (heights : Nat → Int32) (speeds : Nat → Int32) (lowest : Nat → Int32) (p3_a : Nat → Int32) (x4 : Int32) (k : (((Nat → Int32) × (Nat → Int32) × (Nat → Int32) × (Nat → Int32) × Int32) → Option ((Nat → Int32) × (Nat → Int32) × (Nat → Int32) × (Nat → Int32)))) : Option ((Nat → Int32) × (Nat → Int32) × (Nat → Int32) × (Nat → Int32)) := if (30 + x2) ≤ x4 then (some (heights, speeds, lowest, p3_a)) else (ob2 (f_X1_step heights speeds p1_columns p1_rows p1_numbers x2 x4) (fun heights_8 speeds_9 => if x4 < 30 then (f_X1_workOut_57 heights_8 speeds_9 lowest p1_columns p1_rows p1_numbers p3_a x2 x4 k) else (ob1 (f_X2_cells p1_columns p1_rows) (fun r_12 => ob2 (f_X1_noteHeights heights_8 lowest p3_a r_12) (fun lowest_14 p3_a_15 => f_X1_workOut_57 heights_8 speeds_9 lowest_14 p1_columns p1_rows p1_numbers p3_a_15 x2 x4 k)))))
def f_X1_workOut_24s (p1_columns : Int32) (p1_rows : Int32) (p1_numbers : Nat → Int32) (x2 : Int32) : ((Nat → Int32) × (Nat → Int32) × (Nat → Int32) × (Nat → Int32) × Int32) → (((Nat → Int32) × (Nat → Int32) × (Nat → Int32) × (Nat → Int32) × Int32) → Option ((Nat → Int32) × (Nat → Int32) × (Nat → Int32) × (Nat → Int32))) → Option ((Nat → Int32) × (Nat → Int32) × (Nat → Int32) × (Nat → Int32)) := fun t k => f_X1_workOut_24b p1_columns p1_rows p1_numbers x2 t.1 t.2.1 t.2.2.1 t.2.2.2.1 t.2.2.2.2 k
def f_X1_workOut_24 (heights : Nat → Int32) (speeds : Nat → Int32) (lowest : Nat → Int32) (p1_columns : Int32) (p1_rows : Int32) (p1_numbers : Nat → Int32) (p3_a : Nat → Int32) (x2 : Int32) (x4 : Int32) : Option ((Nat → Int32) × (Nat → Int32) × (Nat → Int32) × (Nat → Int32)) := obx (vm_it (f_X1_workOut_24s p1_columns p1_rows p1_numbers x2) FU (heights, speeds, lowest, p3_a, x4)) (un4 (fun heights speeds lowest p3_a => f_X1_workOut_63 heights speeds lowest p1_columns p1_rows p3_a))
def f_X1_workOut (heights : Nat → Int32) (speeds : Nat → Int32) (lowest : Nat → Int32) (p1_columns : Int32) (p1_rows : Int32) (p1_numbers : Nat → Int32) (p3_a : Nat → Int32) (x2 : Int32) : Option ((Nat → Int32) × (Nat → Int32) × (Nat → Int32) × (Nat → Int32)) := ob2 (f_X1_rest heights speeds) (fun heights_17 speeds_18 => ob1 (f_J7_fill_53178 36 p3_a (-9999)) (fun p3_a_20 => ob1 (f_J7_fill_53178 36 lowest 9999) (fun lowest_22 => f_X1_workOut_24 heights_17 speeds_18 lowest_22 p1_columns p1_rows p1_numbers p3_a_20 x2 0)))
set_option maxHeartbeats 4000000 in
set_option maxRecDepth 100000 in
theorem c_X1_workOut (l : Launch) (Γ : GE) (sz : Nat) (q0 q1 q2 q3 q4 q5 q6 d0 d1 d2 d3 d4 : Nat) (columns : Int32) (rows : Int32) (heights : Nat → Int32) (speeds : Nat → Int32) (lowest : Nat → Int32) (p1_columns : Int32) (p1_rows : Int32) (p1_numbers : Nat → Int32) (p3_a : Nat → Int32) (x2 : Int32) (o_heights : Nat → Int32) (o_speeds : Nat → Int32) (o_lowest : Nat → Int32) (o_p3_a : Nat → Int32) (hf : f_X1_workOut heights speeds lowest p1_columns p1_rows p1_numbers p3_a x2 = some (o_heights, o_speeds, o_lowest, o_p3_a)) : MetV l yX1_workOut wsX1_workOut ({ frames := 2, cells := 0, slots := 0, locals := 58 } : Room) Γ [.ref q0, .ref q4, .int x2, .ref q6] (wd_X1_workOut Γ q0 q1 q2 q3 q4 q5 q6 d0 d1 d2 d3 d4 columns rows heights speeds lowest p1_columns p1_rows p1_numbers p3_a) (wd_X1_workOut Γ q0 q1 q2 q3 q4 q5 q6 d0 d1 d2 d3 d4 columns rows o_heights o_speeds o_lowest p1_columns p1_rows p1_numbers o_p3_a) sz := by
  refine Met.ofW (cc := cX1_workOut) (maxL := 5) (ret := none) (by decide) rfl ?_
  intro p e s m args below meth c s₁ B hml hv
  obtain ⟨rfl, hsz, hE, hP, hD⟩ := hv
  have hx := B.exec
  have hb := B.bytes
  have hr := B.returns
  have hts := atoms_spec (ws := wsX1_workOut) B.pre
  have hown : s.vm.findClass RX1 = some m.cls := findClass_of_methodNamed B.named
  have hlocks := B.notSynchronized
  subst hsz
  generalize hAe : va_A (wd_X1_workOut Γ q0 q1 q2 q3 q4 q5 q6 d0 d1 d2 d3 d4 columns rows heights speeds lowest p1_columns p1_rows p1_numbers p3_a) s.heap.size = A at hE hD ⊢
  have hA : ∀ q : Nat, s.heap.size ≤ q → A q := fun q h => by rw [← hAe]; exact Or.inr h
  clear hAe
  have hS : va_S A s.heap s.heap [] := va_S.rf
  have hK := hE.1
  have hl := lv_entry ([.ref q0, .ref q4, .int x2, .ref q6]) (n := 5) (Nat.le_of_ble_eq_true rfl)
  rw [lg_entry_eq]
  generalize (lg_sl ([.ref q0, .ref q4, .int x2, .ref q6]) ++ List.replicate (5 - (lg_sl ([.ref q0, .ref q4, .int x2, .ref q6])).length) Slot.unset).toArray = ls at hl ⊢
  have hl : lv_has ls 5 [(0, .ref q0), (1, .ref q4), (2, .int x2), (3, .ref q6)] := hl
  have hi1 : ∀ w ∈ u_ws RX1 TX1 8, w ∈ wsX1_workOut := fun w h => (List.mem_cons_of_mem _ (List.mem_append_left _ (List.mem_append_right _ h)))
  have hi2 : ∀ w ∈ u_ws RX2 TX2 5, w ∈ wsX1_workOut := fun w h => (List.mem_cons_of_mem _ (List.mem_append_right _ h))
  obtain ⟨out, hout⟩ : ∃ o, o = (o_heights, o_speeds, o_lowest, o_p3_a) := ⟨_, rfl⟩
  rw [← hout] at hf
  obtain ⟨QQ, hQQ⟩ : ∃ Q, Q = MQ below (va_Qv (fun _ : Unit => True) (CQ Γ (wd_X1_workOut Γ q0 q1 q2 q3 q4 q5 q6 d0 d1 d2 d3 d4 columns rows o_heights o_speeds o_lowest p1_columns p1_rows p1_numbers o_p3_a) A) A) (([.ref q0, .ref q4, .int x2, .ref q6] : List Value).toArray) s 0 0 A := ⟨_, rfl⟩
  show W p l e ({ frames := 2, cells := 0, slots := 0, locals := 58 } : Room) s m (([.ref q0, .ref q4, .int x2, .ref q6] : List Value).toArray) below meth c s.heap [] 0 0 (MQ below _ (([.ref q0, .ref q4, .int x2, .ref q6] : List Value).toArray) s 0 0 A) (F0 m 0 ls [])
  rw [← hQQ]
  have K_95 : ∀ (heights : Nat → Int32) (speeds : Nat → Int32) (lowest : Nat → Int32) (p3_a : Nat → Int32) {H : Heap} {locs : List Loc} {ls : Array Slot}, va_P Γ.1 vwCl (wd_X1_workOut Γ q0 q1 q2 q3 q4 q5 q6 d0 d1 d2 d3 d4 columns rows heights speeds lowest p1_columns p1_rows p1_numbers p3_a) H → va_D A (wd_X1_workOut Γ q0 q1 q2 q3 q4 q5 q6 d0 d1 d2 d3 d4 columns rows heights speeds lowest p1_columns p1_rows p1_numbers p3_a) → va_S A s.heap H locs → lv_has ls 5 [] → f_X1_workOut_95 heights speeds lowest p3_a = some out → W p l e ({ frames := 2, cells := 0, slots := 0, locals := 58 } : Room) s m ([.ref q0, .ref q4, .int x2, .ref q6] : List Value).toArray below meth c H locs 0 0 QQ (F0 m 95 ls []) := by
    intro heights speeds lowest p3_a H locs ls hP hD hS hl hf
    unfold f_X1_workOut_95 at hf
    subst hout; obtain ⟨rfl, rfl, rfl, rfl⟩ := rt4 hf
    subst hQQ
    exact W.vret hx hb hr (fun t ht hW => ⟨⟨(), rfl, trivial, by rw [ht]; exact hP, hD⟩, hS.F ht⟩) hS.2.2 dX1_workOut_95
  have K_66 : ∀ (heights : Nat → Int32) (speeds : Nat → Int32) (lowest : Nat → Int32) (p3_a : Nat → Int32) (x4 : Int32) {H : Heap} {locs : List Loc} {ls : Array Slot}, va_P Γ.1 vwCl (wd_X1_workOut Γ q0 q1 q2 q3 q4 q5 q6 d0 d1 d2 d3 d4 columns rows heights speeds lowest p1_columns p1_rows p1_numbers p3_a) H → va_D A (wd_X1_workOut Γ q0 q1 q2 q3 q4 q5 q6 d0 d1 d2 d3 d4 columns rows heights speeds lowest p1_columns p1_rows p1_numbers p3_a) → va_S A s.heap H locs → lv_has ls 5 [(0, .ref q0), (1, .ref q4), (3, .ref q6), (4, .int x4)] → f_X1_workOut_66 heights speeds lowest p1_columns p1_rows p3_a x4 = some out → W p l e ({ frames := 2, cells := 0, slots := 0, locals := 58 } : Room) s m ([.ref q0, .ref q4, .int x2, .ref q6] : List Value).toArray below meth c H locs 0 0 QQ (F0 m 66 ls []) := by
    intro heights speeds lowest p3_a x4 H locs ls hP hD hS hl hf
    unfold f_X1_workOut_66 at hf
    obtain ⟨ex66, h1, hX66⟩ := obx_some hf
    have LP : ∀ (n : Nat) (p3_a : Nat → Int32) (x4 : Int32)  {H : Heap} {locs : List Loc} {ls : Array Slot}, va_P Γ.1 vwCl (wd_X1_workOut Γ q0 q1 q2 q3 q4 q5 q6 d0 d1 d2 d3 d4 columns rows heights speeds lowest p1_columns p1_rows p1_numbers p3_a) H → va_D A (wd_X1_workOut Γ q0 q1 q2 q3 q4 q5 q6 d0 d1 d2 d3 d4 columns rows heights speeds lowest p1_columns p1_rows p1_numbers p3_a) → va_S A s.heap H locs → lv_has ls 5 [(0, .ref q0), (1, .ref q4), (3, .ref q6), (4, .int x4)] → vm_it (f_X1_workOut_66s heights speeds lowest p1_columns p1_rows) n (p3_a, x4) = some ex66 → W p l e ({ frames := 2, cells := 0, slots := 0, locals := 58 } : Room) s m ([.ref q0, .ref q4, .int x2, .ref q6] : List Value).toArray below meth c H locs 0 0 QQ (F0 m 66 ls []) := by
      clear hP hD hS hl hf h1
      intro n
      induction n with
      | zero => intro p3_a x4 H locs ls hP hD hS hl hf; exact (vm_it_0 hf).elim
      | succ n ih =>
        intro p3_a x4 H locs ls hP hD hS hl hf
        have hf : f_X1_workOut_66b heights speeds lowest p1_columns p1_rows p3_a x4 (vm_it (f_X1_workOut_66s heights speeds lowest p1_columns p1_rows) n) = some ex66 := hf
        unfold f_X1_workOut_66b at hf
        refine lv_iload hx hb dX1_workOut_66 (lv_at hl 3 rfl) ?_
        refine lv_aload_n hx hb dX1_workOut_68 rfl (lv_at hl 1 rfl) ?_
        obtain ⟨r_1, hq_2, hf⟩ := ob1_some hf
        refine vm_cNi (isC := [4]) (wc := (wd_X2_cells Γ q4 q5 d3 d4 p1_columns p1_rows)) (w1 := (wd_X2_cells Γ q4 q5 d3 d4 p1_columns p1_rows)) (As := []) (rest := [.int x4]) ⟨hx, hb, hml, hown, hts⟩ hE hP hD hS hA rfl rfl rfl (c_X2_cells l Γ _ q4 q5 d3 d4 p1_columns p1_rows r_1 hq_2) ⟨va_cnB 0 hts ggX1_workOut_X2_cells rfl rfl rfl (nmX1_76 hE.2.1) (hts (.initialized RX2) (List.mem_of_getElem? (i := 29) rfl)) (by decide +kernel) ⟨Nat.le_of_ble_eq_true rfl, Nat.le_of_ble_eq_true rfl⟩, (hts (.instanceMethod yX2_cells) (List.mem_of_getElem? (i := 28) rfl)), (hts (.selects RX2 yX2_cells yX2_cells) (List.mem_of_getElem? (i := 30) rfl))⟩ (va_recv (ci := 2) (q0 := 4) hK hP rfl rfl) rfl hl.1 rfl (Nat.le_of_ble_eq_true rfl) dX1_workOut_69 ⟨Nat.zero_le _, Nat.zero_le _⟩ (fun H locs hP hD hS => ?_)
        have hP : va_P Γ.1 vwCl (wd_X1_workOut Γ q0 q1 q2 q3 q4 q5 q6 d0 d1 d2 d3 d4 columns rows heights speeds lowest p1_columns p1_rows p1_numbers p3_a) H := hP
        have hD : va_D A (wd_X1_workOut Γ q0 q1 q2 q3 q4 q5 q6 d0 d1 d2 d3 d4 columns rows heights speeds lowest p1_columns p1_rows p1_numbers p3_a) := hD
        refine lv_icmp_ge (tgt := 95) hx hb dX1_workOut_72 (by decide) (fun hc_3 => ?_) (fun hc_3 => ?_)
        · have hf := vm_pos hc_3 hf
          have hX := hX66
          rw [← Option.some.inj hf] at hX
          exact K_95 heights speeds lowest p3_a hP hD hS (lv_sub hl [] rfl) hX
        · have hf := vm_neg hc_3 hf
          refine lv_aload_n hx hb dX1_workOut_75 rfl (lv_at hl 2 rfl) ?_
          refine lv_iload hx hb dX1_workOut_76 (lv_at hl 3 rfl) ?_
          refine lv_dup2_11 hx hb dX1_workOut_78 rfl rfl ?_
          obtain ⟨hc_4, hf⟩ := vm_ck hf
          refine vm_iald hx hb hK hP 6 0 rfl rfl hc_4 (j := x4.toNatClampNeg) rfl dX1_workOut_79 ?_
          refine lv_aload_n hx hb dX1_workOut_80 rfl (lv_at hl 0 rfl) ?_
          refine va_get (D := Γ.1) (ci := 1) (v := .ref q3) (C := RX1) (T := TX1) (N := 8) hx hb hts hi1 hown hK hP 0 rfl rfl 2 (by decide) (hts (.fieldLink RX1 18 "SandPlates$Motions" "lowest" "[I") (List.mem_of_getElem? (i := 1) rfl)) (fun _ h9 => h9) rfl dX1_workOut_81 ?_
          refine lv_iload hx hb dX1_workOut_84 (lv_at hl 3 rfl) ?_
          obtain ⟨hc_5, hf⟩ := vm_ck hf
          refine vm_iald hx hb hK hP 3 0 rfl rfl hc_5 (j := x4.toNatClampNeg) rfl dX1_workOut_86 ?_
          refine lv_isub hx hb dX1_workOut_87 ?_
          obtain ⟨hc_6, hf⟩ := vm_ck hf
          refine vm_iast hx hb hK hP hD hS 6 0 rfl rfl hc_6 (j := (x4.toNatClampNeg)) rfl dX1_workOut_88 (fun H locs hP hD hS => ?_)
          have hP : va_P Γ.1 vwCl (wd_X1_workOut Γ q0 q1 q2 q3 q4 q5 q6 d0 d1 d2 d3 d4 columns rows heights speeds lowest p1_columns p1_rows p1_numbers (upd p3_a (x4.toNatClampNeg) ((p3_a (x4.toNatClampNeg)) - (lowest (x4.toNatClampNeg))))) H := hP
          have hD : va_D A (wd_X1_workOut Γ q0 q1 q2 q3 q4 q5 q6 d0 d1 d2 d3 d4 columns rows heights speeds lowest p1_columns p1_rows p1_numbers (upd p3_a (x4.toNatClampNeg) ((p3_a (x4.toNatClampNeg)) - (lowest (x4.toNatClampNeg))))) := hD
          refine lv_iinc (v := (x4 + 1)) (lv' := [(4, .int (x4 + 1)), (0, .ref q0), (1, .ref q4), (3, .ref q6)]) hx hb dX1_workOut_89 hl (k := 3) rfl rfl (by decide) rfl (fun ls hl => ?_)
          refine lv_goto (tgt := 66) hx hb dX1_workOut_92 (by decide) ?_
          exact ih (upd p3_a (x4.toNatClampNeg) ((p3_a (x4.toNatClampNeg)) - (lowest (x4.toNatClampNeg)))) (x4 + 1) hP hD hS (lv_sub hl [1, 2, 3, 0] rfl) hf
    exact LP FU p3_a x4 hP hD hS hl h1
  have K_63 : ∀ (heights : Nat → Int32) (speeds : Nat → Int32) (lowest : Nat → Int32) (p3_a : Nat → Int32) {H : Heap} {locs : List Loc} {ls : Array Slot}, va_P Γ.1 vwCl (wd_X1_workOut Γ q0 q1 q2 q3 q4 q5 q6 d0 d1 d2 d3 d4 columns rows heights speeds lowest p1_columns p1_rows p1_numbers p3_a) H → va_D A (wd_X1_workOut Γ q0 q1 q2 q3 q4 q5 q6 d0 d1 d2 d3 d4 columns rows heights speeds lowest p1_columns p1_rows p1_numbers p3_a) → va_S A s.heap H locs → lv_has ls 5 [(0, .ref q0), (1, .ref q4), (3, .ref q6)] → f_X1_workOut_63 heights speeds lowest p1_columns p1_rows p3_a = some out → W p l e ({ frames := 2, cells := 0, slots := 0, locals := 58 } : Room) s m ([.ref q0, .ref q4, .int x2, .ref q6] : List Value).toArray below meth c H locs 0 0 QQ (F0 m 63 ls []) := by
    intro heights speeds lowest p3_a H locs ls hP hD hS hl hf
    unfold f_X1_workOut_63 at hf
    refine lv_iconst (v := 0) hx hb dX1_workOut_63 (by decide) ?_
    refine lv_istore (lv' := [(4, .int 0), (0, .ref q0), (1, .ref q4), (3, .ref q6)]) hx hb dX1_workOut_64 hl (by decide) rfl (fun ls hl => ?_)
    exact K_66 heights speeds lowest p3_a 0 hP hD hS (lv_sub hl [1, 2, 3, 0] rfl) hf
  have K_24 : ∀ (heights : Nat → Int32) (speeds : Nat → Int32) (lowest : Nat → Int32) (p3_a : Nat → Int32) (x4 : Int32) {H : Heap} {locs : List Loc} {ls : Array Slot}, va_P Γ.1 vwCl (wd_X1_workOut Γ q0 q1 q2 q3 q4 q5 q6 d0 d1 d2 d3 d4 columns rows heights speeds lowest p1_columns p1_rows p1_numbers p3_a) H → va_D A (wd_X1_workOut Γ q0 q1 q2 q3 q4 q5 q6 d0 d1 d2 d3 d4 columns rows heights speeds lowest p1_columns p1_rows p1_numbers p3_a) → va_S A s.heap H locs → lv_has ls 5 [(0, .ref q0), (1, .ref q4), (2, .int x2), (3, .ref q6), (4, .int x4)] → f_X1_workOut_24 heights speeds lowest p1_columns p1_rows p1_numbers p3_a x2 x4 = some out → W p l e ({ frames := 2, cells := 0, slots := 0, locals := 58 } : Room) s m ([.ref q0, .ref q4, .int x2, .ref q6] : List Value).toArray below meth c H locs 0 0 QQ (F0 m 24 ls []) := by
    intro heights speeds lowest p3_a x4 H locs ls hP hD hS hl hf
    unfold f_X1_workOut_24 at hf
    obtain ⟨ex24, h1, hX24⟩ := obx_some hf
    have LP : ∀ (n : Nat) (heights : Nat → Int32) (speeds : Nat → Int32) (lowest : Nat → Int32) (p3_a : Nat → Int32) (x4 : Int32)  {H : Heap} {locs : List Loc} {ls : Array Slot}, va_P Γ.1 vwCl (wd_X1_workOut Γ q0 q1 q2 q3 q4 q5 q6 d0 d1 d2 d3 d4 columns rows heights speeds lowest p1_columns p1_rows p1_numbers p3_a) H → va_D A (wd_X1_workOut Γ q0 q1 q2 q3 q4 q5 q6 d0 d1 d2 d3 d4 columns rows heights speeds lowest p1_columns p1_rows p1_numbers p3_a) → va_S A s.heap H locs → lv_has ls 5 [(0, .ref q0), (1, .ref q4), (2, .int x2), (3, .ref q6), (4, .int x4)] → vm_it (f_X1_workOut_24s p1_columns p1_rows p1_numbers x2) n (heights, speeds, lowest, p3_a, x4) = some ex24 → W p l e ({ frames := 2, cells := 0, slots := 0, locals := 58 } : Room) s m ([.ref q0, .ref q4, .int x2, .ref q6] : List Value).toArray below meth c H locs 0 0 QQ (F0 m 24 ls []) := by
      clear hP hD hS hl hf h1
      intro n
      induction n with
      | zero => intro heights speeds lowest p3_a x4 H locs ls hP hD hS hl hf; exact (vm_it_0 hf).elim
      | succ n ih =>
        intro heights speeds lowest p3_a x4 H locs ls hP hD hS hl hf
        have hf : f_X1_workOut_24b p1_columns p1_rows p1_numbers x2 heights speeds lowest p3_a x4 (vm_it (f_X1_workOut_24s p1_columns p1_rows p1_numbers x2) n) = some ex24 := hf
        have K_57 : ∀ (heights : Nat → Int32) (speeds : Nat → Int32) (lowest : Nat → Int32) (p3_a : Nat → Int32) (x4 : Int32) {H : Heap} {locs : List Loc} {ls : Array Slot}, va_P Γ.1 vwCl (wd_X1_workOut Γ q0 q1 q2 q3 q4 q5 q6 d0 d1 d2 d3 d4 columns rows heights speeds lowest p1_columns p1_rows p1_numbers p3_a) H → va_D A (wd_X1_workOut Γ q0 q1 q2 q3 q4 q5 q6 d0 d1 d2 d3 d4 columns rows heights speeds lowest p1_columns p1_rows p1_numbers p3_a) → va_S A s.heap H locs → lv_has ls 5 [(0, .ref q0), (1, .ref q4), (2, .int x2), (3, .ref q6), (4, .int x4)] → f_X1_workOut_57 heights speeds lowest p1_columns p1_rows p1_numbers p3_a x2 x4 (vm_it (f_X1_workOut_24s p1_columns p1_rows p1_numbers x2) n) = some ex24 → W p l e ({ frames := 2, cells := 0, slots := 0, locals := 58 } : Room) s m ([.ref q0, .ref q4, .int x2, .ref q6] : List Value).toArray below meth c H locs 0 0 QQ (F0 m 57 ls []) := by
          intro heights speeds lowest p3_a x4 H locs ls hP hD hS hl hf
          unfold f_X1_workOut_57 at hf
          refine lv_iinc (v := (x4 + 1)) (lv' := [(4, .int (x4 + 1)), (0, .ref q0), (1, .ref q4), (2, .int x2), (3, .ref q6)]) hx hb dX1_workOut_57 hl (k := 4) rfl rfl (by decide) rfl (fun ls hl => ?_)
          refine lv_goto (tgt := 24) hx hb dX1_workOut_60 (by decide) ?_
          exact ih heights speeds lowest p3_a (x4 + 1) hP hD hS (lv_sub hl [1, 2, 3, 4, 0] rfl) hf
        unfold f_X1_workOut_24b at hf
        refine lv_iload hx hb dX1_workOut_24 (lv_at hl 4 rfl) ?_
        refine lv_bipush (v := 30) hx hb dX1_workOut_26 (by decide) ?_
        refine lv_iload_n hx hb dX1_workOut_28 rfl (lv_at hl 2 rfl) ?_
        refine lv_iadd hx hb dX1_workOut_29 ?_
        refine lv_icmp_ge (tgt := 63) hx hb dX1_workOut_30 (by decide) (fun hc_7 => ?_) (fun hc_7 => ?_)
        · have hf := vm_pos hc_7 hf
          have hX := hX24
          rw [← Option.some.inj hf] at hX
          exact K_63 heights speeds lowest p3_a hP hD hS (lv_sub hl [0, 1, 3] rfl) hX
        · have hf := vm_neg hc_7 hf
          refine lv_aload_n hx hb dX1_workOut_33 rfl (lv_at hl 0 rfl) ?_
          refine lv_aload_n hx hb dX1_workOut_34 rfl (lv_at hl 1 rfl) ?_
          refine lv_iload_n hx hb dX1_workOut_35 rfl (lv_at hl 2 rfl) ?_
          refine lv_iload hx hb dX1_workOut_36 (lv_at hl 4 rfl) ?_
          obtain ⟨heights_8, speeds_9, hq_10, hf⟩ := ob2_some hf
          refine vm_cVv (isC := [0, 1, 2, 4, 5]) (wc := (wd_X1_step Γ q0 q1 q2 q4 q5 q3 d0 d1 d2 d3 d4 columns rows heights speeds p1_columns p1_rows p1_numbers)) (w1 := (wd_X1_step Γ q0 q1 q2 q4 q5 q3 d0 d1 d2 d3 d4 columns rows heights_8 speeds_9 p1_columns p1_rows p1_numbers)) (As := [.ref q4, .int x2, .int x4]) (rest := []) ⟨hx, hb, hml, hown, hts⟩ hE hP hD hS hA rfl rfl rfl (c_X1_step l Γ _ q0 q1 q2 q4 q5 q3 d0 d1 d2 d3 d4 columns rows heights speeds p1_columns p1_rows p1_numbers x2 x4 heights_8 speeds_9 hq_10) (cwV 3 hts gX1_workOut_X1_step rfl rfl rfl (by decide +kernel) ⟨Nat.le_of_ble_eq_true rfl, Nat.le_of_ble_eq_true rfl⟩) (va_recv (ci := 1) (q0 := 0) hK hP rfl rfl) rfl hl.1 rfl (Nat.le_of_ble_eq_true rfl) dX1_workOut_38 ⟨Nat.zero_le _, Nat.zero_le _⟩ (fun H locs hP hD hS => ?_)
          have hP : va_P Γ.1 vwCl (wd_X1_workOut Γ q0 q1 q2 q3 q4 q5 q6 d0 d1 d2 d3 d4 columns rows heights_8 speeds_9 lowest p1_columns p1_rows p1_numbers p3_a) H := hP
          have hD : va_D A (wd_X1_workOut Γ q0 q1 q2 q3 q4 q5 q6 d0 d1 d2 d3 d4 columns rows heights_8 speeds_9 lowest p1_columns p1_rows p1_numbers p3_a) := hD
          refine lv_iload hx hb dX1_workOut_41 (lv_at hl 4 rfl) ?_
          refine lv_bipush (v := 30) hx hb dX1_workOut_43 (by decide) ?_
          refine lv_icmp_lt (tgt := 57) hx hb dX1_workOut_45 (by decide) (fun hc_11 => ?_) (fun hc_11 => ?_)
          · have hf := vm_pos hc_11 hf
            exact K_57 heights_8 speeds_9 lowest p3_a x4 hP hD hS (lv_sub hl [0, 1, 2, 3, 4] rfl) hf
          · have hf := vm_neg hc_11 hf
            refine lv_aload_n hx hb dX1_workOut_48 rfl (lv_at hl 0 rfl) ?_
            refine lv_aload_n hx hb dX1_workOut_49 rfl (lv_at hl 1 rfl) ?_
            obtain ⟨r_12, hq_13, hf⟩ := ob1_some hf
            refine vm_cNi (isC := [4]) (wc := (wd_X2_cells Γ q4 q5 d3 d4 p1_columns p1_rows)) (w1 := (wd_X2_cells Γ q4 q5 d3 d4 p1_columns p1_rows)) (As := []) (rest := [.ref q0]) ⟨hx, hb, hml, hown, hts⟩ hE hP hD hS hA rfl rfl rfl (c_X2_cells l Γ _ q4 q5 d3 d4 p1_columns p1_rows r_12 hq_13) ⟨va_cnB 0 hts ggX1_workOut_X2_cells rfl rfl rfl (nmX1_76 hE.2.1) (hts (.initialized RX2) (List.mem_of_getElem? (i := 29) rfl)) (by decide +kernel) ⟨Nat.le_of_ble_eq_true rfl, Nat.le_of_ble_eq_true rfl⟩, (hts (.instanceMethod yX2_cells) (List.mem_of_getElem? (i := 28) rfl)), (hts (.selects RX2 yX2_cells yX2_cells) (List.mem_of_getElem? (i := 30) rfl))⟩ (va_recv (ci := 2) (q0 := 4) hK hP rfl rfl) rfl hl.1 rfl (Nat.le_of_ble_eq_true rfl) dX1_workOut_50 ⟨Nat.zero_le _, Nat.zero_le _⟩ (fun H locs hP hD hS => ?_)
            have hP : va_P Γ.1 vwCl (wd_X1_workOut Γ q0 q1 q2 q3 q4 q5 q6 d0 d1 d2 d3 d4 columns rows heights_8 speeds_9 lowest p1_columns p1_rows p1_numbers p3_a) H := hP
            have hD : va_D A (wd_X1_workOut Γ q0 q1 q2 q3 q4 q5 q6 d0 d1 d2 d3 d4 columns rows heights_8 speeds_9 lowest p1_columns p1_rows p1_numbers p3_a) := hD
            refine lv_aload_n hx hb dX1_workOut_53 rfl (lv_at hl 3 rfl) ?_
            obtain ⟨lowest_14, p3_a_15, hq_16, hf⟩ := ob2_some hf
            refine vm_cVv (isC := [0, 1, 3, 6]) (wc := (wd_X1_noteHeights Γ q0 q1 q3 q6 q2 d0 d1 d2 columns rows heights_8 lowest p3_a)) (w1 := (wd_X1_noteHeights Γ q0 q1 q3 q6 q2 d0 d1 d2 columns rows heights_8 lowest_14 p3_a_15)) (As := [.int r_12, .ref q6]) (rest := []) ⟨hx, hb, hml, hown, hts⟩ hE hP hD hS hA rfl rfl rfl (c_X1_noteHeights l Γ _ q0 q1 q3 q6 q2 d0 d1 d2 columns rows heights_8 lowest p3_a r_12 lowest_14 p3_a_15 hq_16) (cwV 2 hts gX1_workOut_X1_noteHeights rfl rfl rfl (by decide +kernel) ⟨Nat.le_of_ble_eq_true rfl, Nat.le_of_ble_eq_true rfl⟩) (va_recv (ci := 1) (q0 := 0) hK hP rfl rfl) rfl hl.1 rfl (Nat.le_of_ble_eq_true rfl) dX1_workOut_54 ⟨Nat.zero_le _, Nat.zero_le _⟩ (fun H locs hP hD hS => ?_)
            have hP : va_P Γ.1 vwCl (wd_X1_workOut Γ q0 q1 q2 q3 q4 q5 q6 d0 d1 d2 d3 d4 columns rows heights_8 speeds_9 lowest_14 p1_columns p1_rows p1_numbers p3_a_15) H := hP
            have hD : va_D A (wd_X1_workOut Γ q0 q1 q2 q3 q4 q5 q6 d0 d1 d2 d3 d4 columns rows heights_8 speeds_9 lowest_14 p1_columns p1_rows p1_numbers p3_a_15) := hD
            exact K_57 heights_8 speeds_9 lowest_14 p3_a_15 x4 hP hD hS (lv_sub hl [0, 1, 2, 3, 4] rfl) hf
    exact LP FU heights speeds lowest p3_a x4 hP hD hS hl h1
  unfold f_X1_workOut at hf
  refine lv_aload_n hx hb dX1_workOut_0 rfl (lv_at hl 0 rfl) ?_
  obtain ⟨heights_17, speeds_18, hq_19, hf⟩ := ob2_some hf
  refine vm_cVv (isC := [0, 1, 2]) (wc := (wd_X1_rest Γ q0 q1 q2 q3 d0 d1 d2 columns rows heights speeds)) (w1 := (wd_X1_rest Γ q0 q1 q2 q3 d0 d1 d2 columns rows heights_17 speeds_18)) (As := []) (rest := []) ⟨hx, hb, hml, hown, hts⟩ hE hP hD hS hA rfl rfl rfl (c_X1_rest l Γ _ q0 q1 q2 q3 d0 d1 d2 columns rows heights speeds heights_17 speeds_18 hq_19) (cwV 0 hts gX1_workOut_X1_rest rfl rfl rfl (by decide +kernel) ⟨Nat.le_of_ble_eq_true rfl, Nat.le_of_ble_eq_true rfl⟩) (va_recv (ci := 1) (q0 := 0) hK hP rfl rfl) rfl hl.1 rfl (Nat.le_of_ble_eq_true rfl) dX1_workOut_1 ⟨Nat.zero_le _, Nat.zero_le _⟩ (fun H locs hP hD hS => ?_)
  have hP : va_P Γ.1 vwCl (wd_X1_workOut Γ q0 q1 q2 q3 q4 q5 q6 d0 d1 d2 d3 d4 columns rows heights_17 speeds_18 lowest p1_columns p1_rows p1_numbers p3_a) H := hP
  have hD : va_D A (wd_X1_workOut Γ q0 q1 q2 q3 q4 q5 q6 d0 d1 d2 d3 d4 columns rows heights_17 speeds_18 lowest p1_columns p1_rows p1_numbers p3_a) := hD
  refine lv_aload_n hx hb dX1_workOut_4 rfl (lv_at hl 3 rfl) ?_
  refine lv_sipush (v := (-9999)) hx hb dX1_workOut_5 (by decide) ?_
  obtain ⟨p3_a_20, hq_21, hf⟩ := ob1_some hf
  refine vm_cSv (isC := [6]) (wc := (wd_J7_fill_53178 Γ q6 36 p3_a)) (w1 := (wd_J7_fill_53178 Γ q6 36 p3_a_20)) (As := [.ref q6, .int (-9999)]) (rest := []) ⟨hx, hb, hml, hown, hts⟩ hE hP hD hS hA rfl rfl rfl (c_J7_fill_53178 l Γ _ q6 36 p3_a (-9999) p3_a_20 hq_21) (va_cwS 2 hts gX1_workOut_J7_fill_53178 rfl rfl rfl (by decide +kernel) ⟨Nat.le_of_ble_eq_true rfl, Nat.le_of_ble_eq_true rfl⟩) rfl hl.1 rfl (Nat.le_of_ble_eq_true rfl) dX1_workOut_8 ⟨Nat.zero_le _, Nat.zero_le _⟩ (fun H locs hP hD hS => ?_)
  have hP : va_P Γ.1 vwCl (wd_X1_workOut Γ q0 q1 q2 q3 q4 q5 q6 d0 d1 d2 d3 d4 columns rows heights_17 speeds_18 lowest p1_columns p1_rows p1_numbers p3_a_20) H := hP
  have hD : va_D A (wd_X1_workOut Γ q0 q1 q2 q3 q4 q5 q6 d0 d1 d2 d3 d4 columns rows heights_17 speeds_18 lowest p1_columns p1_rows p1_numbers p3_a_20) := hD
  refine lv_aload_n hx hb dX1_workOut_11 rfl (lv_at hl 0 rfl) ?_
  refine va_get (D := Γ.1) (ci := 1) (v := .ref q3) (C := RX1) (T := TX1) (N := 8) hx hb hts hi1 hown hK hP 0 rfl rfl 2 (by decide) (hts (.fieldLink RX1 18 "SandPlates$Motions" "lowest" "[I") (List.mem_of_getElem? (i := 1) rfl)) (fun _ h9 => h9) rfl dX1_workOut_12 ?_
  refine lv_sipush (v := 9999) hx hb dX1_workOut_15 (by decide) ?_
  obtain ⟨lowest_22, hq_23, hf⟩ := ob1_some hf
  refine vm_cSv (isC := [3]) (wc := (wd_J7_fill_53178 Γ q3 36 lowest)) (w1 := (wd_J7_fill_53178 Γ q3 36 lowest_22)) (As := [.ref q3, .int 9999]) (rest := []) ⟨hx, hb, hml, hown, hts⟩ hE hP hD hS hA rfl rfl rfl (c_J7_fill_53178 l Γ _ q3 36 lowest 9999 lowest_22 hq_23) (va_cwS 2 hts gX1_workOut_J7_fill_53178 rfl rfl rfl (by decide +kernel) ⟨Nat.le_of_ble_eq_true rfl, Nat.le_of_ble_eq_true rfl⟩) rfl hl.1 rfl (Nat.le_of_ble_eq_true rfl) dX1_workOut_18 ⟨Nat.zero_le _, Nat.zero_le _⟩ (fun H locs hP hD hS => ?_)
  have hP : va_P Γ.1 vwCl (wd_X1_workOut Γ q0 q1 q2 q3 q4 q5 q6 d0 d1 d2 d3 d4 columns rows heights_17 speeds_18 lowest_22 p1_columns p1_rows p1_numbers p3_a_20) H := hP
  have hD : va_D A (wd_X1_workOut Γ q0 q1 q2 q3 q4 q5 q6 d0 d1 d2 d3 d4 columns rows heights_17 speeds_18 lowest_22 p1_columns p1_rows p1_numbers p3_a_20) := hD
  refine lv_iconst (v := 0) hx hb dX1_workOut_21 (by decide) ?_
  refine lv_istore (lv' := [(4, .int 0), (0, .ref q0), (1, .ref q4), (2, .int x2), (3, .ref q6)]) hx hb dX1_workOut_22 hl (by decide) rfl (fun ls hl => ?_)
  exact K_24 heights_17 speeds_18 lowest_22 p3_a_20 0 hP hD hS (lv_sub hl [1, 2, 3, 4, 0] rfl) hf
def wd_X1_heightBehind (Γ : GE) (q0 q1 q2 q3 q4 d0 d1 d2 d3 d4 d5 : Nat) (columns : Int32) (rows : Int32) (heights : Nat → Int32) (speeds : Nat → Int32) (p1_columns : Int32) (p1_rows : Int32) (p1_numbers : Nat → Int32) : va_W := [(q0, .inr (1, [.ref q1, .ref q2, .ref d0, .ref d1, .ref d2, .int columns, .int rows, .ref d3])), (q1, .inl (Γ.2.1 0, 36, .inl heights)), (q2, .inl (Γ.2.1 0, 36, .inl speeds)), (q3, .inr (2, [.int p1_columns, .int p1_rows, .ref q4, .ref d4, .ref d5])), (q4, .inl (Γ.2.1 0, 7, .inl p1_numbers))]
def f_X1_heightBehind_32 (heights : Nat → Int32) (speeds : Nat → Int32) (x2 : Int32) : Option (Int32 × (Nat → Int32) × (Nat → Int32)) := if inb x2 36 = true then some ((heights (x2.toNatClampNeg)), heights, speeds) else none
def f_X1_heightBehind_7b (p1_columns : Int32) (p1_rows : Int32) (p1_numbers : Nat → Int32) (x2 : Int32) (x3 : Int32) (heights : Nat → Int32) (speeds : Nat → Int32) (x4 : Int32) (k : (((Nat → Int32) × (Nat → Int32) × Int32) → Option ((Nat → Int32) × (Nat → Int32)))) : Option ((Nat → Int32) × (Nat → Int32)) := if x3 ≤ x4 then (some (heights, speeds)) else (ob2 (f_X1_step heights speeds p1_columns p1_rows p1_numbers (p1_numbers 4) x4) (fun heights_3 speeds_4 => k (heights_3, speeds_4, (x4 + 1))))
def f_X1_heightBehind_7s (p1_columns : Int32) (p1_rows : Int32) (p1_numbers : Nat → Int32) (x2 : Int32) (x3 : Int32) : ((Nat → Int32) × (Nat → Int32) × Int32) → (((Nat → Int32) × (Nat → Int32) × Int32) → Option ((Nat → Int32) × (Nat → Int32))) → Option ((Nat → Int32) × (Nat → Int32)) := fun t k => f_X1_heightBehind_7b p1_columns p1_rows p1_numbers x2 x3 t.1 t.2.1 t.2.2 k
def f_X1_heightBehind_7 (heights : Nat → Int32) (speeds : Nat → Int32) (p1_columns : Int32) (p1_rows : Int32) (p1_numbers : Nat → Int32) (x2 : Int32) (x3 : Int32) (x4 : Int32) : Option (Int32 × (Nat → Int32) × (Nat → Int32)) := obx (vm_it (f_X1_heightBehind_7s p1_columns p1_rows p1_numbers x2 x3) FU (heights, speeds, x4)) (un2 (fun heights speeds => f_X1_heightBehind_32 heights speeds x2))
def f_X1_heightBehind (heights : Nat → Int32) (speeds : Nat → Int32) (p1_columns : Int32) (p1_rows : Int32) (p1_numbers : Nat → Int32) (x2 : Int32) (x3 : Int32) : Option (Int32 × (Nat → Int32) × (Nat → Int32)) := ob2 (f_X1_rest heights speeds) (fun heights_6 speeds_7 => f_X1_heightBehind_7 heights_6 speeds_7 p1_columns p1_rows p1_numbers x2 x3 0)
set_option maxHeartbeats 4000000 in
set_option maxRecDepth 100000 in
theorem c_X1_heightBehind (l : Launch) (Γ : GE) (sz : Nat) (q0 q1 q2 q3 q4 d0 d1 d2 d3 d4 d5 : Nat) (columns : Int32) (rows : Int32) (heights : Nat → Int32) (speeds : Nat → Int32) (p1_columns : Int32) (p1_rows : Int32) (p1_numbers : Nat → Int32) (x2 : Int32) (x3 : Int32) (ro : Int32) (o_heights : Nat → Int32) (o_speeds : Nat → Int32) (hf : f_X1_heightBehind heights speeds p1_columns p1_rows p1_numbers x2 x3 = some (ro, o_heights, o_speeds)) : MetI l yX1_heightBehind wsX1_heightBehind ({ frames := 2, cells := 0, slots := 0, locals := 58 } : Room) Γ [.ref q0, .ref q3, .int x2, .int x3] (wd_X1_heightBehind Γ q0 q1 q2 q3 q4 d0 d1 d2 d3 d4 d5 columns rows heights speeds p1_columns p1_rows p1_numbers) (wd_X1_heightBehind Γ q0 q1 q2 q3 q4 d0 d1 d2 d3 d4 d5 columns rows o_heights o_speeds p1_columns p1_rows p1_numbers) sz ro := by
  refine Met.ofW (cc := cX1_heightBehind) (maxL := 5) (ret := (some .int)) (by decide) rfl ?_
  intro p e s m args below meth c s₁ B hml hv
  obtain ⟨rfl, hsz, hE, hP, hD⟩ := hv
  have hx := B.exec
  have hb := B.bytes
  have hr := B.returns
  have hts := atoms_spec (ws := wsX1_heightBehind) B.pre
  have hown : s.vm.findClass RX1 = some m.cls := findClass_of_methodNamed B.named
  have hlocks := B.notSynchronized
  subst hsz
  generalize hAe : va_A (wd_X1_heightBehind Γ q0 q1 q2 q3 q4 d0 d1 d2 d3 d4 d5 columns rows heights speeds p1_columns p1_rows p1_numbers) s.heap.size = A at hE hD ⊢
  have hA : ∀ q : Nat, s.heap.size ≤ q → A q := fun q h => by rw [← hAe]; exact Or.inr h
  clear hAe
  have hS : va_S A s.heap s.heap [] := va_S.rf
  have hK := hE.1
  have hl := lv_entry ([.ref q0, .ref q3, .int x2, .int x3]) (n := 5) (Nat.le_of_ble_eq_true rfl)
  rw [lg_entry_eq]
  generalize (lg_sl ([.ref q0, .ref q3, .int x2, .int x3]) ++ List.replicate (5 - (lg_sl ([.ref q0, .ref q3, .int x2, .int x3])).length) Slot.unset).toArray = ls at hl ⊢
  have hl : lv_has ls 5 [(0, .ref q0), (1, .ref q3), (2, .int x2), (3, .int x3)] := hl
  have hi1 : ∀ w ∈ u_ws RX1 TX1 8, w ∈ wsX1_heightBehind := fun w h => (List.mem_cons_of_mem _ (List.mem_append_right _ h))
  have hi2 : ∀ w ∈ u_ws RX2 TX2 5, w ∈ wsX1_heightBehind := fun w h => (List.mem_cons_of_mem _ (List.mem_append_left _ (List.mem_append_right _ h)))
  obtain ⟨out, hout⟩ : ∃ o, o = (ro, o_heights, o_speeds) := ⟨_, rfl⟩
  rw [← hout] at hf
  obtain ⟨QQ, hQQ⟩ : ∃ Q, Q = MQ below (va_Qi (fun (r' : Int32) (_ : Unit) => r' = ro) (CQ Γ (wd_X1_heightBehind Γ q0 q1 q2 q3 q4 d0 d1 d2 d3 d4 d5 columns rows o_heights o_speeds p1_columns p1_rows p1_numbers) A) A) (([.ref q0, .ref q3, .int x2, .int x3] : List Value).toArray) s 0 0 A := ⟨_, rfl⟩
  show W p l e ({ frames := 2, cells := 0, slots := 0, locals := 58 } : Room) s m (([.ref q0, .ref q3, .int x2, .int x3] : List Value).toArray) below meth c s.heap [] 0 0 (MQ below _ (([.ref q0, .ref q3, .int x2, .int x3] : List Value).toArray) s 0 0 A) (F0 m 0 ls [])
  rw [← hQQ]
  have K_32 : ∀ (heights : Nat → Int32) (speeds : Nat → Int32) {H : Heap} {locs : List Loc} {ls : Array Slot}, va_P Γ.1 vwCl (wd_X1_heightBehind Γ q0 q1 q2 q3 q4 d0 d1 d2 d3 d4 d5 columns rows heights speeds p1_columns p1_rows p1_numbers) H → va_D A (wd_X1_heightBehind Γ q0 q1 q2 q3 q4 d0 d1 d2 d3 d4 d5 columns rows heights speeds p1_columns p1_rows p1_numbers) → va_S A s.heap H locs → lv_has ls 5 [(0, .ref q0), (2, .int x2)] → f_X1_heightBehind_32 heights speeds x2 = some out → W p l e ({ frames := 2, cells := 0, slots := 0, locals := 58 } : Room) s m ([.ref q0, .ref q3, .int x2, .int x3] : List Value).toArray below meth c H locs 0 0 QQ (F0 m 32 ls []) := by
    intro heights speeds H locs ls hP hD hS hl hf
    unfold f_X1_heightBehind_32 at hf
    refine lv_aload_n hx hb dX1_heightBehind_32 rfl (lv_at hl 0 rfl) ?_
    refine va_get (D := Γ.1) (ci := 1) (v := .ref q1) (C := RX1) (T := TX1) (N := 8) hx hb hts hi1 hown hK hP 0 rfl rfl 0 (by decide) (hts (.fieldLink RX1 9 "SandPlates$Motions" "heights" "[I") (List.mem_of_getElem? (i := 1) rfl)) (fun _ h9 => h9) rfl dX1_heightBehind_33 ?_
    refine lv_iload_n hx hb dX1_heightBehind_36 rfl (lv_at hl 1 rfl) ?_
    obtain ⟨hc_1, hf⟩ := vm_ck hf
    refine vm_iald hx hb hK hP 1 0 rfl rfl hc_1 (j := x2.toNatClampNeg) rfl dX1_heightBehind_37 ?_
    subst hout; obtain ⟨rfl, rfl, rfl⟩ := rt3 hf
    subst hQQ
    exact W.iret hx hb hr (fun t ht hW => ⟨⟨_, (), rfl, rfl, by rw [ht]; exact hP, hD⟩, hS.F ht⟩) hS.2.2 dX1_heightBehind_38
  have K_7 : ∀ (heights : Nat → Int32) (speeds : Nat → Int32) (x4 : Int32) {H : Heap} {locs : List Loc} {ls : Array Slot}, va_P Γ.1 vwCl (wd_X1_heightBehind Γ q0 q1 q2 q3 q4 d0 d1 d2 d3 d4 d5 columns rows heights speeds p1_columns p1_rows p1_numbers) H → va_D A (wd_X1_heightBehind Γ q0 q1 q2 q3 q4 d0 d1 d2 d3 d4 d5 columns rows heights speeds p1_columns p1_rows p1_numbers) → va_S A s.heap H locs → lv_has ls 5 [(0, .ref q0), (1, .ref q3), (2, .int x2), (3, .int x3), (4, .int x4)] → f_X1_heightBehind_7 heights speeds p1_columns p1_rows p1_numbers x2 x3 x4 = some out → W p l e ({ frames := 2, cells := 0, slots := 0, locals := 58 } : Room) s m ([.ref q0, .ref q3, .int x2, .int x3] : List Value).toArray below meth c H locs 0 0 QQ (F0 m 7 ls []) := by
    intro heights speeds x4 H locs ls hP hD hS hl hf
    unfold f_X1_heightBehind_7 at hf
    obtain ⟨ex7, h1, hX7⟩ := obx_some hf
    have LP : ∀ (n : Nat) (heights : Nat → Int32) (speeds : Nat → Int32) (x4 : Int32)  {H : Heap} {locs : List Loc} {ls : Array Slot}, va_P Γ.1 vwCl (wd_X1_heightBehind Γ q0 q1 q2 q3 q4 d0 d1 d2 d3 d4 d5 columns rows heights speeds p1_columns p1_rows p1_numbers) H → va_D A (wd_X1_heightBehind Γ q0 q1 q2 q3 q4 d0 d1 d2 d3 d4 d5 columns rows heights speeds p1_columns p1_rows p1_numbers) → va_S A s.heap H locs → lv_has ls 5 [(0, .ref q0), (1, .ref q3), (2, .int x2), (3, .int x3), (4, .int x4)] → vm_it (f_X1_heightBehind_7s p1_columns p1_rows p1_numbers x2 x3) n (heights, speeds, x4) = some ex7 → W p l e ({ frames := 2, cells := 0, slots := 0, locals := 58 } : Room) s m ([.ref q0, .ref q3, .int x2, .int x3] : List Value).toArray below meth c H locs 0 0 QQ (F0 m 7 ls []) := by
      clear hP hD hS hl hf h1
      intro n
      induction n with
      | zero => intro heights speeds x4 H locs ls hP hD hS hl hf; exact (vm_it_0 hf).elim
      | succ n ih =>
        intro heights speeds x4 H locs ls hP hD hS hl hf
        have hf : f_X1_heightBehind_7b p1_columns p1_rows p1_numbers x2 x3 heights speeds x4 (vm_it (f_X1_heightBehind_7s p1_columns p1_rows p1_numbers x2 x3) n) = some ex7 := hf
        unfold f_X1_heightBehind_7b at hf
        refine lv_iload hx hb dX1_heightBehind_7 (lv_at hl 4 rfl) ?_
        refine lv_iload_n hx hb dX1_heightBehind_9 rfl (lv_at hl 3 rfl) ?_
        refine lv_icmp_ge (tgt := 32) hx hb dX1_heightBehind_10 (by decide) (fun hc_2 => ?_) (fun hc_2 => ?_)
        · have hf := vm_pos hc_2 hf
          have hX := hX7
          rw [← Option.some.inj hf] at hX
          exact K_32 heights speeds hP hD hS (lv_sub hl [0, 2] rfl) hX
        · have hf := vm_neg hc_2 hf
          refine lv_aload_n hx hb dX1_heightBehind_13 rfl (lv_at hl 0 rfl) ?_
          refine lv_aload_n hx hb dX1_heightBehind_14 rfl (lv_at hl 1 rfl) ?_
          refine lv_aload_n hx hb dX1_heightBehind_15 rfl (lv_at hl 1 rfl) ?_
          refine va_getN (D := Γ.1) (ci := 2) (v := .ref q4) (C := RX2) (T := TX2) (N := 5) hx hb hts hi2 hown hK hP 3 rfl rfl 2 (by decide) (va_Nw.use rfl (nfX1_48 hE.2.1)) (fun _ h9 => h9) rfl dX1_heightBehind_16 ?_
          refine lv_iconst (v := 4) hx hb dX1_heightBehind_19 (by decide) ?_
          refine vm_iald hx hb hK hP 4 0 rfl rfl (by decide +kernel) (j := 4) rfl dX1_heightBehind_20 ?_
          refine lv_iload hx hb dX1_heightBehind_21 (lv_at hl 4 rfl) ?_
          obtain ⟨heights_3, speeds_4, hq_5, hf⟩ := ob2_some hf
          refine vm_cVv (isC := [0, 1, 2, 3, 4]) (wc := (wd_X1_step Γ q0 q1 q2 q3 q4 d0 d1 d2 d3 d4 d5 columns rows heights speeds p1_columns p1_rows p1_numbers)) (w1 := (wd_X1_step Γ q0 q1 q2 q3 q4 d0 d1 d2 d3 d4 d5 columns rows heights_3 speeds_4 p1_columns p1_rows p1_numbers)) (As := [.ref q3, .int (p1_numbers 4), .int x4]) (rest := []) ⟨hx, hb, hml, hown, hts⟩ hE hP hD hS hA rfl rfl rfl (c_X1_step l Γ _ q0 q1 q2 q3 q4 d0 d1 d2 d3 d4 d5 columns rows heights speeds p1_columns p1_rows p1_numbers (p1_numbers 4) x4 heights_3 speeds_4 hq_5) (cwV 3 hts gX1_heightBehind_X1_step rfl rfl rfl (by decide +kernel) ⟨Nat.le_of_ble_eq_true rfl, Nat.le_of_ble_eq_true rfl⟩) (va_recv (ci := 1) (q0 := 0) hK hP rfl rfl) rfl hl.1 rfl (Nat.le_of_ble_eq_true rfl) dX1_heightBehind_23 ⟨Nat.zero_le _, Nat.zero_le _⟩ (fun H locs hP hD hS => ?_)
          have hP : va_P Γ.1 vwCl (wd_X1_heightBehind Γ q0 q1 q2 q3 q4 d0 d1 d2 d3 d4 d5 columns rows heights_3 speeds_4 p1_columns p1_rows p1_numbers) H := hP
          have hD : va_D A (wd_X1_heightBehind Γ q0 q1 q2 q3 q4 d0 d1 d2 d3 d4 d5 columns rows heights_3 speeds_4 p1_columns p1_rows p1_numbers) := hD
          refine lv_iinc (v := (x4 + 1)) (lv' := [(4, .int (x4 + 1)), (0, .ref q0), (1, .ref q3), (2, .int x2), (3, .int x3)]) hx hb dX1_heightBehind_26 hl (k := 4) rfl rfl (by decide) rfl (fun ls hl => ?_)
          refine lv_goto (tgt := 7) hx hb dX1_heightBehind_29 (by decide) ?_
          exact ih heights_3 speeds_4 (x4 + 1) hP hD hS (lv_sub hl [1, 2, 3, 4, 0] rfl) hf
    exact LP FU heights speeds x4 hP hD hS hl h1
  unfold f_X1_heightBehind at hf
  refine lv_aload_n hx hb dX1_heightBehind_0 rfl (lv_at hl 0 rfl) ?_
  obtain ⟨heights_6, speeds_7, hq_8, hf⟩ := ob2_some hf
  refine vm_cVv (isC := [0, 1, 2]) (wc := (wd_X1_rest Γ q0 q1 q2 d0 d1 d2 d3 columns rows heights speeds)) (w1 := (wd_X1_rest Γ q0 q1 q2 d0 d1 d2 d3 columns rows heights_6 speeds_7)) (As := []) (rest := []) ⟨hx, hb, hml, hown, hts⟩ hE hP hD hS hA rfl rfl rfl (c_X1_rest l Γ _ q0 q1 q2 d0 d1 d2 d3 columns rows heights speeds heights_6 speeds_7 hq_8) (cwV 0 hts gX1_heightBehind_X1_rest rfl rfl rfl (by decide +kernel) ⟨Nat.le_of_ble_eq_true rfl, Nat.le_of_ble_eq_true rfl⟩) (va_recv (ci := 1) (q0 := 0) hK hP rfl rfl) rfl hl.1 rfl (Nat.le_of_ble_eq_true rfl) dX1_heightBehind_1 ⟨Nat.zero_le _, Nat.zero_le _⟩ (fun H locs hP hD hS => ?_)
  have hP : va_P Γ.1 vwCl (wd_X1_heightBehind Γ q0 q1 q2 q3 q4 d0 d1 d2 d3 d4 d5 columns rows heights_6 speeds_7 p1_columns p1_rows p1_numbers) H := hP
  have hD : va_D A (wd_X1_heightBehind Γ q0 q1 q2 q3 q4 d0 d1 d2 d3 d4 d5 columns rows heights_6 speeds_7 p1_columns p1_rows p1_numbers) := hD
  refine lv_iconst (v := 0) hx hb dX1_heightBehind_4 (by decide) ?_
  refine lv_istore (lv' := [(4, .int 0), (0, .ref q0), (1, .ref q3), (2, .int x2), (3, .int x3)]) hx hb dX1_heightBehind_5 hl (by decide) rfl (fun ls hl => ?_)
  exact K_7 heights_6 speeds_7 0 hP hD hS (lv_sub hl [1, 2, 3, 4, 0] rfl) hf
def wd_X1_isOf (Γ : GE) (q0 q1 q2 q3 d0 d1 d2 d3 d4 d5 d6 : Nat) (columns : Int32) (rows : Int32) (numbers : Nat → Int32) (p1_columns : Int32) (p1_rows : Int32) (p1_numbers : Nat → Int32) : va_W := [(q0, .inr (1, [.ref d0, .ref d1, .ref d2, .ref d3, .ref d4, .int columns, .int rows, .ref q1])), (q1, .inl (Γ.2.1 0, 7, .inl numbers)), (q2, .inr (2, [.int p1_columns, .int p1_rows, .ref q3, .ref d5, .ref d6])), (q3, .inl (Γ.2.1 0, 7, .inl p1_numbers))]
def f_X1_isOf_89 (x2 : Int32) : Option Int32 := if x2 = 0 ∨ x2 = 1 then some x2 else none
def f_X1_isOf_82 (numbers : Nat → Int32) (p1_numbers : Nat → Int32) (x3 : Int32) (s0 : Int32) (k : ((Int32 × Int32) → Option Int32)) : Option Int32 := k (s0, (x3 + 1))
def f_X1_isOf_81 (numbers : Nat → Int32) (p1_numbers : Nat → Int32) (x3 : Int32) (k : ((Int32 × Int32) → Option Int32)) : Option Int32 := f_X1_isOf_82 numbers p1_numbers x3 0 k
def f_X1_isOf_77 (numbers : Nat → Int32) (p1_numbers : Nat → Int32) (x3 : Int32) (k : ((Int32 × Int32) → Option Int32)) : Option Int32 := f_X1_isOf_82 numbers p1_numbers x3 1 k
def f_X1_isOf_51 (numbers : Nat → Int32) (p1_numbers : Nat → Int32) (x2 : Int32) (x3 : Int32) (s0 : Int32) (k : ((Int32 × Int32) → Option Int32)) : Option Int32 := if x2 = 0 then (f_X1_isOf_81 numbers p1_numbers x3 k) else (if s0 = 0 then (f_X1_isOf_77 numbers p1_numbers x3 k) else (if inb x3 7 = true then if inb x3 7 = true then if (numbers (x3.toNatClampNeg)) = (p1_numbers (x3.toNatClampNeg)) then (f_X1_isOf_77 numbers p1_numbers x3 k) else (f_X1_isOf_81 numbers p1_numbers x3 k) else none else none))
def f_X1_isOf_50 (numbers : Nat → Int32) (p1_numbers : Nat → Int32) (x2 : Int32) (x3 : Int32) (k : ((Int32 × Int32) → Option Int32)) : Option Int32 := f_X1_isOf_51 numbers p1_numbers x2 x3 0 k
def f_X1_isOf_30b (numbers : Nat → Int32) (p1_numbers : Nat → Int32) (x2 : Int32) (x3 : Int32) (k : ((Int32 × Int32) → Option Int32)) : Option Int32 := if 7 ≤ x3 then (some x2) else (if x3 = 4 then (f_X1_isOf_50 numbers p1_numbers x2 x3 k) else (if x3 = 5 then (f_X1_isOf_50 numbers p1_numbers x2 x3 k) else (f_X1_isOf_51 numbers p1_numbers x2 x3 1 k)))
def f_X1_isOf_30s (numbers : Nat → Int32) (p1_numbers : Nat → Int32) : (Int32 × Int32) → ((Int32 × Int32) → Option Int32) → Option Int32 := fun t k => f_X1_isOf_30b numbers p1_numbers t.1 t.2 k
def f_X1_isOf_30 (numbers : Nat → Int32) (p1_numbers : Nat → Int32) (x2 : Int32) (x3 : Int32) : Option Int32 := obx (vm_it (f_X1_isOf_30s numbers p1_numbers) FU (x2, x3)) (fun x2 => f_X1_isOf_89 x2)
def f_X1_isOf_27 (numbers : Nat → Int32) (p1_numbers : Nat → Int32) (s0 : Int32) : Option Int32 := f_X1_isOf_30 numbers p1_numbers s0 0
def f_X1_isOf_26 (numbers : Nat → Int32) (p1_numbers : Nat → Int32) : Option Int32 := f_X1_isOf_27 numbers p1_numbers 0
def f_X1_isOf (columns : Int32) (rows : Int32) (numbers : Nat → Int32) (p1_columns : Int32) (p1_rows : Int32) (p1_numbers : Nat → Int32) : Option Int32 := if columns = p1_columns then (if rows = p1_rows then (f_X1_isOf_27 numbers p1_numbers 1) else (f_X1_isOf_26 numbers p1_numbers)) else (f_X1_isOf_26 numbers p1_numbers)
set_option maxHeartbeats 4000000 in
set_option maxRecDepth 100000 in
theorem c_X1_isOf (l : Launch) (Γ : GE) (sz : Nat) (q0 q1 q2 q3 d0 d1 d2 d3 d4 d5 d6 : Nat) (columns : Int32) (rows : Int32) (numbers : Nat → Int32) (p1_columns : Int32) (p1_rows : Int32) (p1_numbers : Nat → Int32) (ro : Int32) (hf : f_X1_isOf columns rows numbers p1_columns p1_rows p1_numbers = some ro) : MetI l yX1_isOf wsX1_isOf ({ frames := 0, cells := 0, slots := 0, locals := 0 } : Room) Γ [.ref q0, .ref q2] (wd_X1_isOf Γ q0 q1 q2 q3 d0 d1 d2 d3 d4 d5 d6 columns rows numbers p1_columns p1_rows p1_numbers) (wd_X1_isOf Γ q0 q1 q2 q3 d0 d1 d2 d3 d4 d5 d6 columns rows numbers p1_columns p1_rows p1_numbers) sz ro := by
  refine Met.ofW (cc := cX1_isOf) (maxL := 5) (ret := (some .boolean)) (by decide) rfl ?_
  intro p e s m args below meth c s₁ B hml hv
  obtain ⟨rfl, hsz, hE, hP, hD⟩ := hv
  have hx := B.exec
  have hb := B.bytes
  have hr := B.returns
  have hts := atoms_spec (ws := wsX1_isOf) B.pre
  have hown : s.vm.findClass RX1 = some m.cls := findClass_of_methodNamed B.named
  have hlocks := B.notSynchronized
  subst hsz
  generalize hAe : va_A (wd_X1_isOf Γ q0 q1 q2 q3 d0 d1 d2 d3 d4 d5 d6 columns rows numbers p1_columns p1_rows p1_numbers) s.heap.size = A at hE hD ⊢
  have hA : ∀ q : Nat, s.heap.size ≤ q → A q := fun q h => by rw [← hAe]; exact Or.inr h
  clear hAe
  have hS : va_S A s.heap s.heap [] := va_S.rf
  have hK := hE.1
  have hl := lv_entry ([.ref q0, .ref q2]) (n := 5) (Nat.le_of_ble_eq_true rfl)
  rw [lg_entry_eq]
  generalize (lg_sl ([.ref q0, .ref q2]) ++ List.replicate (5 - (lg_sl ([.ref q0, .ref q2])).length) Slot.unset).toArray = ls at hl ⊢
  have hl : lv_has ls 5 [(0, .ref q0), (1, .ref q2)] := hl
  have hi1 : ∀ w ∈ u_ws RX1 TX1 8, w ∈ wsX1_isOf := fun w h => (List.mem_cons_of_mem _ (List.mem_append_left _ (List.mem_append_right _ h)))
  have hi2 : ∀ w ∈ u_ws RX2 TX2 5, w ∈ wsX1_isOf := fun w h => (List.mem_cons_of_mem _ (List.mem_append_right _ h))
  obtain ⟨out, hout⟩ : ∃ o, o = ro := ⟨_, rfl⟩
  rw [← hout] at hf
  obtain ⟨QQ, hQQ⟩ : ∃ Q, Q = MQ below (va_Qi (fun (r' : Int32) (_ : Unit) => r' = ro) (CQ Γ (wd_X1_isOf Γ q0 q1 q2 q3 d0 d1 d2 d3 d4 d5 d6 columns rows numbers p1_columns p1_rows p1_numbers) A) A) (([.ref q0, .ref q2] : List Value).toArray) s 0 0 A := ⟨_, rfl⟩
  show W p l e ({ frames := 0, cells := 0, slots := 0, locals := 0 } : Room) s m (([.ref q0, .ref q2] : List Value).toArray) below meth c s.heap [] 0 0 (MQ below _ (([.ref q0, .ref q2] : List Value).toArray) s 0 0 A) (F0 m 0 ls [])
  rw [← hQQ]
  have K_89 : ∀ (x2 : Int32) {H : Heap} {locs : List Loc} {ls : Array Slot}, va_P Γ.1 vwCl (wd_X1_isOf Γ q0 q1 q2 q3 d0 d1 d2 d3 d4 d5 d6 columns rows numbers p1_columns p1_rows p1_numbers) H → va_D A (wd_X1_isOf Γ q0 q1 q2 q3 d0 d1 d2 d3 d4 d5 d6 columns rows numbers p1_columns p1_rows p1_numbers) → va_S A s.heap H locs → lv_has ls 5 [(2, .int x2)] → f_X1_isOf_89 x2 = some out → W p l e ({ frames := 0, cells := 0, slots := 0, locals := 0 } : Room) s m ([.ref q0, .ref q2] : List Value).toArray below meth c H locs 0 0 QQ (F0 m 89 ls []) := by
    intro x2 H locs ls hP hD hS hl hf
    unfold f_X1_isOf_89 at hf
    refine lv_iload_n hx hb dX1_isOf_89 rfl (lv_at hl 0 rfl) ?_
    obtain ⟨hc_1, hf⟩ := vm_ck hf
    subst hout; obtain rfl := Option.some.inj hf
    subst hQQ
    exact W.zret hx hb hr (vm_nz hc_1) (fun t ht hW => ⟨⟨_, (), rfl, rfl, by rw [ht]; exact hP, hD⟩, hS.F ht⟩) hS.2.2 dX1_isOf_90
  have K_30 : ∀ (x2 : Int32) (x3 : Int32) {H : Heap} {locs : List Loc} {ls : Array Slot}, va_P Γ.1 vwCl (wd_X1_isOf Γ q0 q1 q2 q3 d0 d1 d2 d3 d4 d5 d6 columns rows numbers p1_columns p1_rows p1_numbers) H → va_D A (wd_X1_isOf Γ q0 q1 q2 q3 d0 d1 d2 d3 d4 d5 d6 columns rows numbers p1_columns p1_rows p1_numbers) → va_S A s.heap H locs → lv_has ls 5 [(0, .ref q0), (1, .ref q2), (2, .int x2), (3, .int x3)] → f_X1_isOf_30 numbers p1_numbers x2 x3 = some out → W p l e ({ frames := 0, cells := 0, slots := 0, locals := 0 } : Room) s m ([.ref q0, .ref q2] : List Value).toArray below meth c H locs 0 0 QQ (F0 m 30 ls []) := by
    intro x2 x3 H locs ls hP hD hS hl hf
    unfold f_X1_isOf_30 at hf
    obtain ⟨ex30, h1, hX30⟩ := obx_some hf
    have LP : ∀ (n : Nat) (x2 : Int32) (x3 : Int32)  {H : Heap} {locs : List Loc} {ls : Array Slot}, va_P Γ.1 vwCl (wd_X1_isOf Γ q0 q1 q2 q3 d0 d1 d2 d3 d4 d5 d6 columns rows numbers p1_columns p1_rows p1_numbers) H → va_D A (wd_X1_isOf Γ q0 q1 q2 q3 d0 d1 d2 d3 d4 d5 d6 columns rows numbers p1_columns p1_rows p1_numbers) → va_S A s.heap H locs → lv_has ls 5 [(0, .ref q0), (1, .ref q2), (2, .int x2), (3, .int x3)] → vm_it (f_X1_isOf_30s numbers p1_numbers) n (x2, x3) = some ex30 → W p l e ({ frames := 0, cells := 0, slots := 0, locals := 0 } : Room) s m ([.ref q0, .ref q2] : List Value).toArray below meth c H locs 0 0 QQ (F0 m 30 ls []) := by
      clear hP hD hS hl hf h1
      intro n
      induction n with
      | zero => intro x2 x3 H locs ls hP hD hS hl hf; exact (vm_it_0 hf).elim
      | succ n ih =>
        intro x2 x3 H locs ls hP hD hS hl hf
        have hf : f_X1_isOf_30b numbers p1_numbers x2 x3 (vm_it (f_X1_isOf_30s numbers p1_numbers) n) = some ex30 := hf
        have K_82 : ∀ (x3 : Int32) (s0 : Int32) {H : Heap} {locs : List Loc} {ls : Array Slot}, va_P Γ.1 vwCl (wd_X1_isOf Γ q0 q1 q2 q3 d0 d1 d2 d3 d4 d5 d6 columns rows numbers p1_columns p1_rows p1_numbers) H → va_D A (wd_X1_isOf Γ q0 q1 q2 q3 d0 d1 d2 d3 d4 d5 d6 columns rows numbers p1_columns p1_rows p1_numbers) → va_S A s.heap H locs → lv_has ls 5 [(0, .ref q0), (1, .ref q2), (3, .int x3)] → f_X1_isOf_82 numbers p1_numbers x3 s0 (vm_it (f_X1_isOf_30s numbers p1_numbers) n) = some ex30 → W p l e ({ frames := 0, cells := 0, slots := 0, locals := 0 } : Room) s m ([.ref q0, .ref q2] : List Value).toArray below meth c H locs 0 0 QQ (F0 m 82 ls [.int s0]) := by
          intro x3 s0 H locs ls hP hD hS hl hf
          unfold f_X1_isOf_82 at hf
          refine lv_istore_n (lv' := [(2, .int s0), (0, .ref q0), (1, .ref q2), (3, .int x3)]) hx hb dX1_isOf_82 rfl hl (by decide) rfl (fun ls hl => ?_)
          refine lv_iinc (v := (x3 + 1)) (lv' := [(3, .int (x3 + 1)), (2, .int s0), (0, .ref q0), (1, .ref q2)]) hx hb dX1_isOf_83 hl (k := 3) rfl rfl (by decide) rfl (fun ls hl => ?_)
          refine lv_goto (tgt := 30) hx hb dX1_isOf_86 (by decide) ?_
          exact ih s0 (x3 + 1) hP hD hS (lv_sub hl [2, 3, 1, 0] rfl) hf
        have K_81 : ∀ (x3 : Int32) {H : Heap} {locs : List Loc} {ls : Array Slot}, va_P Γ.1 vwCl (wd_X1_isOf Γ q0 q1 q2 q3 d0 d1 d2 d3 d4 d5 d6 columns rows numbers p1_columns p1_rows p1_numbers) H → va_D A (wd_X1_isOf Γ q0 q1 q2 q3 d0 d1 d2 d3 d4 d5 d6 columns rows numbers p1_columns p1_rows p1_numbers) → va_S A s.heap H locs → lv_has ls 5 [(0, .ref q0), (1, .ref q2), (3, .int x3)] → f_X1_isOf_81 numbers p1_numbers x3 (vm_it (f_X1_isOf_30s numbers p1_numbers) n) = some ex30 → W p l e ({ frames := 0, cells := 0, slots := 0, locals := 0 } : Room) s m ([.ref q0, .ref q2] : List Value).toArray below meth c H locs 0 0 QQ (F0 m 81 ls []) := by
          intro x3 H locs ls hP hD hS hl hf
          unfold f_X1_isOf_81 at hf
          refine lv_iconst (v := 0) hx hb dX1_isOf_81 (by decide) ?_
          exact K_82 x3 0 hP hD hS (lv_sub hl [0, 1, 2] rfl) hf
        have K_77 : ∀ (x3 : Int32) {H : Heap} {locs : List Loc} {ls : Array Slot}, va_P Γ.1 vwCl (wd_X1_isOf Γ q0 q1 q2 q3 d0 d1 d2 d3 d4 d5 d6 columns rows numbers p1_columns p1_rows p1_numbers) H → va_D A (wd_X1_isOf Γ q0 q1 q2 q3 d0 d1 d2 d3 d4 d5 d6 columns rows numbers p1_columns p1_rows p1_numbers) → va_S A s.heap H locs → lv_has ls 5 [(0, .ref q0), (1, .ref q2), (3, .int x3)] → f_X1_isOf_77 numbers p1_numbers x3 (vm_it (f_X1_isOf_30s numbers p1_numbers) n) = some ex30 → W p l e ({ frames := 0, cells := 0, slots := 0, locals := 0 } : Room) s m ([.ref q0, .ref q2] : List Value).toArray below meth c H locs 0 0 QQ (F0 m 77 ls []) := by
          intro x3 H locs ls hP hD hS hl hf
          unfold f_X1_isOf_77 at hf
          refine lv_iconst (v := 1) hx hb dX1_isOf_77 (by decide) ?_
          refine lv_goto (tgt := 82) hx hb dX1_isOf_78 (by decide) ?_
          exact K_82 x3 1 hP hD hS (lv_sub hl [0, 1, 2] rfl) hf
        have K_51 : ∀ (x2 : Int32) (x3 : Int32) (s0 : Int32) {H : Heap} {locs : List Loc} {ls : Array Slot}, va_P Γ.1 vwCl (wd_X1_isOf Γ q0 q1 q2 q3 d0 d1 d2 d3 d4 d5 d6 columns rows numbers p1_columns p1_rows p1_numbers) H → va_D A (wd_X1_isOf Γ q0 q1 q2 q3 d0 d1 d2 d3 d4 d5 d6 columns rows numbers p1_columns p1_rows p1_numbers) → va_S A s.heap H locs → lv_has ls 5 [(0, .ref q0), (1, .ref q2), (2, .int x2), (3, .int x3)] → f_X1_isOf_51 numbers p1_numbers x2 x3 s0 (vm_it (f_X1_isOf_30s numbers p1_numbers) n) = some ex30 → W p l e ({ frames := 0, cells := 0, slots := 0, locals := 0 } : Room) s m ([.ref q0, .ref q2] : List Value).toArray below meth c H locs 0 0 QQ (F0 m 51 ls [.int s0]) := by
          intro x2 x3 s0 H locs ls hP hD hS hl hf
          unfold f_X1_isOf_51 at hf
          refine lv_istore (lv' := [(4, .int s0), (0, .ref q0), (1, .ref q2), (2, .int x2), (3, .int x3)]) hx hb dX1_isOf_51 hl (by decide) rfl (fun ls hl => ?_)
          refine lv_iload_n hx hb dX1_isOf_53 rfl (lv_at hl 3 rfl) ?_
          refine lv_if_eq (tgt := 81) hx hb dX1_isOf_54 (by decide) (fun hc_2 => ?_) (fun hc_2 => ?_)
          · have hf := vm_pos hc_2 hf
            exact K_81 x3 hP hD hS (lv_sub hl [1, 2, 4] rfl) hf
          · have hf := vm_neg hc_2 hf
            refine lv_iload hx hb dX1_isOf_57 (lv_at hl 0 rfl) ?_
            refine lv_if_eq (tgt := 77) hx hb dX1_isOf_59 (by decide) (fun hc_3 => ?_) (fun hc_3 => ?_)
            · have hf := vm_pos hc_3 hf
              exact K_77 x3 hP hD hS (lv_sub hl [1, 2, 4] rfl) hf
            · have hf := vm_neg hc_3 hf
              refine lv_aload_n hx hb dX1_isOf_62 rfl (lv_at hl 1 rfl) ?_
              refine va_get (D := Γ.1) (ci := 1) (v := .ref q1) (C := RX1) (T := TX1) (N := 8) hx hb hts hi1 hown hK hP 0 rfl rfl 7 (by decide) (hts (.fieldLink RX1 30 "SandPlates$Motions" "numbers" "[I") (List.mem_of_getElem? (i := 3) rfl)) (fun _ h9 => h9) rfl dX1_isOf_63 ?_
              refine lv_iload_n hx hb dX1_isOf_66 rfl (lv_at hl 4 rfl) ?_
              obtain ⟨hc_4, hf⟩ := vm_ck hf
              refine vm_iald hx hb hK hP 1 0 rfl rfl hc_4 (j := x3.toNatClampNeg) rfl dX1_isOf_67 ?_
              refine lv_aload_n hx hb dX1_isOf_68 rfl (lv_at hl 2 rfl) ?_
              refine va_getN (D := Γ.1) (ci := 2) (v := .ref q3) (C := RX2) (T := TX2) (N := 5) hx hb hts hi2 hown hK hP 2 rfl rfl 2 (by decide) (va_Nw.use rfl (nfX1_48 hE.2.1)) (fun _ h9 => h9) rfl dX1_isOf_69 ?_
              refine lv_iload_n hx hb dX1_isOf_72 rfl (lv_at hl 4 rfl) ?_
              obtain ⟨hc_5, hf⟩ := vm_ck hf
              refine vm_iald hx hb hK hP 3 0 rfl rfl hc_5 (j := x3.toNatClampNeg) rfl dX1_isOf_73 ?_
              refine lv_icmp_ne (tgt := 81) hx hb dX1_isOf_74 (by decide) (fun hc_6 => ?_) (fun hc_6 => ?_)
              · have hf := vm_neg hc_6 hf
                exact K_81 x3 hP hD hS (lv_sub hl [1, 2, 4] rfl) hf
              · have hf := vm_pos hc_6 hf
                exact K_77 x3 hP hD hS (lv_sub hl [1, 2, 4] rfl) hf
        have K_50 : ∀ (x2 : Int32) (x3 : Int32) {H : Heap} {locs : List Loc} {ls : Array Slot}, va_P Γ.1 vwCl (wd_X1_isOf Γ q0 q1 q2 q3 d0 d1 d2 d3 d4 d5 d6 columns rows numbers p1_columns p1_rows p1_numbers) H → va_D A (wd_X1_isOf Γ q0 q1 q2 q3 d0 d1 d2 d3 d4 d5 d6 columns rows numbers p1_columns p1_rows p1_numbers) → va_S A s.heap H locs → lv_has ls 5 [(0, .ref q0), (1, .ref q2), (2, .int x2), (3, .int x3)] → f_X1_isOf_50 numbers p1_numbers x2 x3 (vm_it (f_X1_isOf_30s numbers p1_numbers) n) = some ex30 → W p l e ({ frames := 0, cells := 0, slots := 0, locals := 0 } : Room) s m ([.ref q0, .ref q2] : List Value).toArray below meth c H locs 0 0 QQ (F0 m 50 ls []) := by
          intro x2 x3 H locs ls hP hD hS hl hf
          unfold f_X1_isOf_50 at hf
          refine lv_iconst (v := 0) hx hb dX1_isOf_50 (by decide) ?_
          exact K_51 x2 x3 0 hP hD hS (lv_sub hl [0, 1, 2, 3] rfl) hf
        unfold f_X1_isOf_30b at hf
        refine lv_iload_n hx hb dX1_isOf_30 rfl (lv_at hl 3 rfl) ?_
        refine lv_bipush (v := 7) hx hb dX1_isOf_31 (by decide) ?_
        refine lv_icmp_ge (tgt := 89) hx hb dX1_isOf_33 (by decide) (fun hc_7 => ?_) (fun hc_7 => ?_)
        · have hf := vm_pos hc_7 hf
          have hX := hX30
          rw [← Option.some.inj hf] at hX
          exact K_89 x2 hP hD hS (lv_sub hl [2] rfl) hX
        · have hf := vm_neg hc_7 hf
          refine lv_iload_n hx hb dX1_isOf_36 rfl (lv_at hl 3 rfl) ?_
          refine lv_iconst (v := 4) hx hb dX1_isOf_37 (by decide) ?_
          refine lv_icmp_eq (tgt := 50) hx hb dX1_isOf_38 (by decide) (fun hc_8 => ?_) (fun hc_8 => ?_)
          · have hf := vm_pos hc_8 hf
            exact K_50 x2 x3 hP hD hS (lv_sub hl [0, 1, 2, 3] rfl) hf
          · have hf := vm_neg hc_8 hf
            refine lv_iload_n hx hb dX1_isOf_41 rfl (lv_at hl 3 rfl) ?_
            refine lv_iconst (v := 5) hx hb dX1_isOf_42 (by decide) ?_
            refine lv_icmp_eq (tgt := 50) hx hb dX1_isOf_43 (by decide) (fun hc_9 => ?_) (fun hc_9 => ?_)
            · have hf := vm_pos hc_9 hf
              exact K_50 x2 x3 hP hD hS (lv_sub hl [0, 1, 2, 3] rfl) hf
            · have hf := vm_neg hc_9 hf
              refine lv_iconst (v := 1) hx hb dX1_isOf_46 (by decide) ?_
              refine lv_goto (tgt := 51) hx hb dX1_isOf_47 (by decide) ?_
              exact K_51 x2 x3 1 hP hD hS (lv_sub hl [0, 1, 2, 3] rfl) hf
    exact LP FU x2 x3 hP hD hS hl h1
  have K_27 : ∀ (s0 : Int32) {H : Heap} {locs : List Loc} {ls : Array Slot}, va_P Γ.1 vwCl (wd_X1_isOf Γ q0 q1 q2 q3 d0 d1 d2 d3 d4 d5 d6 columns rows numbers p1_columns p1_rows p1_numbers) H → va_D A (wd_X1_isOf Γ q0 q1 q2 q3 d0 d1 d2 d3 d4 d5 d6 columns rows numbers p1_columns p1_rows p1_numbers) → va_S A s.heap H locs → lv_has ls 5 [(0, .ref q0), (1, .ref q2)] → f_X1_isOf_27 numbers p1_numbers s0 = some out → W p l e ({ frames := 0, cells := 0, slots := 0, locals := 0 } : Room) s m ([.ref q0, .ref q2] : List Value).toArray below meth c H locs 0 0 QQ (F0 m 27 ls [.int s0]) := by
    intro s0 H locs ls hP hD hS hl hf
    unfold f_X1_isOf_27 at hf
    refine lv_istore_n (lv' := [(2, .int s0), (0, .ref q0), (1, .ref q2)]) hx hb dX1_isOf_27 rfl hl (by decide) rfl (fun ls hl => ?_)
    refine lv_iconst (v := 0) hx hb dX1_isOf_28 (by decide) ?_
    refine lv_istore_n (lv' := [(3, .int 0), (2, .int s0), (0, .ref q0), (1, .ref q2)]) hx hb dX1_isOf_29 rfl hl (by decide) rfl (fun ls hl => ?_)
    exact K_30 s0 0 hP hD hS (lv_sub hl [2, 3, 1, 0] rfl) hf
  have K_26 : ∀ {H : Heap} {locs : List Loc} {ls : Array Slot}, va_P Γ.1 vwCl (wd_X1_isOf Γ q0 q1 q2 q3 d0 d1 d2 d3 d4 d5 d6 columns rows numbers p1_columns p1_rows p1_numbers) H → va_D A (wd_X1_isOf Γ q0 q1 q2 q3 d0 d1 d2 d3 d4 d5 d6 columns rows numbers p1_columns p1_rows p1_numbers) → va_S A s.heap H locs → lv_has ls 5 [(0, .ref q0), (1, .ref q2)] → f_X1_isOf_26 numbers p1_numbers = some out → W p l e ({ frames := 0, cells := 0, slots := 0, locals := 0 } : Room) s m ([.ref q0, .ref q2] : List Value).toArray below meth c H locs 0 0 QQ (F0 m 26 ls []) := by
    intro H locs ls hP hD hS hl hf
    unfold f_X1_isOf_26 at hf
    refine lv_iconst (v := 0) hx hb dX1_isOf_26 (by decide) ?_
    exact K_27 0 hP hD hS (lv_sub hl [0, 1] rfl) hf
  unfold f_X1_isOf at hf
  refine lv_aload_n hx hb dX1_isOf_0 rfl (lv_at hl 0 rfl) ?_
  refine va_get (D := Γ.1) (ci := 1) (v := .int columns) (C := RX1) (T := TX1) (N := 8) hx hb hts hi1 hown hK hP 0 rfl rfl 5 (by decide) (hts (.fieldLink RX1 55 "SandPlates$Motions" "columns" "I") (List.mem_of_getElem? (i := 1) rfl)) (fun _ h9 => h9) rfl dX1_isOf_1 ?_
  refine lv_aload_n hx hb dX1_isOf_4 rfl (lv_at hl 1 rfl) ?_
  refine va_getN (D := Γ.1) (ci := 2) (v := .int p1_columns) (C := RX2) (T := TX2) (N := 5) hx hb hts hi2 hown hK hP 2 rfl rfl 0 (by decide) (va_Nw.use rfl (nfX1_59 hE.2.1)) (fun _ h9 => h9) rfl dX1_isOf_5 ?_
  refine lv_icmp_ne (tgt := 26) hx hb dX1_isOf_8 (by decide) (fun hc_10 => ?_) (fun hc_10 => ?_)
  · have hf := vm_neg hc_10 hf
    exact K_26  hP hD hS (lv_sub hl [0, 1] rfl) hf
  · have hf := vm_pos hc_10 hf
    refine lv_aload_n hx hb dX1_isOf_11 rfl (lv_at hl 0 rfl) ?_
    refine va_get (D := Γ.1) (ci := 1) (v := .int rows) (C := RX1) (T := TX1) (N := 8) hx hb hts hi1 hown hK hP 0 rfl rfl 6 (by decide) (hts (.fieldLink RX1 60 "SandPlates$Motions" "rows" "I") (List.mem_of_getElem? (i := 2) rfl)) (fun _ h9 => h9) rfl dX1_isOf_12 ?_
    refine lv_aload_n hx hb dX1_isOf_15 rfl (lv_at hl 1 rfl) ?_
    refine va_getN (D := Γ.1) (ci := 2) (v := .int p1_rows) (C := RX2) (T := TX2) (N := 5) hx hb hts hi2 hown hK hP 2 rfl rfl 1 (by decide) (va_Nw.use rfl (nfX1_63 hE.2.1)) (fun _ h9 => h9) rfl dX1_isOf_16 ?_
    refine lv_icmp_ne (tgt := 26) hx hb dX1_isOf_19 (by decide) (fun hc_11 => ?_) (fun hc_11 => ?_)
    · have hf := vm_neg hc_11 hf
      exact K_26  hP hD hS (lv_sub hl [0, 1] rfl) hf
    · have hf := vm_pos hc_11 hf
      refine lv_iconst (v := 1) hx hb dX1_isOf_22 (by decide) ?_
      refine lv_goto (tgt := 27) hx hb dX1_isOf_23 (by decide) ?_
      exact K_27 1 hP hD hS (lv_sub hl [0, 1] rfl) hf
def wd_X1_become (Γ : GE) (q0 q1 q2 q3 q4 d0 d1 d2 d3 d4 d5 : Nat) (columns : Int32) (rows : Int32) (isKnown : Nat → Int32) (numbers : Nat → Int32) (p1_columns : Int32) (p1_rows : Int32) (p1_numbers : Nat → Int32) : va_W := [(q0, .inr (1, [.ref d0, .ref d1, .ref d2, .ref d3, .ref q1, .int columns, .int rows, .ref q2])), (q1, .inl (Γ.2.1 1, 21, .inl isKnown)), (q2, .inl (Γ.2.1 0, 7, .inl numbers)), (q3, .inr (2, [.int p1_columns, .int p1_rows, .ref q4, .ref d4, .ref d5])), (q4, .inl (Γ.2.1 0, 7, .inl p1_numbers))]
def f_X1_become_52 (columns : Int32) (rows : Int32) (isKnown : Nat → Int32) (numbers : Nat → Int32) : Option (Int32 × Int32 × (Nat → Int32) × (Nat → Int32)) := some (columns, rows, isKnown, numbers)
def f_X1_become_33b (columns : Int32) (rows : Int32) (numbers : Nat → Int32) (isKnown : Nat → Int32) (x2 : Int32) (k : (((Nat → Int32) × Int32) → Option (Nat → Int32))) : Option (Nat → Int32) := if 20 < x2 then (some isKnown) else (if inb x2 21 = true then k ((upd isKnown (x2.toNatClampNeg) (vp_nar .boolean 0)), (x2 + 1)) else none)
def f_X1_become_33s (columns : Int32) (rows : Int32) (numbers : Nat → Int32) : ((Nat → Int32) × Int32) → (((Nat → Int32) × Int32) → Option (Nat → Int32)) → Option (Nat → Int32) := fun t k => f_X1_become_33b columns rows numbers t.1 t.2 k
def f_X1_become_33 (columns : Int32) (rows : Int32) (isKnown : Nat → Int32) (numbers : Nat → Int32) (x2 : Int32) : Option (Int32 × Int32 × (Nat → Int32) × (Nat → Int32)) := obx (vm_it (f_X1_become_33s columns rows numbers) FU (isKnown, x2)) (fun isKnown => f_X1_become_52 columns rows isKnown numbers)
def f_X1_become (isKnown : Nat → Int32) (numbers : Nat → Int32) (p1_columns : Int32) (p1_rows : Int32) (p1_numbers : Nat → Int32) : Option (Int32 × Int32 × (Nat → Int32) × (Nat → Int32)) := f_X1_become_33 p1_columns p1_rows isKnown (va_cpy p1_numbers numbers 0 0 7) 0
set_option maxHeartbeats 4000000 in
set_option maxRecDepth 100000 in
theorem c_X1_become (l : Launch) (Γ : GE) (sz : Nat) (q0 q1 q2 q3 q4 d0 d1 d2 d3 d4 d5 : Nat) (columns : Int32) (rows : Int32) (isKnown : Nat → Int32) (numbers : Nat → Int32) (p1_columns : Int32) (p1_rows : Int32) (p1_numbers : Nat → Int32) (o_columns : Int32) (o_rows : Int32) (o_isKnown : Nat → Int32) (o_numbers : Nat → Int32) (hf : f_X1_become isKnown numbers p1_columns p1_rows p1_numbers = some (o_columns, o_rows, o_isKnown, o_numbers)) : MetV l yX1_become wsX1_become ({ frames := 1, cells := 0, slots := 0, locals := 48 } : Room) Γ [.ref q0, .ref q3] (wd_X1_become Γ q0 q1 q2 q3 q4 d0 d1 d2 d3 d4 d5 columns rows isKnown numbers p1_columns p1_rows p1_numbers) (wd_X1_become Γ q0 q1 q2 q3 q4 d0 d1 d2 d3 d4 d5 o_columns o_rows o_isKnown o_numbers p1_columns p1_rows p1_numbers) sz := by
  refine Met.ofW (cc := cX1_become) (maxL := 3) (ret := none) (by decide) rfl ?_
  intro p e s m args below meth c s₁ B hml hv
  obtain ⟨rfl, hsz, hE, hP, hD⟩ := hv
  have hx := B.exec
  have hb := B.bytes
  have hr := B.returns
  have hts := atoms_spec (ws := wsX1_become) B.pre
  have hown : s.vm.findClass RX1 = some m.cls := findClass_of_methodNamed B.named
  have hlocks := B.notSynchronized
  subst hsz
  generalize hAe : va_A (wd_X1_become Γ q0 q1 q2 q3 q4 d0 d1 d2 d3 d4 d5 columns rows isKnown numbers p1_columns p1_rows p1_numbers) s.heap.size = A at hE hD ⊢
  have hA : ∀ q : Nat, s.heap.size ≤ q → A q := fun q h => by rw [← hAe]; exact Or.inr h
  clear hAe
  have hS : va_S A s.heap s.heap [] := va_S.rf
  have hK := hE.1
  have hl := lv_entry ([.ref q0, .ref q3]) (n := 3) (Nat.le_of_ble_eq_true rfl)
  rw [lg_entry_eq]
  generalize (lg_sl ([.ref q0, .ref q3]) ++ List.replicate (3 - (lg_sl ([.ref q0, .ref q3])).length) Slot.unset).toArray = ls at hl ⊢
  have hl : lv_has ls 3 [(0, .ref q0), (1, .ref q3)] := hl
  have hi1 : ∀ w ∈ u_ws RX1 TX1 8, w ∈ wsX1_become := fun w h => (List.mem_cons_of_mem _ (List.mem_append_right _ h))
  have hi2 : ∀ w ∈ u_ws RX2 TX2 5, w ∈ wsX1_become := fun w h => (List.mem_cons_of_mem _ (List.mem_append_left _ (List.mem_append_right _ h)))
  obtain ⟨out, hout⟩ : ∃ o, o = (o_columns, o_rows, o_isKnown, o_numbers) := ⟨_, rfl⟩
  rw [← hout] at hf
  obtain ⟨QQ, hQQ⟩ : ∃ Q, Q = MQ below (va_Qv (fun _ : Unit => True) (CQ Γ (wd_X1_become Γ q0 q1 q2 q3 q4 d0 d1 d2 d3 d4 d5 o_columns o_rows o_isKnown o_numbers p1_columns p1_rows p1_numbers) A) A) (([.ref q0, .ref q3] : List Value).toArray) s 0 0 A := ⟨_, rfl⟩
  show W p l e ({ frames := 1, cells := 0, slots := 0, locals := 48 } : Room) s m (([.ref q0, .ref q3] : List Value).toArray) below meth c s.heap [] 0 0 (MQ below _ (([.ref q0, .ref q3] : List Value).toArray) s 0 0 A) (F0 m 0 ls [])
  rw [← hQQ]
  have K_52 : ∀ (columns : Int32) (rows : Int32) (isKnown : Nat → Int32) (numbers : Nat → Int32) {H : Heap} {locs : List Loc} {ls : Array Slot}, va_P Γ.1 vwCl (wd_X1_become Γ q0 q1 q2 q3 q4 d0 d1 d2 d3 d4 d5 columns rows isKnown numbers p1_columns p1_rows p1_numbers) H → va_D A (wd_X1_become Γ q0 q1 q2 q3 q4 d0 d1 d2 d3 d4 d5 columns rows isKnown numbers p1_columns p1_rows p1_numbers) → va_S A s.heap H locs → lv_has ls 3 [] → f_X1_become_52 columns rows isKnown numbers = some out → W p l e ({ frames := 1, cells := 0, slots := 0, locals := 48 } : Room) s m ([.ref q0, .ref q3] : List Value).toArray below meth c H locs 0 0 QQ (F0 m 52 ls []) := by
    intro columns rows isKnown numbers H locs ls hP hD hS hl hf
    unfold f_X1_become_52 at hf
    subst hout; obtain ⟨rfl, rfl, rfl, rfl⟩ := rt4 hf
    subst hQQ
    exact W.vret hx hb hr (fun t ht hW => ⟨⟨(), rfl, trivial, by rw [ht]; exact hP, hD⟩, hS.F ht⟩) hS.2.2 dX1_become_52
  have K_33 : ∀ (columns : Int32) (rows : Int32) (isKnown : Nat → Int32) (numbers : Nat → Int32) (x2 : Int32) {H : Heap} {locs : List Loc} {ls : Array Slot}, va_P Γ.1 vwCl (wd_X1_become Γ q0 q1 q2 q3 q4 d0 d1 d2 d3 d4 d5 columns rows isKnown numbers p1_columns p1_rows p1_numbers) H → va_D A (wd_X1_become Γ q0 q1 q2 q3 q4 d0 d1 d2 d3 d4 d5 columns rows isKnown numbers p1_columns p1_rows p1_numbers) → va_S A s.heap H locs → lv_has ls 3 [(0, .ref q0), (2, .int x2)] → f_X1_become_33 columns rows isKnown numbers x2 = some out → W p l e ({ frames := 1, cells := 0, slots := 0, locals := 48 } : Room) s m ([.ref q0, .ref q3] : List Value).toArray below meth c H locs 0 0 QQ (F0 m 33 ls []) := by
    intro columns rows isKnown numbers x2 H locs ls hP hD hS hl hf
    unfold f_X1_become_33 at hf
    obtain ⟨ex33, h1, hX33⟩ := obx_some hf
    have LP : ∀ (n : Nat) (isKnown : Nat → Int32) (x2 : Int32)  {H : Heap} {locs : List Loc} {ls : Array Slot}, va_P Γ.1 vwCl (wd_X1_become Γ q0 q1 q2 q3 q4 d0 d1 d2 d3 d4 d5 columns rows isKnown numbers p1_columns p1_rows p1_numbers) H → va_D A (wd_X1_become Γ q0 q1 q2 q3 q4 d0 d1 d2 d3 d4 d5 columns rows isKnown numbers p1_columns p1_rows p1_numbers) → va_S A s.heap H locs → lv_has ls 3 [(0, .ref q0), (2, .int x2)] → vm_it (f_X1_become_33s columns rows numbers) n (isKnown, x2) = some ex33 → W p l e ({ frames := 1, cells := 0, slots := 0, locals := 48 } : Room) s m ([.ref q0, .ref q3] : List Value).toArray below meth c H locs 0 0 QQ (F0 m 33 ls []) := by
      clear hP hD hS hl hf h1
      intro n
      induction n with
      | zero => intro isKnown x2 H locs ls hP hD hS hl hf; exact (vm_it_0 hf).elim
      | succ n ih =>
        intro isKnown x2 H locs ls hP hD hS hl hf
        have hf : f_X1_become_33b columns rows numbers isKnown x2 (vm_it (f_X1_become_33s columns rows numbers) n) = some ex33 := hf
        unfold f_X1_become_33b at hf
        refine lv_iload_n hx hb dX1_become_33 rfl (lv_at hl 1 rfl) ?_
        refine lv_bipush (v := 20) hx hb dX1_become_34 (by decide) ?_
        refine lv_icmp_gt (tgt := 52) hx hb dX1_become_36 (by decide) (fun hc_1 => ?_) (fun hc_1 => ?_)
        · have hf := vm_pos hc_1 hf
          have hX := hX33
          rw [← Option.some.inj hf] at hX
          exact K_52 columns rows isKnown numbers hP hD hS (lv_sub hl [] rfl) hX
        · have hf := vm_neg hc_1 hf
          refine lv_aload_n hx hb dX1_become_39 rfl (lv_at hl 0 rfl) ?_
          refine va_get (D := Γ.1) (ci := 1) (v := .ref q1) (C := RX1) (T := TX1) (N := 8) hx hb hts hi1 hown hK hP 0 rfl rfl 4 (by decide) (hts (.fieldLink RX1 26 "SandPlates$Motions" "isKnown" "[Z") (List.mem_of_getElem? (i := 8) rfl)) (fun _ h9 => h9) rfl dX1_become_40 ?_
          refine lv_iload_n hx hb dX1_become_43 rfl (lv_at hl 1 rfl) ?_
          refine lv_iconst (v := 0) hx hb dX1_become_44 (by decide) ?_
          obtain ⟨hc_2, hf⟩ := vm_ck hf
          refine vm_zast hx hb hK hP hD hS 1 1 rfl rfl hc_2 (j := (x2.toNatClampNeg)) rfl dX1_become_45 (fun H locs hP hD hS => ?_)
          have hP : va_P Γ.1 vwCl (wd_X1_become Γ q0 q1 q2 q3 q4 d0 d1 d2 d3 d4 d5 columns rows (upd isKnown (x2.toNatClampNeg) (vp_nar .boolean 0)) numbers p1_columns p1_rows p1_numbers) H := hP
          have hD : va_D A (wd_X1_become Γ q0 q1 q2 q3 q4 d0 d1 d2 d3 d4 d5 columns rows (upd isKnown (x2.toNatClampNeg) (vp_nar .boolean 0)) numbers p1_columns p1_rows p1_numbers) := hD
          refine lv_iinc (v := (x2 + 1)) (lv' := [(2, .int (x2 + 1)), (0, .ref q0)]) hx hb dX1_become_46 hl (k := 1) rfl rfl (by decide) rfl (fun ls hl => ?_)
          refine lv_goto (tgt := 33) hx hb dX1_become_49 (by decide) ?_
          exact ih (upd isKnown (x2.toNatClampNeg) (vp_nar .boolean 0)) (x2 + 1) hP hD hS (lv_sub hl [1, 0] rfl) hf
    exact LP FU isKnown x2 hP hD hS hl h1
  unfold f_X1_become at hf
  refine lv_aload_n hx hb dX1_become_0 rfl (lv_at hl 0 rfl) ?_
  refine lv_aload_n hx hb dX1_become_1 rfl (lv_at hl 1 rfl) ?_
  refine va_getN (D := Γ.1) (ci := 2) (v := .int p1_columns) (C := RX2) (T := TX2) (N := 5) hx hb hts hi2 hown hK hP 3 rfl rfl 0 (by decide) (va_Nw.use rfl (nfX1_59 hE.2.1)) (fun _ h9 => h9) rfl dX1_become_2 ?_
  refine va_put (D := Γ.1) (ci := 1) (v := .int p1_columns) (ty := .int) (C := RX1) (T := TX1) (N := 8) hx hb hts hi1 tyX1 tyX1_ok nmX1 hown hK hP hD hS 0 rfl rfl 5 (by decide) (hts (.fieldLink RX1 55 "SandPlates$Motions" "columns" "I") (List.mem_of_getElem? (i := 1) rfl)) (fun _ h9 => h9) rfl (by decide +kernel) rfl rfl (Nat.le_of_ble_eq_true rfl) dX1_become_5 (fun H locs hP hD hS => ?_)
  have hP : va_P Γ.1 vwCl (wd_X1_become Γ q0 q1 q2 q3 q4 d0 d1 d2 d3 d4 d5 p1_columns rows isKnown numbers p1_columns p1_rows p1_numbers) H := hP
  have hD : va_D A (wd_X1_become Γ q0 q1 q2 q3 q4 d0 d1 d2 d3 d4 d5 p1_columns rows isKnown numbers p1_columns p1_rows p1_numbers) := hD
  refine lv_aload_n hx hb dX1_become_8 rfl (lv_at hl 0 rfl) ?_
  refine lv_aload_n hx hb dX1_become_9 rfl (lv_at hl 1 rfl) ?_
  refine va_getN (D := Γ.1) (ci := 2) (v := .int p1_rows) (C := RX2) (T := TX2) (N := 5) hx hb hts hi2 hown hK hP 3 rfl rfl 1 (by decide) (va_Nw.use rfl (nfX1_63 hE.2.1)) (fun _ h9 => h9) rfl dX1_become_10 ?_
  refine va_put (D := Γ.1) (ci := 1) (v := .int p1_rows) (ty := .int) (C := RX1) (T := TX1) (N := 8) hx hb hts hi1 tyX1 tyX1_ok nmX1 hown hK hP hD hS 0 rfl rfl 6 (by decide) (hts (.fieldLink RX1 60 "SandPlates$Motions" "rows" "I") (List.mem_of_getElem? (i := 2) rfl)) (fun _ h9 => h9) rfl (by decide +kernel) rfl rfl (Nat.le_of_ble_eq_true rfl) dX1_become_13 (fun H locs hP hD hS => ?_)
  have hP : va_P Γ.1 vwCl (wd_X1_become Γ q0 q1 q2 q3 q4 d0 d1 d2 d3 d4 d5 p1_columns p1_rows isKnown numbers p1_columns p1_rows p1_numbers) H := hP
  have hD : va_D A (wd_X1_become Γ q0 q1 q2 q3 q4 d0 d1 d2 d3 d4 d5 p1_columns p1_rows isKnown numbers p1_columns p1_rows p1_numbers) := hD
  refine lv_aload_n hx hb dX1_become_16 rfl (lv_at hl 1 rfl) ?_
  refine va_getN (D := Γ.1) (ci := 2) (v := .ref q4) (C := RX2) (T := TX2) (N := 5) hx hb hts hi2 hown hK hP 3 rfl rfl 2 (by decide) (va_Nw.use rfl (nfX1_48 hE.2.1)) (fun _ h9 => h9) rfl dX1_become_17 ?_
  refine lv_iconst (v := 0) hx hb dX1_become_20 (by decide) ?_
  refine lv_aload_n hx hb dX1_become_21 rfl (lv_at hl 0 rfl) ?_
  refine va_get (D := Γ.1) (ci := 1) (v := .ref q2) (C := RX1) (T := TX1) (N := 8) hx hb hts hi1 hown hK hP 0 rfl rfl 7 (by decide) (hts (.fieldLink RX1 30 "SandPlates$Motions" "numbers" "[I") (List.mem_of_getElem? (i := 3) rfl)) (fun _ h9 => h9) rfl dX1_become_22 ?_
  refine lv_iconst (v := 0) hx hb dX1_become_25 (by decide) ?_
  refine lv_bipush (v := 7) hx hb dX1_become_26 (by decide) ?_
  refine vm_copyi hx hb (hml.trans hl.1.symm) hown (hts (.methodLink RX1 64 arraycopyName) (List.mem_of_getElem? (i := 4) rfl)) (hts (.native arraycopyName) (List.mem_of_getElem? (i := 5) rfl)) (hts (.static arraycopyName) (List.mem_of_getElem? (i := 6) rfl)) (hts (.initialized "java/lang/System") (List.mem_of_getElem? (i := 7) rfl)) hK hP hD hS 4 2 0 0 rfl rfl rfl rfl rfl (sp := 0) (dp := 0) (n := 7) (sn := 0) (dn := 0) (nn := 7) rfl rfl rfl (by decide) (by decide) (by decide) (Nat.le_of_ble_eq_true rfl) (Nat.le_of_ble_eq_true rfl) (Nat.le_of_ble_eq_true rfl) (Nat.le_of_ble_eq_true rfl) dX1_become_28 (fun H locs hP hD hS => ?_)
  have hP : va_P Γ.1 vwCl (wd_X1_become Γ q0 q1 q2 q3 q4 d0 d1 d2 d3 d4 d5 p1_columns p1_rows isKnown (va_cpy p1_numbers numbers 0 0 7) p1_columns p1_rows p1_numbers) H := hP
  have hD : va_D A (wd_X1_become Γ q0 q1 q2 q3 q4 d0 d1 d2 d3 d4 d5 p1_columns p1_rows isKnown (va_cpy p1_numbers numbers 0 0 7) p1_columns p1_rows p1_numbers) := hD
  refine lv_iconst (v := 0) hx hb dX1_become_31 (by decide) ?_
  refine lv_istore_n (lv' := [(2, .int 0), (0, .ref q0), (1, .ref q3)]) hx hb dX1_become_32 rfl hl (by decide) rfl (fun ls hl => ?_)
  exact K_33 p1_columns p1_rows isKnown (va_cpy p1_numbers numbers 0 0 7) 0 hP hD hS (lv_sub hl [1, 0] rfl) hf
