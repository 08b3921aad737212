def wd_J7_fill_53178 (Γ : GE) (q0 : Nat) (N0 : Nat) (p0_a : Nat → Int32) : va_W := [(q0, .inl (Γ.2.1 0, N0, .inl p0_a))]
def f_J7_fill_53178_20 (N0 : Nat) (p0_a : Nat → Int32) : Option (Nat → Int32) := some p0_a
def f_J7_fill_53178_5b (N0 : Nat) (x1 : Int32) (x3 : Int32) (p0_a : Nat → Int32) (x2 : Int32) (k : (((Nat → Int32) × Int32) → Option (Nat → Int32))) : Option (Nat → Int32) := if x3 ≤ x2 then (some p0_a) else (if inb x2 N0 = true then k ((upd p0_a (x2.toNatClampNeg) x1), (x2 + 1)) else none)
def f_J7_fill_53178_5s (N0 : Nat) (x1 : Int32) (x3 : Int32) : ((Nat → Int32) × Int32) → (((Nat → Int32) × Int32) → Option (Nat → Int32)) → Option (Nat → Int32) := fun t k => f_J7_fill_53178_5b N0 x1 x3 t.1 t.2 k
def f_J7_fill_53178_5 (N0 : Nat) (p0_a : Nat → Int32) (x1 : Int32) (x2 : Int32) (x3 : Int32) : Option (Nat → Int32) := obx (vm_it (f_J7_fill_53178_5s N0 x1 x3) FU (p0_a, x2)) (fun p0_a => f_J7_fill_53178_20 N0 p0_a)
def f_J7_fill_53178 (N0 : Nat) (p0_a : Nat → Int32) (x1 : Int32) : Option (Nat → Int32) := f_J7_fill_53178_5 N0 p0_a x1 0 (nI N0)
set_option maxHeartbeats 4000000 in
set_option maxRecDepth 100000 in
theorem c_J7_fill_53178 (l : Launch) (Γ : GE) (sz : Nat) (q0 : Nat) (N0 : Nat) (p0_a : Nat → Int32) (x1 : Int32) (o_p0_a : Nat → Int32) (hf : f_J7_fill_53178 N0 p0_a x1 = some o_p0_a) : MetV l yJ7_fill_53178 wsJ7_fill_53178 ({ frames := 0, cells := 0, slots := 0, locals := 0 } : Room) Γ [.ref q0, .int x1] (wd_J7_fill_53178 Γ q0 N0 p0_a) (wd_J7_fill_53178 Γ q0 N0 o_p0_a) sz := by
  refine Met.ofW (cc := cJ7_fill_53178) (maxL := 4) (ret := none) (by decide) rfl ?_
  intro p e s m args below meth c s₁ B hml hv
  obtain ⟨rfl, hsz, hE, hP, hD⟩ := hv
  have hx := B.exec
  have hb := B.bytes
  have hr := B.returns
  have hts := atoms_spec (ws := wsJ7_fill_53178) B.pre
  have hlocks := B.notSynchronized
  subst hsz
  generalize hAe : va_A (wd_J7_fill_53178 Γ q0 N0 p0_a) s.heap.size = A at hE hD ⊢
  have hA : ∀ q : Nat, s.heap.size ≤ q → A q := fun q h => by rw [← hAe]; exact Or.inr h
  clear hAe
  have hS : va_S A s.heap s.heap [] := va_S.rf
  have hK := hE.1
  have hl := lv_entry ([.ref q0, .int x1]) (n := 4) (Nat.le_of_ble_eq_true rfl)
  rw [lg_entry_eq]
  generalize (lg_sl ([.ref q0, .int x1]) ++ List.replicate (4 - (lg_sl ([.ref q0, .int x1])).length) Slot.unset).toArray = ls at hl ⊢
  have hl : lv_has ls 4 [(0, .ref q0), (1, .int x1)] := hl
  obtain ⟨out, hout⟩ : ∃ o, o = o_p0_a := ⟨_, rfl⟩
  rw [← hout] at hf
  obtain ⟨QQ, hQQ⟩ : ∃ Q, Q = MQ below (va_Qv (fun _ : Unit => True) (CQ Γ (wd_J7_fill_53178 Γ q0 N0 o_p0_a) A) A) (([.ref q0, .int x1] : List Value).toArray) s 0 0 A := ⟨_, rfl⟩
  show W p l e ({ frames := 0, cells := 0, slots := 0, locals := 0 } : Room) s m (([.ref q0, .int x1] : List Value).toArray) below meth c s.heap [] 0 0 (MQ below _ (([.ref q0, .int x1] : List Value).toArray) s 0 0 A) (F0 m 0 ls [])
  rw [← hQQ]
  have K_20 : ∀ (p0_a : Nat → Int32) {H : Heap} {locs : List Loc} {ls : Array Slot}, va_P Γ.1 vwCl (wd_J7_fill_53178 Γ q0 N0 p0_a) H → va_D A (wd_J7_fill_53178 Γ q0 N0 p0_a) → va_S A s.heap H locs → lv_has ls 4 [] → f_J7_fill_53178_20 N0 p0_a = some out → W p l e ({ frames := 0, cells := 0, slots := 0, locals := 0 } : Room) s m ([.ref q0, .int x1] : List Value).toArray below meth c H locs 0 0 QQ (F0 m 20 ls []) := by
    intro p0_a H locs ls hP hD hS hl hf
    unfold f_J7_fill_53178_20 at hf
    subst hout; obtain rfl := Option.some.inj hf
    subst hQQ
    exact W.vret hx hb hr (fun t ht hW => ⟨⟨(), rfl, trivial, by rw [ht]; exact hP, hD⟩, hS.F ht⟩) hS.2.2 dJ7_fill_53178_20
  have K_5 : ∀ (p0_a : Nat → Int32) (x2 : Int32) (x3 : Int32) {H : Heap} {locs : List Loc} {ls : Array Slot}, va_P Γ.1 vwCl (wd_J7_fill_53178 Γ q0 N0 p0_a) H → va_D A (wd_J7_fill_53178 Γ q0 N0 p0_a) → va_S A s.heap H locs → lv_has ls 4 [(0, .ref q0), (1, .int x1), (2, .int x2), (3, .int x3)] → f_J7_fill_53178_5 N0 p0_a x1 x2 x3 = some out → W p l e ({ frames := 0, cells := 0, slots := 0, locals := 0 } : Room) s m ([.ref q0, .int x1] : List Value).toArray below meth c H locs 0 0 QQ (F0 m 5 ls []) := by
    intro p0_a x2 x3 H locs ls hP hD hS hl hf
    unfold f_J7_fill_53178_5 at hf
    obtain ⟨ex5, h1, hX5⟩ := obx_some hf
    have LP : ∀ (n : Nat) (p0_a : Nat → Int32) (x2 : Int32)  {H : Heap} {locs : List Loc} {ls : Array Slot}, va_P Γ.1 vwCl (wd_J7_fill_53178 Γ q0 N0 p0_a) H → va_D A (wd_J7_fill_53178 Γ q0 N0 p0_a) → va_S A s.heap H locs → lv_has ls 4 [(0, .ref q0), (1, .int x1), (2, .int x2), (3, .int x3)] → vm_it (f_J7_fill_53178_5s N0 x1 x3) n (p0_a, x2) = some ex5 → W p l e ({ frames := 0, cells := 0, slots := 0, locals := 0 } : Room) s m ([.ref q0, .int x1] : List Value).toArray below meth c H locs 0 0 QQ (F0 m 5 ls []) := by
      clear hP hD hS hl hf h1
      intro n
      induction n with
      | zero => intro p0_a x2 H locs ls hP hD hS hl hf; exact (vm_it_0 hf).elim
      | succ n ih =>
        intro p0_a x2 H locs ls hP hD hS hl hf
        have hf : f_J7_fill_53178_5b N0 x1 x3 p0_a x2 (vm_it (f_J7_fill_53178_5s N0 x1 x3) n) = some ex5 := hf
        unfold f_J7_fill_53178_5b at hf
        refine lv_iload_n hx hb dJ7_fill_53178_5 rfl (lv_at hl 2 rfl) ?_
        refine lv_iload_n hx hb dJ7_fill_53178_6 rfl (lv_at hl 3 rfl) ?_
        refine lv_icmp_ge (tgt := 20) hx hb dJ7_fill_53178_7 (by decide) (fun hc_1 => ?_) (fun hc_1 => ?_)
        · have hf := vm_pos hc_1 hf
          have hX := hX5
          rw [← Option.some.inj hf] at hX
          exact K_20 p0_a hP hD hS (lv_sub hl [] rfl) hX
        · have hf := vm_neg hc_1 hf
          refine lv_aload_n hx hb dJ7_fill_53178_10 rfl (lv_at hl 0 rfl) ?_
          refine lv_iload_n hx hb dJ7_fill_53178_11 rfl (lv_at hl 2 rfl) ?_
          refine lv_iload_n hx hb dJ7_fill_53178_12 rfl (lv_at hl 1 rfl) ?_
          obtain ⟨hc_2, hf⟩ := vm_ck hf
          refine vm_iast hx hb hK hP hD hS 0 0 rfl rfl hc_2 (j := (x2.toNatClampNeg)) rfl dJ7_fill_53178_13 (fun H locs hP hD hS => ?_)
          have hP : va_P Γ.1 vwCl (wd_J7_fill_53178 Γ q0 N0 (upd p0_a (x2.toNatClampNeg) x1)) H := hP
          have hD : va_D A (wd_J7_fill_53178 Γ q0 N0 (upd p0_a (x2.toNatClampNeg) x1)) := hD
          refine lv_iinc (v := (x2 + 1)) (lv' := [(2, .int (x2 + 1)), (0, .ref q0), (1, .int x1), (3, .int x3)]) hx hb dJ7_fill_53178_14 hl (k := 2) rfl rfl (by decide) rfl (fun ls hl => ?_)
          refine lv_goto (tgt := 5) hx hb dJ7_fill_53178_17 (by decide) ?_
          exact ih (upd p0_a (x2.toNatClampNeg) x1) (x2 + 1) hP hD hS (lv_sub hl [1, 2, 0, 3] rfl) hf
    exact LP FU p0_a x2 hP hD hS hl h1
  unfold f_J7_fill_53178 at hf
  refine lv_iconst (v := 0) hx hb dJ7_fill_53178_0 (by decide) ?_
  refine lv_istore_n (lv' := [(2, .int 0), (0, .ref q0), (1, .int x1)]) hx hb dJ7_fill_53178_1 rfl hl (by decide) rfl (fun ls hl => ?_)
  refine lv_aload_n hx hb dJ7_fill_53178_2 rfl (lv_at hl 1 rfl) ?_
  refine va_alen hx hb hK hP 0 0 rfl rfl (v := (nI N0)) rfl dJ7_fill_53178_3 ?_
  refine lv_istore_n (lv' := [(3, .int (nI N0)), (2, .int 0), (0, .ref q0), (1, .int x1)]) hx hb dJ7_fill_53178_4 rfl hl (by decide) rfl (fun ls hl => ?_)
  exact K_5 p0_a 0 (nI N0) hP hD hS (lv_sub hl [2, 3, 1, 0] rfl) hf
