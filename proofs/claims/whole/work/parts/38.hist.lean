def wd_X0_loseOldest (Γ : GE) (q0 q1 : Nat) (known : Int32) (had : Nat → Nat) (pW : Nat → Int32) (pH : Nat → Int32) (pN : Nat → Nat → Int32) (pF : Nat → Nat → Int32) (pG : Nat → Nat → Int32) : va_W := [(q0, .inr (0, [.ref q1, .int known]))] ++ (segH Γ q1 had pW pH pN pF pG)
def rot6 {α : Type} (f : Nat → α) : Nat → α := fun i => if i = 5 then f 0 else f (i + 1)
def rotA (f : Nat → Nat) : Nat → Nat := fun i => if i < 20 then f (i + 4) else f (i - 20)
section VMT
variable {p : Program} {l : Launch} {e : Env} {R : Room} {s : State} {m : MethodId} {args : Array Value} {below : List Frame} {meth : Method} {c : Code} {H : Heap} {locs : List Loc} {cells slots : Nat} {Q : State → Prop}
variable {cc : ByteArray} {pc : Nat} {ls : Array Slot} {rest : List Value} {D : va_G} {cl : List vw_C} {A : Nat → Prop} {a : Nat} {tys : List (ClassId × FieldType)} {ws : va_W} {H0 : Heap}
theorem vm_aast (hexec : p.tables.exec = Jvm.exec) (hb : c.code = cc) (hK : va_K D cl tys s) (hP : va_P D cl ws H) (hD : va_D A ws) (hS : va_S A H0 H locs) (q0 t0 qk ci : Nat) {cA : ClassId} {r : vw_C} {n v : Nat} {vs : List Value} {L : List (Option Nat)} (ha : ws[q0]? = some (a, .inl (cA, n, .inr (.inr (.inr (.inr (rfL L))))))) (ht : tys[t0]? = some (cA, .object r.1)) (hv : ws[qk]? = some (v, .inr (ci, vs))) (hc : cl[ci]? = some r) {i : Int32} (hin : inb i n = true) {j : Nat} (hj : i.toNatClampNeg = j) (hjl : j < L.length) (hdg : decode cc pc = .ok (.aastore, 1))
    (kk : ∀ (H1 : Heap) (locs1 : List Loc), va_P D cl (ws.set q0 (a, .inl (cA, n, .inr (.inr (.inr (.inr (rfL (L.set j (some v))))))))) H1 → va_D A (ws.set q0 (a, .inl (cA, n, .inr (.inr (.inr (.inr (rfL (L.set j (some v))))))))) → va_S A H0 H1 locs1 → W p l e R s m args below meth c H1 locs1 cells slots Q (F0 m (pc + 1) ls rest)) : W p l e R s m args below meth c H locs cells slots Q (F0 m pc ls (.ref v :: .int i :: .ref a :: rest)) := by
  subst hj
  refine va_astq hexec hb hK hP hD hS q0 t0 qk ci ha ht hv hc (inb_vp hin) hdg (fun H1 locs1 h1 h2 h3 => ?_)
  rw [rfL_set hjl] at h1 h2
  exact kk H1 locs1 h1 h2 h3
end VMT
def f_X0_loseOldest (had : Nat → Nat) (pW : Nat → Int32) (pH : Nat → Int32) (pN : Nat → Nat → Int32) (pF : Nat → Nat → Int32) (pG : Nat → Nat → Int32) : Option (Int32 × (Nat → Nat) × (Nat → Int32) × (Nat → Int32) × (Nat → Nat → Int32) × (Nat → Nat → Int32) × (Nat → Nat → Int32)) := some (5, rotA had, rot6 pW, rot6 pH, rot6 pN, rot6 pF, rot6 pG)
set_option maxHeartbeats 4000000 in
set_option maxRecDepth 100000 in
theorem c_X0_loseOldest (l : Launch) (Γ : GE) (sz : Nat) (q0 q1 : Nat) (known : Int32) (had : Nat → Nat) (pW : Nat → Int32) (pH : Nat → Int32) (pN : Nat → Nat → Int32) (pF : Nat → Nat → Int32) (pG : Nat → Nat → Int32) (o_known : Int32) (o_had : Nat → Nat) (o_pW : Nat → Int32) (o_pH : Nat → Int32) (o_pN : Nat → Nat → Int32) (o_pF : Nat → Nat → Int32) (o_pG : Nat → Nat → Int32) (hf : f_X0_loseOldest had pW pH pN pF pG = some (o_known, o_had, o_pW, o_pH, o_pN, o_pF, o_pG)) : MetV l yX0_loseOldest wsX0_loseOldest ({ frames := 0, cells := 0, slots := 0, locals := 0 } : Room) Γ [.ref q0] (wd_X0_loseOldest Γ q0 q1 known had pW pH pN pF pG) (wd_X0_loseOldest Γ q0 q1 o_known o_had o_pW o_pH o_pN o_pF o_pG) sz := by
  refine Met.ofW (cc := cX0_loseOldest) (maxL := 3) (ret := none) (by decide) rfl ?_
  intro p e s m args below meth c s₁ B hml hv
  obtain ⟨rfl, hsz, hE, hP, hD⟩ := hv
  have hx := B.exec
  have hb := B.bytes
  have hr := B.returns
  have hts := atoms_spec (ws := wsX0_loseOldest) B.pre
  have hown : s.vm.findClass RX0 = some m.cls := findClass_of_methodNamed B.named
  have hlocks := B.notSynchronized
  subst hsz
  generalize hAe : va_A (wd_X0_loseOldest Γ q0 q1 known had pW pH pN pF pG) s.heap.size = A at hE hD ⊢
  have hA : ∀ q : Nat, s.heap.size ≤ q → A q := fun q h => by rw [← hAe]; exact Or.inr h
  clear hAe
  have hS : va_S A s.heap s.heap [] := va_S.rf
  have hK := hE.1
  have hl := lv_entry ([.ref q0]) (n := 3) (Nat.le_of_ble_eq_true rfl)
  rw [lg_entry_eq]
  generalize (lg_sl ([.ref q0]) ++ List.replicate (3 - (lg_sl ([.ref q0])).length) Slot.unset).toArray = ls at hl ⊢
  have hl : lv_has ls 3 [(0, .ref q0)] := hl
  have hi0 : ∀ w ∈ u_ws RX0 TX0 2, w ∈ wsX0_loseOldest := fun w h => (List.mem_cons_of_mem _ (List.mem_append_right _ h))
  obtain ⟨rfl, rfl, rfl, rfl, rfl, rfl, rfl⟩ := rt7 hf
  show W p l e ({ frames := 0, cells := 0, slots := 0, locals := 0 } : Room) s m (([.ref q0] : List Value).toArray) below meth c s.heap [] 0 0 (MQ below _ (([.ref q0] : List Value).toArray) s 0 0 A) (F0 m 0 ls [])
  have hP : va_P Γ.1 vwCl ([(q0, .inr (0, [.ref q1, .int known])), (q1, .inl (Γ.2.1 2, 6, .inr (.inr (.inr (.inr (rfL [some (had 0), some (had 4), some (had 8), some (had 12), some (had 16), some (had 20)]))))))] ++ segP Γ had pW pH pN pF pG) s.heap := hP
  have hD : va_D A ([(q0, .inr (0, [.ref q1, .int known])), (q1, .inl (Γ.2.1 2, 6, .inr (.inr (.inr (.inr (rfL [some (had 0), some (had 4), some (had 8), some (had 12), some (had 16), some (had 20)]))))))] ++ segP Γ had pW pH pN pF pG) := hD
  refine lv_aload_n hx hb dX0_loseOldest_0 rfl (lv_at hl 0 rfl) ?_
  refine va_get (D := Γ.1) (ci := 0) (v := .ref q1) (C := RX0) (T := TX0) (N := 2) hx hb hts hi0 hown hK hP 0 rfl rfl 0 (by decide) (hts (.fieldLink RX0 11 "SandPlates$History" "plates" "[LSandPlates$Plate;") (List.mem_of_getElem? (i := 1) rfl)) (fun _ h9 => h9) rfl dX0_loseOldest_1 ?_
  refine lv_iconst (v := 0) hx hb dX0_loseOldest_4 (by decide) ?_
  refine vm_aald hx hb hK hP 1 2 rfl rfl (by decide +kernel) (v := had 0) rfl dX0_loseOldest_5 ?_
  refine lv_astore_n (lv' := [(1, .ref (had 0)), (0, .ref q0)]) hx hb dX0_loseOldest_6 rfl hl (by decide) rfl (fun ls hl => ?_)
  refine lv_iconst (v := 1) hx hb dX0_loseOldest_7 (by decide) ?_
  refine lv_istore_n (lv' := [(2, .int 1), (1, .ref (had 0)), (0, .ref q0)]) hx hb dX0_loseOldest_8 rfl hl (by decide) rfl (fun ls hl => ?_)
  refine lv_iload_n hx hb dX0_loseOldest_9 rfl (lv_at hl 0 rfl) ?_
  refine lv_bipush (v := 6) hx hb dX0_loseOldest_10 (by decide) ?_
  refine lv_icmp_ge (tgt := 35) hx hb dX0_loseOldest_12 (by decide) (fun h => absurd h (by decide)) (fun _ => ?_)
  refine lv_aload_n hx hb dX0_loseOldest_15 rfl (lv_at hl 2 rfl) ?_
  refine va_get (D := Γ.1) (ci := 0) (v := .ref q1) (C := RX0) (T := TX0) (N := 2) hx hb hts hi0 hown hK hP 0 rfl rfl 0 (by decide) (hts (.fieldLink RX0 11 "SandPlates$History" "plates" "[LSandPlates$Plate;") (List.mem_of_getElem? (i := 1) rfl)) (fun _ h9 => h9) rfl dX0_loseOldest_16 ?_
  refine lv_iload_n hx hb dX0_loseOldest_19 rfl (lv_at hl 0 rfl) ?_
  refine lv_iconst (v := 1) hx hb dX0_loseOldest_20 (by decide) ?_
  refine lv_isub hx hb dX0_loseOldest_21 ?_
  refine lv_aload_n hx hb dX0_loseOldest_22 rfl (lv_at hl 2 rfl) ?_
  refine va_get (D := Γ.1) (ci := 0) (v := .ref q1) (C := RX0) (T := TX0) (N := 2) hx hb hts hi0 hown hK hP 0 rfl rfl 0 (by decide) (hts (.fieldLink RX0 11 "SandPlates$History" "plates" "[LSandPlates$Plate;") (List.mem_of_getElem? (i := 1) rfl)) (fun _ h9 => h9) rfl dX0_loseOldest_23 ?_
  refine lv_iload_n hx hb dX0_loseOldest_26 rfl (lv_at hl 0 rfl) ?_
  refine vm_aald hx hb hK hP 1 2 rfl rfl (by decide +kernel) (v := had 4) rfl dX0_loseOldest_27 ?_
  refine vm_aast hx hb hK hP hD hS 1 2 6 2 rfl rfl rfl rfl (by decide +kernel) (j := 0) (by decide +kernel) (Nat.le_of_ble_eq_true rfl) dX0_loseOldest_28 (fun H locs hP hD hS => ?_)
  have hP : va_P Γ.1 vwCl ([(q0, .inr (0, [.ref q1, .int known])), (q1, .inl (Γ.2.1 2, 6, .inr (.inr (.inr (.inr (rfL [some (had 4), some (had 4), some (had 8), some (had 12), some (had 16), some (had 20)]))))))] ++ segP Γ had pW pH pN pF pG) H := hP
  have hD : va_D A ([(q0, .inr (0, [.ref q1, .int known])), (q1, .inl (Γ.2.1 2, 6, .inr (.inr (.inr (.inr (rfL [some (had 4), some (had 4), some (had 8), some (had 12), some (had 16), some (had 20)]))))))] ++ segP Γ had pW pH pN pF pG) := hD
  refine lv_iinc (v := 2) (lv' := [(2, .int 2), (1, .ref (had 0)), (0, .ref q0)]) hx hb dX0_loseOldest_29 hl (k := 0) rfl rfl (by decide) rfl (fun ls hl => ?_)
  refine lv_goto (tgt := 9) hx hb dX0_loseOldest_32 (by decide) ?_
  refine lv_iload_n hx hb dX0_loseOldest_9 rfl (lv_at hl 0 rfl) ?_
  refine lv_bipush (v := 6) hx hb dX0_loseOldest_10 (by decide) ?_
  refine lv_icmp_ge (tgt := 35) hx hb dX0_loseOldest_12 (by decide) (fun h => absurd h (by decide)) (fun _ => ?_)
  refine lv_aload_n hx hb dX0_loseOldest_15 rfl (lv_at hl 2 rfl) ?_
  refine va_get (D := Γ.1) (ci := 0) (v := .ref q1) (C := RX0) (T := TX0) (N := 2) hx hb hts hi0 hown hK hP 0 rfl rfl 0 (by decide) (hts (.fieldLink RX0 11 "SandPlates$History" "plates" "[LSandPlates$Plate;") (List.mem_of_getElem? (i := 1) rfl)) (fun _ h9 => h9) rfl dX0_loseOldest_16 ?_
  refine lv_iload_n hx hb dX0_loseOldest_19 rfl (lv_at hl 0 rfl) ?_
  refine lv_iconst (v := 1) hx hb dX0_loseOldest_20 (by decide) ?_
  refine lv_isub hx hb dX0_loseOldest_21 ?_
  refine lv_aload_n hx hb dX0_loseOldest_22 rfl (lv_at hl 2 rfl) ?_
  refine va_get (D := Γ.1) (ci := 0) (v := .ref q1) (C := RX0) (T := TX0) (N := 2) hx hb hts hi0 hown hK hP 0 rfl rfl 0 (by decide) (hts (.fieldLink RX0 11 "SandPlates$History" "plates" "[LSandPlates$Plate;") (List.mem_of_getElem? (i := 1) rfl)) (fun _ h9 => h9) rfl dX0_loseOldest_23 ?_
  refine lv_iload_n hx hb dX0_loseOldest_26 rfl (lv_at hl 0 rfl) ?_
  refine vm_aald hx hb hK hP 1 2 rfl rfl (by decide +kernel) (v := had 8) rfl dX0_loseOldest_27 ?_
  refine vm_aast hx hb hK hP hD hS 1 2 10 2 rfl rfl rfl rfl (by decide +kernel) (j := 1) (by decide +kernel) (Nat.le_of_ble_eq_true rfl) dX0_loseOldest_28 (fun H locs hP hD hS => ?_)
  have hP : va_P Γ.1 vwCl ([(q0, .inr (0, [.ref q1, .int known])), (q1, .inl (Γ.2.1 2, 6, .inr (.inr (.inr (.inr (rfL [some (had 4), some (had 8), some (had 8), some (had 12), some (had 16), some (had 20)]))))))] ++ segP Γ had pW pH pN pF pG) H := hP
  have hD : va_D A ([(q0, .inr (0, [.ref q1, .int known])), (q1, .inl (Γ.2.1 2, 6, .inr (.inr (.inr (.inr (rfL [some (had 4), some (had 8), some (had 8), some (had 12), some (had 16), some (had 20)]))))))] ++ segP Γ had pW pH pN pF pG) := hD
  refine lv_iinc (v := 3) (lv' := [(2, .int 3), (1, .ref (had 0)), (0, .ref q0)]) hx hb dX0_loseOldest_29 hl (k := 0) rfl rfl (by decide) rfl (fun ls hl => ?_)
  refine lv_goto (tgt := 9) hx hb dX0_loseOldest_32 (by decide) ?_
  refine lv_iload_n hx hb dX0_loseOldest_9 rfl (lv_at hl 0 rfl) ?_
  refine lv_bipush (v := 6) hx hb dX0_loseOldest_10 (by decide) ?_
  refine lv_icmp_ge (tgt := 35) hx hb dX0_loseOldest_12 (by decide) (fun h => absurd h (by decide)) (fun _ => ?_)
  refine lv_aload_n hx hb dX0_loseOldest_15 rfl (lv_at hl 2 rfl) ?_
  refine va_get (D := Γ.1) (ci := 0) (v := .ref q1) (C := RX0) (T := TX0) (N := 2) hx hb hts hi0 hown hK hP 0 rfl rfl 0 (by decide) (hts (.fieldLink RX0 11 "SandPlates$History" "plates" "[LSandPlates$Plate;") (List.mem_of_getElem? (i := 1) rfl)) (fun _ h9 => h9) rfl dX0_loseOldest_16 ?_
  refine lv_iload_n hx hb dX0_loseOldest_19 rfl (lv_at hl 0 rfl) ?_
  refine lv_iconst (v := 1) hx hb dX0_loseOldest_20 (by decide) ?_
  refine lv_isub hx hb dX0_loseOldest_21 ?_
  refine lv_aload_n hx hb dX0_loseOldest_22 rfl (lv_at hl 2 rfl) ?_
  refine va_get (D := Γ.1) (ci := 0) (v := .ref q1) (C := RX0) (T := TX0) (N := 2) hx hb hts hi0 hown hK hP 0 rfl rfl 0 (by decide) (hts (.fieldLink RX0 11 "SandPlates$History" "plates" "[LSandPlates$Plate;") (List.mem_of_getElem? (i := 1) rfl)) (fun _ h9 => h9) rfl dX0_loseOldest_23 ?_
  refine lv_iload_n hx hb dX0_loseOldest_26 rfl (lv_at hl 0 rfl) ?_
  refine vm_aald hx hb hK hP 1 2 rfl rfl (by decide +kernel) (v := had 12) rfl dX0_loseOldest_27 ?_
  refine vm_aast hx hb hK hP hD hS 1 2 14 2 rfl rfl rfl rfl (by decide +kernel) (j := 2) (by decide +kernel) (Nat.le_of_ble_eq_true rfl) dX0_loseOldest_28 (fun H locs hP hD hS => ?_)
  have hP : va_P Γ.1 vwCl ([(q0, .inr (0, [.ref q1, .int known])), (q1, .inl (Γ.2.1 2, 6, .inr (.inr (.inr (.inr (rfL [some (had 4), some (had 8), some (had 12), some (had 12), some (had 16), some (had 20)]))))))] ++ segP Γ had pW pH pN pF pG) H := hP
  have hD : va_D A ([(q0, .inr (0, [.ref q1, .int known])), (q1, .inl (Γ.2.1 2, 6, .inr (.inr (.inr (.inr (rfL [some (had 4), some (had 8), some (had 12), some (had 12), some (had 16), some (had 20)]))))))] ++ segP Γ had pW pH pN pF pG) := hD
  refine lv_iinc (v := 4) (lv' := [(2, .int 4), (1, .ref (had 0)), (0, .ref q0)]) hx hb dX0_loseOldest_29 hl (k := 0) rfl rfl (by decide) rfl (fun ls hl => ?_)
  refine lv_goto (tgt := 9) hx hb dX0_loseOldest_32 (by decide) ?_
  refine lv_iload_n hx hb dX0_loseOldest_9 rfl (lv_at hl 0 rfl) ?_
  refine lv_bipush (v := 6) hx hb dX0_loseOldest_10 (by decide) ?_
  refine lv_icmp_ge (tgt := 35) hx hb dX0_loseOldest_12 (by decide) (fun h => absurd h (by decide)) (fun _ => ?_)
  refine lv_aload_n hx hb dX0_loseOldest_15 rfl (lv_at hl 2 rfl) ?_
  refine va_get (D := Γ.1) (ci := 0) (v := .ref q1) (C := RX0) (T := TX0) (N := 2) hx hb hts hi0 hown hK hP 0 rfl rfl 0 (by decide) (hts (.fieldLink RX0 11 "SandPlates$History" "plates" "[LSandPlates$Plate;") (List.mem_of_getElem? (i := 1) rfl)) (fun _ h9 => h9) rfl dX0_loseOldest_16 ?_
  refine lv_iload_n hx hb dX0_loseOldest_19 rfl (lv_at hl 0 rfl) ?_
  refine lv_iconst (v := 1) hx hb dX0_loseOldest_20 (by decide) ?_
  refine lv_isub hx hb dX0_loseOldest_21 ?_
  refine lv_aload_n hx hb dX0_loseOldest_22 rfl (lv_at hl 2 rfl) ?_
  refine va_get (D := Γ.1) (ci := 0) (v := .ref q1) (C := RX0) (T := TX0) (N := 2) hx hb hts hi0 hown hK hP 0 rfl rfl 0 (by decide) (hts (.fieldLink RX0 11 "SandPlates$History" "plates" "[LSandPlates$Plate;") (List.mem_of_getElem? (i := 1) rfl)) (fun _ h9 => h9) rfl dX0_loseOldest_23 ?_
  refine lv_iload_n hx hb dX0_loseOldest_26 rfl (lv_at hl 0 rfl) ?_
  refine vm_aald hx hb hK hP 1 2 rfl rfl (by decide +kernel) (v := had 16) rfl dX0_loseOldest_27 ?_
  refine vm_aast hx hb hK hP hD hS 1 2 18 2 rfl rfl rfl rfl (by decide +kernel) (j := 3) (by decide +kernel) (Nat.le_of_ble_eq_true rfl) dX0_loseOldest_28 (fun H locs hP hD hS => ?_)
  have hP : va_P Γ.1 vwCl ([(q0, .inr (0, [.ref q1, .int known])), (q1, .inl (Γ.2.1 2, 6, .inr (.inr (.inr (.inr (rfL [some (had 4), some (had 8), some (had 12), some (had 16), some (had 16), some (had 20)]))))))] ++ segP Γ had pW pH pN pF pG) H := hP
  have hD : va_D A ([(q0, .inr (0, [.ref q1, .int known])), (q1, .inl (Γ.2.1 2, 6, .inr (.inr (.inr (.inr (rfL [some (had 4), some (had 8), some (had 12), some (had 16), some (had 16), some (had 20)]))))))] ++ segP Γ had pW pH pN pF pG) := hD
  refine lv_iinc (v := 5) (lv' := [(2, .int 5), (1, .ref (had 0)), (0, .ref q0)]) hx hb dX0_loseOldest_29 hl (k := 0) rfl rfl (by decide) rfl (fun ls hl => ?_)
  refine lv_goto (tgt := 9) hx hb dX0_loseOldest_32 (by decide) ?_
  refine lv_iload_n hx hb dX0_loseOldest_9 rfl (lv_at hl 0 rfl) ?_
  refine lv_bipush (v := 6) hx hb dX0_loseOldest_10 (by decide) ?_
  refine lv_icmp_ge (tgt := 35) hx hb dX0_loseOldest_12 (by decide) (fun h => absurd h (by decide)) (fun _ => ?_)
  refine lv_aload_n hx hb dX0_loseOldest_15 rfl (lv_at hl 2 rfl) ?_
  refine va_get (D := Γ.1) (ci := 0) (v := .ref q1) (C := RX0) (T := TX0) (N := 2) hx hb hts hi0 hown hK hP 0 rfl rfl 0 (by decide) (hts (.fieldLink RX0 11 "SandPlates$History" "plates" "[LSandPlates$Plate;") (List.mem_of_getElem? (i := 1) rfl)) (fun _ h9 => h9) rfl dX0_loseOldest_16 ?_
  refine lv_iload_n hx hb dX0_loseOldest_19 rfl (lv_at hl 0 rfl) ?_
  refine lv_iconst (v := 1) hx hb dX0_loseOldest_20 (by decide) ?_
  refine lv_isub hx hb dX0_loseOldest_21 ?_
  refine lv_aload_n hx hb dX0_loseOldest_22 rfl (lv_at hl 2 rfl) ?_
  refine va_get (D := Γ.1) (ci := 0) (v := .ref q1) (C := RX0) (T := TX0) (N := 2) hx hb hts hi0 hown hK hP 0 rfl rfl 0 (by decide) (hts (.fieldLink RX0 11 "SandPlates$History" "plates" "[LSandPlates$Plate;") (List.mem_of_getElem? (i := 1) rfl)) (fun _ h9 => h9) rfl dX0_loseOldest_23 ?_
  refine lv_iload_n hx hb dX0_loseOldest_26 rfl (lv_at hl 0 rfl) ?_
  refine vm_aald hx hb hK hP 1 2 rfl rfl (by decide +kernel) (v := had 20) rfl dX0_loseOldest_27 ?_
  refine vm_aast hx hb hK hP hD hS 1 2 22 2 rfl rfl rfl rfl (by decide +kernel) (j := 4) (by decide +kernel) (Nat.le_of_ble_eq_true rfl) dX0_loseOldest_28 (fun H locs hP hD hS => ?_)
  have hP : va_P Γ.1 vwCl ([(q0, .inr (0, [.ref q1, .int known])), (q1, .inl (Γ.2.1 2, 6, .inr (.inr (.inr (.inr (rfL [some (had 4), some (had 8), some (had 12), some (had 16), some (had 20), some (had 20)]))))))] ++ segP Γ had pW pH pN pF pG) H := hP
  have hD : va_D A ([(q0, .inr (0, [.ref q1, .int known])), (q1, .inl (Γ.2.1 2, 6, .inr (.inr (.inr (.inr (rfL [some (had 4), some (had 8), some (had 12), some (had 16), some (had 20), some (had 20)]))))))] ++ segP Γ had pW pH pN pF pG) := hD
  refine lv_iinc (v := 6) (lv' := [(2, .int 6), (1, .ref (had 0)), (0, .ref q0)]) hx hb dX0_loseOldest_29 hl (k := 0) rfl rfl (by decide) rfl (fun ls hl => ?_)
  refine lv_goto (tgt := 9) hx hb dX0_loseOldest_32 (by decide) ?_
  refine lv_iload_n hx hb dX0_loseOldest_9 rfl (lv_at hl 0 rfl) ?_
  refine lv_bipush (v := 6) hx hb dX0_loseOldest_10 (by decide) ?_
  refine lv_icmp_ge (tgt := 35) hx hb dX0_loseOldest_12 (by decide) (fun _ => ?_) (fun h => absurd (by decide) h)
  refine lv_aload_n hx hb dX0_loseOldest_35 rfl (lv_at hl 2 rfl) ?_
  refine va_get (D := Γ.1) (ci := 0) (v := .ref q1) (C := RX0) (T := TX0) (N := 2) hx hb hts hi0 hown hK hP 0 rfl rfl 0 (by decide) (hts (.fieldLink RX0 11 "SandPlates$History" "plates" "[LSandPlates$Plate;") (List.mem_of_getElem? (i := 1) rfl)) (fun _ h9 => h9) rfl dX0_loseOldest_36 ?_
  refine lv_iconst (v := 5) hx hb dX0_loseOldest_39 (by decide) ?_
  refine lv_aload_n hx hb dX0_loseOldest_40 rfl (lv_at hl 1 rfl) ?_
  refine vm_aast hx hb hK hP hD hS 1 2 2 2 rfl rfl rfl rfl (by decide +kernel) (j := 5) (by decide +kernel) (Nat.le_of_ble_eq_true rfl) dX0_loseOldest_41 (fun H locs hP hD hS => ?_)
  have hP : va_P Γ.1 vwCl ([(q0, .inr (0, [.ref q1, .int known])), (q1, .inl (Γ.2.1 2, 6, .inr (.inr (.inr (.inr (rfL [some (had 4), some (had 8), some (had 12), some (had 16), some (had 20), some (had 0)]))))))] ++ segP Γ had pW pH pN pF pG) H := hP
  have hD : va_D A ([(q0, .inr (0, [.ref q1, .int known])), (q1, .inl (Γ.2.1 2, 6, .inr (.inr (.inr (.inr (rfL [some (had 4), some (had 8), some (had 12), some (had 16), some (had 20), some (had 0)]))))))] ++ segP Γ had pW pH pN pF pG) := hD
  refine lv_aload_n hx hb dX0_loseOldest_42 rfl (lv_at hl 2 rfl) ?_
  refine lv_iconst (v := 5) hx hb dX0_loseOldest_43 (by decide) ?_
  refine va_put (D := Γ.1) (ci := 0) (v := .int 5) (ty := .int) (C := RX0) (T := TX0) (N := 2) hx hb hts hi0 tyX0 tyX0_ok nmX0 hown hK hP hD hS 0 rfl rfl 1 (by decide) (hts (.fieldLink RX0 18 "SandPlates$History" "known" "I") (List.mem_of_getElem? (i := 2) rfl)) (fun _ h9 => h9) rfl (by decide +kernel) rfl rfl (Nat.le_of_ble_eq_true rfl) dX0_loseOldest_44 (fun H locs hP hD hS => ?_)
  have hP : va_P Γ.1 vwCl ([(q0, .inr (0, [.ref q1, .int 5])), (q1, .inl (Γ.2.1 2, 6, .inr (.inr (.inr (.inr (rfL [some (had 4), some (had 8), some (had 12), some (had 16), some (had 20), some (had 0)]))))))] ++ segP Γ had pW pH pN pF pG) H := hP
  have hD : va_D A ([(q0, .inr (0, [.ref q1, .int 5])), (q1, .inl (Γ.2.1 2, 6, .inr (.inr (.inr (.inr (rfL [some (had 4), some (had 8), some (had 12), some (had 16), some (had 20), some (had 0)]))))))] ++ segP Γ had pW pH pN pF pG) := hD
  have hP : va_P Γ.1 vwCl (wd_X0_loseOldest Γ q0 q1 5 (rotA had) (rot6 pW) (rot6 pH) (rot6 pN) (rot6 pF) (rot6 pG)) H := hP.sub [0, 1, 6, 7, 8, 9, 10, 11, 12, 13, 14, 15, 16, 17, 18, 19, 20, 21, 22, 23, 24, 25, 2, 3, 4, 5] rfl
  have hD : va_D A (wd_X0_loseOldest Γ q0 q1 5 (rotA had) (rot6 pW) (rot6 pH) (rot6 pN) (rot6 pF) (rot6 pG)) := hD.sub [0, 1, 6, 7, 8, 9, 10, 11, 12, 13, 14, 15, 16, 17, 18, 19, 20, 21, 22, 23, 24, 25, 2, 3, 4, 5] (by decide) rfl
  exact W.vret hx hb hr (fun t ht hW => ⟨⟨(), rfl, trivial, by rw [ht]; exact hP, hD⟩, hS.F ht⟩) hS.2.2 dX0_loseOldest_47
def wd_X0_record (Γ : GE) (q0 q1 q2 q3 q4 q5 : Nat) (known : Int32) (had : Nat → Nat) (pW : Nat → Int32) (pH : Nat → Int32) (pN : Nat → Nat → Int32) (pF : Nat → Nat → Int32) (pG : Nat → Nat → Int32) (p1_columns : Int32) (p1_rows : Int32) (p1_numbers : Nat → Int32) (p1_figure : Nat → Int32) (p1_grains : Nat → Int32) : va_W := [(q0, .inr (0, [.ref q1, .int known]))] ++ (segH Γ q1 had pW pH pN pF pG ++ ([(q2, .inr (2, [.int p1_columns, .int p1_rows, .ref q3, .ref q4, .ref q5])), (q3, .inl (Γ.2.1 0, 7, .inl p1_numbers)), (q4, .inl (Γ.2.1 0, 36, .inl p1_figure)), (q5, .inl (Γ.2.1 0, 36, .inl p1_grains))]))
def f_X0_record_13 (known : Int32) (had : Nat → Nat) (pW : Nat → Int32) (pH : Nat → Int32) (pN : Nat → Nat → Int32) (pF : Nat → Nat → Int32) (pG : Nat → Nat → Int32) (p1_columns : Int32) (p1_rows : Int32) (p1_numbers : Nat → Int32) (p1_figure : Nat → Int32) (p1_grains : Nat → Int32) : Option (Int32 × (Nat → Nat) × (Nat → Int32) × (Nat → Int32) × (Nat → Nat → Int32) × (Nat → Nat → Int32) × (Nat → Nat → Int32)) := if known = 0 then (ob5 (f_X2_takeFrom (pN 0) (pF 0) (pG 0) p1_columns p1_rows p1_numbers p1_figure p1_grains) (fun pW_2 pH_3 pN_4 pF_5 pG_6 => some ((known + 1), had, (va_up pW 0 pW_2), (va_up pH 0 pH_3), (va_up pN 0 pN_4), (va_up pF 0 pF_5), (va_up pG 0 pG_6)))) else if known = 1 then (ob5 (f_X2_takeFrom (pN 1) (pF 1) (pG 1) p1_columns p1_rows p1_numbers p1_figure p1_grains) (fun pW_9 pH_10 pN_11 pF_12 pG_13 => some ((known + 1), had, (va_up pW 1 pW_9), (va_up pH 1 pH_10), (va_up pN 1 pN_11), (va_up pF 1 pF_12), (va_up pG 1 pG_13)))) else if known = 2 then (ob5 (f_X2_takeFrom (pN 2) (pF 2) (pG 2) p1_columns p1_rows p1_numbers p1_figure p1_grains) (fun pW_16 pH_17 pN_18 pF_19 pG_20 => some ((known + 1), had, (va_up pW 2 pW_16), (va_up pH 2 pH_17), (va_up pN 2 pN_18), (va_up pF 2 pF_19), (va_up pG 2 pG_20)))) else if known = 3 then (ob5 (f_X2_takeFrom (pN 3) (pF 3) (pG 3) p1_columns p1_rows p1_numbers p1_figure p1_grains) (fun pW_23 pH_24 pN_25 pF_26 pG_27 => some ((known + 1), had, (va_up pW 3 pW_23), (va_up pH 3 pH_24), (va_up pN 3 pN_25), (va_up pF 3 pF_26), (va_up pG 3 pG_27)))) else if known = 4 then (ob5 (f_X2_takeFrom (pN 4) (pF 4) (pG 4) p1_columns p1_rows p1_numbers p1_figure p1_grains) (fun pW_30 pH_31 pN_32 pF_33 pG_34 => some ((known + 1), had, (va_up pW 4 pW_30), (va_up pH 4 pH_31), (va_up pN 4 pN_32), (va_up pF 4 pF_33), (va_up pG 4 pG_34)))) else if known = 5 then (ob5 (f_X2_takeFrom (pN 5) (pF 5) (pG 5) p1_columns p1_rows p1_numbers p1_figure p1_grains) (fun pW_37 pH_38 pN_39 pF_40 pG_41 => some ((known + 1), had, (va_up pW 5 pW_37), (va_up pH 5 pH_38), (va_up pN 5 pN_39), (va_up pF 5 pF_40), (va_up pG 5 pG_41)))) else none
def f_X0_record (known : Int32) (had : Nat → Nat) (pW : Nat → Int32) (pH : Nat → Int32) (pN : Nat → Nat → Int32) (pF : Nat → Nat → Int32) (pG : Nat → Nat → Int32) (p1_columns : Int32) (p1_rows : Int32) (p1_numbers : Nat → Int32) (p1_figure : Nat → Int32) (p1_grains : Nat → Int32) : Option (Int32 × (Nat → Nat) × (Nat → Int32) × (Nat → Int32) × (Nat → Nat → Int32) × (Nat → Nat → Int32) × (Nat → Nat → Int32)) := if known < 6 then (f_X0_record_13 known had pW pH pN pF pG p1_columns p1_rows p1_numbers p1_figure p1_grains) else (ob7 (f_X0_loseOldest had pW pH pN pF pG) (fun known_44 had_45 pW_46 pH_47 pN_48 pF_49 pG_50 => f_X0_record_13 known_44 had_45 pW_46 pH_47 pN_48 pF_49 pG_50 p1_columns p1_rows p1_numbers p1_figure p1_grains))
set_option maxHeartbeats 4000000 in
set_option maxRecDepth 100000 in
theorem c_X0_record (l : Launch) (Γ : GE) (sz : Nat) (q0 q1 q2 q3 q4 q5 : Nat) (known : Int32) (had : Nat → Nat) (pW : Nat → Int32) (pH : Nat → Int32) (pN : Nat → Nat → Int32) (pF : Nat → Nat → Int32) (pG : Nat → Nat → Int32) (p1_columns : Int32) (p1_rows : Int32) (p1_numbers : Nat → Int32) (p1_figure : Nat → Int32) (p1_grains : Nat → Int32) (o_known : Int32) (o_had : Nat → Nat) (o_pW : Nat → Int32) (o_pH : Nat → Int32) (o_pN : Nat → Nat → Int32) (o_pF : Nat → Nat → Int32) (o_pG : Nat → Nat → Int32) (hf : f_X0_record known had pW pH pN pF pG p1_columns p1_rows p1_numbers p1_figure p1_grains = some (o_known, o_had, o_pW, o_pH, o_pN, o_pF, o_pG)) : MetV l yX0_record wsX0_record ({ frames := 2, cells := 0, slots := 0, locals := 69 } : Room) Γ [.ref q0, .ref q2] (wd_X0_record Γ q0 q1 q2 q3 q4 q5 known had pW pH pN pF pG p1_columns p1_rows p1_numbers p1_figure p1_grains) (wd_X0_record Γ q0 q1 q2 q3 q4 q5 o_known o_had o_pW o_pH o_pN o_pF o_pG p1_columns p1_rows p1_numbers p1_figure p1_grains) sz := by
  refine Met.ofW (cc := cX0_record) (maxL := 2) (ret := none) (by decide) rfl ?_
  intro p e s m args below meth c s₁ B hml hv
  obtain ⟨rfl, hsz, hE, hP, hD⟩ := hv
  have hx := B.exec
  have hb := B.bytes
  have hr := B.returns
  have hts := atoms_spec (ws := wsX0_record) B.pre
  have hown : s.vm.findClass RX0 = some m.cls := findClass_of_methodNamed B.named
  have hlocks := B.notSynchronized
  subst hsz
  generalize hAe : va_A (wd_X0_record Γ q0 q1 q2 q3 q4 q5 known had pW pH pN pF pG p1_columns p1_rows p1_numbers p1_figure p1_grains) s.heap.size = A at hE hD ⊢
  have hA : ∀ q : Nat, s.heap.size ≤ q → A q := fun q h => by rw [← hAe]; exact Or.inr h
  clear hAe
  have hS : va_S A s.heap s.heap [] := va_S.rf
  have hK := hE.1
  have hl := lv_entry ([.ref q0, .ref q2]) (n := 2) (Nat.le_of_ble_eq_true rfl)
  rw [lg_entry_eq]
  generalize (lg_sl ([.ref q0, .ref q2]) ++ List.replicate (2 - (lg_sl ([.ref q0, .ref q2])).length) Slot.unset).toArray = ls at hl ⊢
  have hl : lv_has ls 2 [(0, .ref q0), (1, .ref q2)] := hl
  have hi0 : ∀ w ∈ u_ws RX0 TX0 2, w ∈ wsX0_record := fun w h => (List.mem_cons_of_mem _ (List.mem_append_left _ (List.mem_append_right _ h)))
  have hi2 : ∀ w ∈ u_ws RX2 TX2 5, w ∈ wsX0_record := fun w h => (List.mem_cons_of_mem _ (List.mem_append_right _ h))
  obtain ⟨out, hout⟩ : ∃ o, o = (o_known, o_had, o_pW, o_pH, o_pN, o_pF, o_pG) := ⟨_, rfl⟩
  rw [← hout] at hf
  obtain ⟨QQ, hQQ⟩ : ∃ Q, Q = MQ below (va_Qv (fun _ : Unit => True) (CQ Γ (wd_X0_record Γ q0 q1 q2 q3 q4 q5 o_known o_had o_pW o_pH o_pN o_pF o_pG p1_columns p1_rows p1_numbers p1_figure p1_grains) A) A) (([.ref q0, .ref q2] : List Value).toArray) s 0 0 A := ⟨_, rfl⟩
  show W p l e ({ frames := 2, cells := 0, slots := 0, locals := 69 } : Room) s m (([.ref q0, .ref q2] : List Value).toArray) below meth c s.heap [] 0 0 (MQ below _ (([.ref q0, .ref q2] : List Value).toArray) s 0 0 A) (F0 m 0 ls [])
  rw [← hQQ]
  have K_13 : ∀ (known : Int32) (had : Nat → Nat) (pW : Nat → Int32) (pH : Nat → Int32) (pN : Nat → Nat → Int32) (pF : Nat → Nat → Int32) (pG : Nat → Nat → Int32) {H : Heap} {locs : List Loc} {ls : Array Slot}, va_P Γ.1 vwCl (wd_X0_record Γ q0 q1 q2 q3 q4 q5 known had pW pH pN pF pG p1_columns p1_rows p1_numbers p1_figure p1_grains) H → va_D A (wd_X0_record Γ q0 q1 q2 q3 q4 q5 known had pW pH pN pF pG p1_columns p1_rows p1_numbers p1_figure p1_grains) → va_S A s.heap H locs → lv_has ls 2 [(0, .ref q0), (1, .ref q2)] → f_X0_record_13 known had pW pH pN pF pG p1_columns p1_rows p1_numbers p1_figure p1_grains = some out → W p l e ({ frames := 2, cells := 0, slots := 0, locals := 69 } : Room) s m ([.ref q0, .ref q2] : List Value).toArray below meth c H locs 0 0 QQ (F0 m 13 ls []) := by
    intro known had pW pH pN pF pG H locs ls hP hD hS hl hf
    unfold f_X0_record_13 at hf
    refine lv_aload_n hx hb dX0_record_13 rfl (lv_at hl 0 rfl) ?_
    refine va_get (D := Γ.1) (ci := 0) (v := .ref q1) (C := RX0) (T := TX0) (N := 2) hx hb hts hi0 hown hK hP 0 rfl rfl 0 (by decide) (hts (.fieldLink RX0 11 "SandPlates$History" "plates" "[LSandPlates$Plate;") (List.mem_of_getElem? (i := 2) rfl)) (fun _ h9 => h9) rfl dX0_record_14 ?_
    refine lv_aload_n hx hb dX0_record_17 rfl (lv_at hl 0 rfl) ?_
    refine va_get (D := Γ.1) (ci := 0) (v := .int known) (C := RX0) (T := TX0) (N := 2) hx hb hts hi0 hown hK hP 0 rfl rfl 1 (by decide) (hts (.fieldLink RX0 18 "SandPlates$History" "known" "I") (List.mem_of_getElem? (i := 1) rfl)) (fun _ h9 => h9) rfl dX0_record_18 ?_
    by_cases hc_1 : known = 0
    · have hf := vm_pos hc_1 hf
      refine vm_aald hx hb hK hP 1 2 rfl rfl (by rw [hc_1]; decide +kernel) (v := had 0) (by rw [hc_1]; rfl) dX0_record_21 ?_
      refine lv_aload_n hx hb dX0_record_22 rfl (lv_at hl 1 rfl) ?_
      obtain ⟨pW_2, pH_3, pN_4, pF_5, pG_6, hq_7, hf⟩ := ob5_some hf
      refine vm_cNv (isC := [2, 3, 4, 5, 26, 27, 28, 29]) (wc := (wd_X2_takeFrom Γ (had 0) (had 1) (had 2) (had 3) q2 q3 q4 q5 (pW 0) (pH 0) (pN 0) (pF 0) (pG 0) p1_columns p1_rows p1_numbers p1_figure p1_grains)) (w1 := (wd_X2_takeFrom Γ (had 0) (had 1) (had 2) (had 3) q2 q3 q4 q5 pW_2 pH_3 pN_4 pF_5 pG_6 p1_columns p1_rows p1_numbers p1_figure p1_grains)) (As := [.ref q2]) (rest := []) ⟨hx, hb, hml, hown, hts⟩ hE hP hD hS hA rfl rfl rfl (c_X2_takeFrom l Γ _ (had 0) (had 1) (had 2) (had 3) q2 q3 q4 q5 (pW 0) (pH 0) (pN 0) (pF 0) (pG 0) p1_columns p1_rows p1_numbers p1_figure p1_grains pW_2 pH_3 pN_4 pF_5 pG_6 hq_7) ⟨va_cnB 1 hts ggX0_record_X2_takeFrom rfl rfl rfl (nmX0_25 hE.2.1) (hts (.initialized RX2) (List.mem_of_getElem? (i := 9) rfl)) (by decide +kernel) ⟨Nat.le_of_ble_eq_true rfl, Nat.le_of_ble_eq_true rfl⟩, (hts (.instanceMethod yX2_takeFrom) (List.mem_of_getElem? (i := 8) rfl)), (hts (.selects RX2 yX2_takeFrom yX2_takeFrom) (List.mem_of_getElem? (i := 10) rfl))⟩ (va_recv (ci := 2) (q0 := 2) hK hP rfl rfl) rfl hl.1 rfl (Nat.le_of_ble_eq_true rfl) dX0_record_23 ⟨Nat.zero_le _, Nat.zero_le _⟩ (fun H locs hP hD hS => ?_)
      have hP : va_P Γ.1 vwCl (wd_X0_record Γ q0 q1 q2 q3 q4 q5 known had (va_up pW 0 pW_2) (va_up pH 0 pH_3) (va_up pN 0 pN_4) (va_up pF 0 pF_5) (va_up pG 0 pG_6) p1_columns p1_rows p1_numbers p1_figure p1_grains) H := hP
      have hD : va_D A (wd_X0_record Γ q0 q1 q2 q3 q4 q5 known had (va_up pW 0 pW_2) (va_up pH 0 pH_3) (va_up pN 0 pN_4) (va_up pF 0 pF_5) (va_up pG 0 pG_6) p1_columns p1_rows p1_numbers p1_figure p1_grains) := hD
      refine lv_aload_n hx hb dX0_record_26 rfl (lv_at hl 0 rfl) ?_
      refine lv_dup hx hb dX0_record_27 rfl ?_
      refine va_get (D := Γ.1) (ci := 0) (v := .int known) (C := RX0) (T := TX0) (N := 2) hx hb hts hi0 hown hK hP 0 rfl rfl 1 (by decide) (hts (.fieldLink RX0 18 "SandPlates$History" "known" "I") (List.mem_of_getElem? (i := 1) rfl)) (fun _ h9 => h9) rfl dX0_record_28 ?_
      refine lv_iconst (v := 1) hx hb dX0_record_31 (by decide) ?_
      refine lv_iadd hx hb dX0_record_32 ?_
      refine va_put (D := Γ.1) (ci := 0) (v := .int (known + 1)) (ty := .int) (C := RX0) (T := TX0) (N := 2) hx hb hts hi0 tyX0 tyX0_ok nmX0 hown hK hP hD hS 0 rfl rfl 1 (by decide) (hts (.fieldLink RX0 18 "SandPlates$History" "known" "I") (List.mem_of_getElem? (i := 1) rfl)) (fun _ h9 => h9) rfl (by decide +kernel) rfl rfl (Nat.le_of_ble_eq_true rfl) dX0_record_33 (fun H locs hP hD hS => ?_)
      have hP : va_P Γ.1 vwCl (wd_X0_record Γ q0 q1 q2 q3 q4 q5 (known + 1) had (va_up pW 0 pW_2) (va_up pH 0 pH_3) (va_up pN 0 pN_4) (va_up pF 0 pF_5) (va_up pG 0 pG_6) p1_columns p1_rows p1_numbers p1_figure p1_grains) H := hP
      have hD : va_D A (wd_X0_record Γ q0 q1 q2 q3 q4 q5 (known + 1) had (va_up pW 0 pW_2) (va_up pH 0 pH_3) (va_up pN 0 pN_4) (va_up pF 0 pF_5) (va_up pG 0 pG_6) p1_columns p1_rows p1_numbers p1_figure p1_grains) := hD
      subst hout; obtain ⟨rfl, rfl, rfl, rfl, rfl, rfl, rfl⟩ := rt7 hf
      subst hQQ
      exact W.vret hx hb hr (fun t ht hW => ⟨⟨(), rfl, trivial, by rw [ht]; exact hP, hD⟩, hS.F ht⟩) hS.2.2 dX0_record_36
    · have hf := vm_neg hc_1 hf
      by_cases hc_8 : known = 1
      · have hf := vm_pos hc_8 hf
        refine vm_aald hx hb hK hP 1 2 rfl rfl (by rw [hc_8]; decide +kernel) (v := had 4) (by rw [hc_8]; rfl) dX0_record_21 ?_
        refine lv_aload_n hx hb dX0_record_22 rfl (lv_at hl 1 rfl) ?_
        obtain ⟨pW_9, pH_10, pN_11, pF_12, pG_13, hq_14, hf⟩ := ob5_some hf
        refine vm_cNv (isC := [6, 7, 8, 9, 26, 27, 28, 29]) (wc := (wd_X2_takeFrom Γ (had 4) (had 5) (had 6) (had 7) q2 q3 q4 q5 (pW 1) (pH 1) (pN 1) (pF 1) (pG 1) p1_columns p1_rows p1_numbers p1_figure p1_grains)) (w1 := (wd_X2_takeFrom Γ (had 4) (had 5) (had 6) (had 7) q2 q3 q4 q5 pW_9 pH_10 pN_11 pF_12 pG_13 p1_columns p1_rows p1_numbers p1_figure p1_grains)) (As := [.ref q2]) (rest := []) ⟨hx, hb, hml, hown, hts⟩ hE hP hD hS hA rfl rfl rfl (c_X2_takeFrom l Γ _ (had 4) (had 5) (had 6) (had 7) q2 q3 q4 q5 (pW 1) (pH 1) (pN 1) (pF 1) (pG 1) p1_columns p1_rows p1_numbers p1_figure p1_grains pW_9 pH_10 pN_11 pF_12 pG_13 hq_14) ⟨va_cnB 1 hts ggX0_record_X2_takeFrom rfl rfl rfl (nmX0_25 hE.2.1) (hts (.initialized RX2) (List.mem_of_getElem? (i := 9) rfl)) (by decide +kernel) ⟨Nat.le_of_ble_eq_true rfl, Nat.le_of_ble_eq_true rfl⟩, (hts (.instanceMethod yX2_takeFrom) (List.mem_of_getElem? (i := 8) rfl)), (hts (.selects RX2 yX2_takeFrom yX2_takeFrom) (List.mem_of_getElem? (i := 10) rfl))⟩ (va_recv (ci := 2) (q0 := 6) hK hP rfl rfl) rfl hl.1 rfl (Nat.le_of_ble_eq_true rfl) dX0_record_23 ⟨Nat.zero_le _, Nat.zero_le _⟩ (fun H locs hP hD hS => ?_)
        have hP : va_P Γ.1 vwCl (wd_X0_record Γ q0 q1 q2 q3 q4 q5 known had (va_up pW 1 pW_9) (va_up pH 1 pH_10) (va_up pN 1 pN_11) (va_up pF 1 pF_12) (va_up pG 1 pG_13) p1_columns p1_rows p1_numbers p1_figure p1_grains) H := hP
        have hD : va_D A (wd_X0_record Γ q0 q1 q2 q3 q4 q5 known had (va_up pW 1 pW_9) (va_up pH 1 pH_10) (va_up pN 1 pN_11) (va_up pF 1 pF_12) (va_up pG 1 pG_13) p1_columns p1_rows p1_numbers p1_figure p1_grains) := hD
        refine lv_aload_n hx hb dX0_record_26 rfl (lv_at hl 0 rfl) ?_
        refine lv_dup hx hb dX0_record_27 rfl ?_
        refine va_get (D := Γ.1) (ci := 0) (v := .int known) (C := RX0) (T := TX0) (N := 2) hx hb hts hi0 hown hK hP 0 rfl rfl 1 (by decide) (hts (.fieldLink RX0 18 "SandPlates$History" "known" "I") (List.mem_of_getElem? (i := 1) rfl)) (fun _ h9 => h9) rfl dX0_record_28 ?_
        refine lv_iconst (v := 1) hx hb dX0_record_31 (by decide) ?_
        refine lv_iadd hx hb dX0_record_32 ?_
        refine va_put (D := Γ.1) (ci := 0) (v := .int (known + 1)) (ty := .int) (C := RX0) (T := TX0) (N := 2) hx hb hts hi0 tyX0 tyX0_ok nmX0 hown hK hP hD hS 0 rfl rfl 1 (by decide) (hts (.fieldLink RX0 18 "SandPlates$History" "known" "I") (List.mem_of_getElem? (i := 1) rfl)) (fun _ h9 => h9) rfl (by decide +kernel) rfl rfl (Nat.le_of_ble_eq_true rfl) dX0_record_33 (fun H locs hP hD hS => ?_)
        have hP : va_P Γ.1 vwCl (wd_X0_record Γ q0 q1 q2 q3 q4 q5 (known + 1) had (va_up pW 1 pW_9) (va_up pH 1 pH_10) (va_up pN 1 pN_11) (va_up pF 1 pF_12) (va_up pG 1 pG_13) p1_columns p1_rows p1_numbers p1_figure p1_grains) H := hP
        have hD : va_D A (wd_X0_record Γ q0 q1 q2 q3 q4 q5 (known + 1) had (va_up pW 1 pW_9) (va_up pH 1 pH_10) (va_up pN 1 pN_11) (va_up pF 1 pF_12) (va_up pG 1 pG_13) p1_columns p1_rows p1_numbers p1_figure p1_grains) := hD
        subst hout; obtain ⟨rfl, rfl, rfl, rfl, rfl, rfl, rfl⟩ := rt7 hf
        subst hQQ
        exact W.vret hx hb hr (fun t ht hW => ⟨⟨(), rfl, trivial, by rw [ht]; exact hP, hD⟩, hS.F ht⟩) hS.2.2 dX0_record_36
      · have hf := vm_neg hc_8 hf
        by_cases hc_15 : known = 2
        · have hf := vm_pos hc_15 hf
          refine vm_aald hx hb hK hP 1 2 rfl rfl (by rw [hc_15]; decide +kernel) (v := had 8) (by rw [hc_15]; rfl) dX0_record_21 ?_
          refine lv_aload_n hx hb dX0_record_22 rfl (lv_at hl 1 rfl) ?_
          obtain ⟨pW_16, pH_17, pN_18, pF_19, pG_20, hq_21, hf⟩ := ob5_some hf
          refine vm_cNv (isC := [10, 11, 12, 13, 26, 27, 28, 29]) (wc := (wd_X2_takeFrom Γ (had 8) (had 9) (had 10) (had 11) q2 q3 q4 q5 (pW 2) (pH 2) (pN 2) (pF 2) (pG 2) p1_columns p1_rows p1_numbers p1_figure p1_grains)) (w1 := (wd_X2_takeFrom Γ (had 8) (had 9) (had 10) (had 11) q2 q3 q4 q5 pW_16 pH_17 pN_18 pF_19 pG_20 p1_columns p1_rows p1_numbers p1_figure p1_grains)) (As := [.ref q2]) (rest := []) ⟨hx, hb, hml, hown, hts⟩ hE hP hD hS hA rfl rfl rfl (c_X2_takeFrom l Γ _ (had 8) (had 9) (had 10) (had 11) q2 q3 q4 q5 (pW 2) (pH 2) (pN 2) (pF 2) (pG 2) p1_columns p1_rows p1_numbers p1_figure p1_grains pW_16 pH_17 pN_18 pF_19 pG_20 hq_21) ⟨va_cnB 1 hts ggX0_record_X2_takeFrom rfl rfl rfl (nmX0_25 hE.2.1) (hts (.initialized RX2) (List.mem_of_getElem? (i := 9) rfl)) (by decide +kernel) ⟨Nat.le_of_ble_eq_true rfl, Nat.le_of_ble_eq_true rfl⟩, (hts (.instanceMethod yX2_takeFrom) (List.mem_of_getElem? (i := 8) rfl)), (hts (.selects RX2 yX2_takeFrom yX2_takeFrom) (List.mem_of_getElem? (i := 10) rfl))⟩ (va_recv (ci := 2) (q0 := 10) hK hP rfl rfl) rfl hl.1 rfl (Nat.le_of_ble_eq_true rfl) dX0_record_23 ⟨Nat.zero_le _, Nat.zero_le _⟩ (fun H locs hP hD hS => ?_)
          have hP : va_P Γ.1 vwCl (wd_X0_record Γ q0 q1 q2 q3 q4 q5 known had (va_up pW 2 pW_16) (va_up pH 2 pH_17) (va_up pN 2 pN_18) (va_up pF 2 pF_19) (va_up pG 2 pG_20) p1_columns p1_rows p1_numbers p1_figure p1_grains) H := hP
          have hD : va_D A (wd_X0_record Γ q0 q1 q2 q3 q4 q5 known had (va_up pW 2 pW_16) (va_up pH 2 pH_17) (va_up pN 2 pN_18) (va_up pF 2 pF_19) (va_up pG 2 pG_20) p1_columns p1_rows p1_numbers p1_figure p1_grains) := hD
          refine lv_aload_n hx hb dX0_record_26 rfl (lv_at hl 0 rfl) ?_
          refine lv_dup hx hb dX0_record_27 rfl ?_
          refine va_get (D := Γ.1) (ci := 0) (v := .int known) (C := RX0) (T := TX0) (N := 2) hx hb hts hi0 hown hK hP 0 rfl rfl 1 (by decide) (hts (.fieldLink RX0 18 "SandPlates$History" "known" "I") (List.mem_of_getElem? (i := 1) rfl)) (fun _ h9 => h9) rfl dX0_record_28 ?_
          refine lv_iconst (v := 1) hx hb dX0_record_31 (by decide) ?_
          refine lv_iadd hx hb dX0_record_32 ?_
          refine va_put (D := Γ.1) (ci := 0) (v := .int (known + 1)) (ty := .int) (C := RX0) (T := TX0) (N := 2) hx hb hts hi0 tyX0 tyX0_ok nmX0 hown hK hP hD hS 0 rfl rfl 1 (by decide) (hts (.fieldLink RX0 18 "SandPlates$History" "known" "I") (List.mem_of_getElem? (i := 1) rfl)) (fun _ h9 => h9) rfl (by decide +kernel) rfl rfl (Nat.le_of_ble_eq_true rfl) dX0_record_33 (fun H locs hP hD hS => ?_)
          have hP : va_P Γ.1 vwCl (wd_X0_record Γ q0 q1 q2 q3 q4 q5 (known + 1) had (va_up pW 2 pW_16) (va_up pH 2 pH_17) (va_up pN 2 pN_18) (va_up pF 2 pF_19) (va_up pG 2 pG_20) p1_columns p1_rows p1_numbers p1_figure p1_grains) H := hP
          have hD : va_D A (wd_X0_record Γ q0 q1 q2 q3 q4 q5 (known + 1) had (va_up pW 2 pW_16) (va_up pH 2 pH_17) (va_up pN 2 pN_18) (va_up pF 2 pF_19) (va_up pG 2 pG_20) p1_columns p1_rows p1_numbers p1_figure p1_grains) := hD
          subst hout; obtain ⟨rfl, rfl, rfl, rfl, rfl, rfl, rfl⟩ := rt7 hf
          subst hQQ
          exact W.vret hx hb hr (fun t ht hW => ⟨⟨(), rfl, trivial, by rw [ht]; exact hP, hD⟩, hS.F ht⟩) hS.2.2 dX0_record_36
        · have hf := vm_neg hc_15 hf
          by_cases hc_22 : known = 3
          · have hf := vm_pos hc_22 hf
            refine vm_aald hx hb hK hP 1 2 rfl rfl (by rw [hc_22]; decide +kernel) (v := had 12) (by rw [hc_22]; rfl) dX0_record_21 ?_
            refine lv_aload_n hx hb dX0_record_22 rfl (lv_at hl 1 rfl) ?_
            obtain ⟨pW_23, pH_24, pN_25, pF_26, pG_27, hq_28, hf⟩ := ob5_some hf
            refine vm_cNv (isC := [14, 15, 16, 17, 26, 27, 28, 29]) (wc := (wd_X2_takeFrom Γ (had 12) (had 13) (had 14) (had 15) q2 q3 q4 q5 (pW 3) (pH 3) (pN 3) (pF 3) (pG 3) p1_columns p1_rows p1_numbers p1_figure p1_grains)) (w1 := (wd_X2_takeFrom Γ (had 12) (had 13) (had 14) (had 15) q2 q3 q4 q5 pW_23 pH_24 pN_25 pF_26 pG_27 p1_columns p1_rows p1_numbers p1_figure p1_grains)) (As := [.ref q2]) (rest := []) ⟨hx, hb, hml, hown, hts⟩ hE hP hD hS hA rfl rfl rfl (c_X2_takeFrom l Γ _ (had 12) (had 13) (had 14) (had 15) q2 q3 q4 q5 (pW 3) (pH 3) (pN 3) (pF 3) (pG 3) p1_columns p1_rows p1_numbers p1_figure p1_grains pW_23 pH_24 pN_25 pF_26 pG_27 hq_28) ⟨va_cnB 1 hts ggX0_record_X2_takeFrom rfl rfl rfl (nmX0_25 hE.2.1) (hts (.initialized RX2) (List.mem_of_getElem? (i := 9) rfl)) (by decide +kernel) ⟨Nat.le_of_ble_eq_true rfl, Nat.le_of_ble_eq_true rfl⟩, (hts (.instanceMethod yX2_takeFrom) (List.mem_of_getElem? (i := 8) rfl)), (hts (.selects RX2 yX2_takeFrom yX2_takeFrom) (List.mem_of_getElem? (i := 10) rfl))⟩ (va_recv (ci := 2) (q0 := 14) hK hP rfl rfl) rfl hl.1 rfl (Nat.le_of_ble_eq_true rfl) dX0_record_23 ⟨Nat.zero_le _, Nat.zero_le _⟩ (fun H locs hP hD hS => ?_)
            have hP : va_P Γ.1 vwCl (wd_X0_record Γ q0 q1 q2 q3 q4 q5 known had (va_up pW 3 pW_23) (va_up pH 3 pH_24) (va_up pN 3 pN_25) (va_up pF 3 pF_26) (va_up pG 3 pG_27) p1_columns p1_rows p1_numbers p1_figure p1_grains) H := hP
            have hD : va_D A (wd_X0_record Γ q0 q1 q2 q3 q4 q5 known had (va_up pW 3 pW_23) (va_up pH 3 pH_24) (va_up pN 3 pN_25) (va_up pF 3 pF_26) (va_up pG 3 pG_27) p1_columns p1_rows p1_numbers p1_figure p1_grains) := hD
            refine lv_aload_n hx hb dX0_record_26 rfl (lv_at hl 0 rfl) ?_
            refine lv_dup hx hb dX0_record_27 rfl ?_
            refine va_get (D := Γ.1) (ci := 0) (v := .int known) (C := RX0) (T := TX0) (N := 2) hx hb hts hi0 hown hK hP 0 rfl rfl 1 (by decide) (hts (.fieldLink RX0 18 "SandPlates$History" "known" "I") (List.mem_of_getElem? (i := 1) rfl)) (fun _ h9 => h9) rfl dX0_record_28 ?_
            refine lv_iconst (v := 1) hx hb dX0_record_31 (by decide) ?_
            refine lv_iadd hx hb dX0_record_32 ?_
            refine va_put (D := Γ.1) (ci := 0) (v := .int (known + 1)) (ty := .int) (C := RX0) (T := TX0) (N := 2) hx hb hts hi0 tyX0 tyX0_ok nmX0 hown hK hP hD hS 0 rfl rfl 1 (by decide) (hts (.fieldLink RX0 18 "SandPlates$History" "known" "I") (List.mem_of_getElem? (i := 1) rfl)) (fun _ h9 => h9) rfl (by decide +kernel) rfl rfl (Nat.le_of_ble_eq_true rfl) dX0_record_33 (fun H locs hP hD hS => ?_)
            have hP : va_P Γ.1 vwCl (wd_X0_record Γ q0 q1 q2 q3 q4 q5 (known + 1) had (va_up pW 3 pW_23) (va_up pH 3 pH_24) (va_up pN 3 pN_25) (va_up pF 3 pF_26) (va_up pG 3 pG_27) p1_columns p1_rows p1_numbers p1_figure p1_grains) H := hP
            have hD : va_D A (wd_X0_record Γ q0 q1 q2 q3 q4 q5 (known + 1) had (va_up pW 3 pW_23) (va_up pH 3 pH_24) (va_up pN 3 pN_25) (va_up pF 3 pF_26) (va_up pG 3 pG_27) p1_columns p1_rows p1_numbers p1_figure p1_grains) := hD
            subst hout; obtain ⟨rfl, rfl, rfl, rfl, rfl, rfl, rfl⟩ := rt7 hf
            subst hQQ
            exact W.vret hx hb hr (fun t ht hW => ⟨⟨(), rfl, trivial, by rw [ht]; exact hP, hD⟩, hS.F ht⟩) hS.2.2 dX0_record_36
          · have hf := vm_neg hc_22 hf
            by_cases hc_29 : known = 4
            · have hf := vm_pos hc_29 hf
              refine vm_aald hx hb hK hP 1 2 rfl rfl (by rw [hc_29]; decide +kernel) (v := had 16) (by rw [hc_29]; rfl) dX0_record_21 ?_
              refine lv_aload_n hx hb dX0_record_22 rfl (lv_at hl 1 rfl) ?_
              obtain ⟨pW_30, pH_31, pN_32, pF_33, pG_34, hq_35, hf⟩ := ob5_some hf
              refine vm_cNv (isC := [18, 19, 20, 21, 26, 27, 28, 29]) (wc := (wd_X2_takeFrom Γ (had 16) (had 17) (had 18) (had 19) q2 q3 q4 q5 (pW 4) (pH 4) (pN 4) (pF 4) (pG 4) p1_columns p1_rows p1_numbers p1_figure p1_grains)) (w1 := (wd_X2_takeFrom Γ (had 16) (had 17) (had 18) (had 19) q2 q3 q4 q5 pW_30 pH_31 pN_32 pF_33 pG_34 p1_columns p1_rows p1_numbers p1_figure p1_grains)) (As := [.ref q2]) (rest := []) ⟨hx, hb, hml, hown, hts⟩ hE hP hD hS hA rfl rfl rfl (c_X2_takeFrom l Γ _ (had 16) (had 17) (had 18) (had 19) q2 q3 q4 q5 (pW 4) (pH 4) (pN 4) (pF 4) (pG 4) p1_columns p1_rows p1_numbers p1_figure p1_grains pW_30 pH_31 pN_32 pF_33 pG_34 hq_35) ⟨va_cnB 1 hts ggX0_record_X2_takeFrom rfl rfl rfl (nmX0_25 hE.2.1) (hts (.initialized RX2) (List.mem_of_getElem? (i := 9) rfl)) (by decide +kernel) ⟨Nat.le_of_ble_eq_true rfl, Nat.le_of_ble_eq_true rfl⟩, (hts (.instanceMethod yX2_takeFrom) (List.mem_of_getElem? (i := 8) rfl)), (hts (.selects RX2 yX2_takeFrom yX2_takeFrom) (List.mem_of_getElem? (i := 10) rfl))⟩ (va_recv (ci := 2) (q0 := 18) hK hP rfl rfl) rfl hl.1 rfl (Nat.le_of_ble_eq_true rfl) dX0_record_23 ⟨Nat.zero_le _, Nat.zero_le _⟩ (fun H locs hP hD hS => ?_)
              have hP : va_P Γ.1 vwCl (wd_X0_record Γ q0 q1 q2 q3 q4 q5 known had (va_up pW 4 pW_30) (va_up pH 4 pH_31) (va_up pN 4 pN_32) (va_up pF 4 pF_33) (va_up pG 4 pG_34) p1_columns p1_rows p1_numbers p1_figure p1_grains) H := hP
              have hD : va_D A (wd_X0_record Γ q0 q1 q2 q3 q4 q5 known had (va_up pW 4 pW_30) (va_up pH 4 pH_31) (va_up pN 4 pN_32) (va_up pF 4 pF_33) (va_up pG 4 pG_34) p1_columns p1_rows p1_numbers p1_figure p1_grains) := hD
              refine lv_aload_n hx hb dX0_record_26 rfl (lv_at hl 0 rfl) ?_
              refine lv_dup hx hb dX0_record_27 rfl ?_
              refine va_get (D := Γ.1) (ci := 0) (v := .int known) (C := RX0) (T := TX0) (N := 2) hx hb hts hi0 hown hK hP 0 rfl rfl 1 (by decide) (hts (.fieldLink RX0 18 "SandPlates$History" "known" "I") (List.mem_of_getElem? (i := 1) rfl)) (fun _ h9 => h9) rfl dX0_record_28 ?_
              refine lv_iconst (v := 1) hx hb dX0_record_31 (by decide) ?_
              refine lv_iadd hx hb dX0_record_32 ?_
              refine va_put (D := Γ.1) (ci := 0) (v := .int (known + 1)) (ty := .int) (C := RX0) (T := TX0) (N := 2) hx hb hts hi0 tyX0 tyX0_ok nmX0 hown hK hP hD hS 0 rfl rfl 1 (by decide) (hts (.fieldLink RX0 18 "SandPlates$History" "known" "I") (List.mem_of_getElem? (i := 1) rfl)) (fun _ h9 => h9) rfl (by decide +kernel) rfl rfl (Nat.le_of_ble_eq_true rfl) dX0_record_33 (fun H locs hP hD hS => ?_)
              have hP : va_P Γ.1 vwCl (wd_X0_record Γ q0 q1 q2 q3 q4 q5 (known + 1) had (va_up pW 4 pW_30) (va_up pH 4 pH_31) (va_up pN 4 pN_32) (va_up pF 4 pF_33) (va_up pG 4 pG_34) p1_columns p1_rows p1_numbers p1_figure p1_grains) H := hP
              have hD : va_D A (wd_X0_record Γ q0 q1 q2 q3 q4 q5 (known + 1) had (va_up pW 4 pW_30) (va_up pH 4 pH_31) (va_up pN 4 pN_32) (va_up pF 4 pF_33) (va_up pG 4 pG_34) p1_columns p1_rows p1_numbers p1_figure p1_grains) := hD
              subst hout; obtain ⟨rfl, rfl, rfl, rfl, rfl, rfl, rfl⟩ := rt7 hf
              subst hQQ
              exact W.vret hx hb hr (fun t ht hW => ⟨⟨(), rfl, trivial, by rw [ht]; exact hP, hD⟩, hS.F ht⟩) hS.2.2 dX0_record_36
            · have hf := vm_neg hc_29 hf
              by_cases hc_36 : known = 5
              · have hf := vm_pos hc_36 hf
                refine vm_aald hx hb hK hP 1 2 rfl rfl (by rw [hc_36]; decide +kernel) (v := had 20) (by rw [hc_36]; rfl) dX0_record_21 ?_
                refine lv_aload_n hx hb dX0_record_22 rfl (lv_at hl 1 rfl) ?_
                obtain ⟨pW_37, pH_38, pN_39, pF_40, pG_41, hq_42, hf⟩ := ob5_some hf
                refine vm_cNv (isC := [22, 23, 24, 25, 26, 27, 28, 29]) (wc := (wd_X2_takeFrom Γ (had 20) (had 21) (had 22) (had 23) q2 q3 q4 q5 (pW 5) (pH 5) (pN 5) (pF 5) (pG 5) p1_columns p1_rows p1_numbers p1_figure p1_grains)) (w1 := (wd_X2_takeFrom Γ (had 20) (had 21) (had 22) (had 23) q2 q3 q4 q5 pW_37 pH_38 pN_39 pF_40 pG_41 p1_columns p1_rows p1_numbers p1_figure p1_grains)) (As := [.ref q2]) (rest := []) ⟨hx, hb, hml, hown, hts⟩ hE hP hD hS hA rfl rfl rfl (c_X2_takeFrom l Γ _ (had 20) (had 21) (had 22) (had 23) q2 q3 q4 q5 (pW 5) (pH 5) (pN 5) (pF 5) (pG 5) p1_columns p1_rows p1_numbers p1_figure p1_grains pW_37 pH_38 pN_39 pF_40 pG_41 hq_42) ⟨va_cnB 1 hts ggX0_record_X2_takeFrom rfl rfl rfl (nmX0_25 hE.2.1) (hts (.initialized RX2) (List.mem_of_getElem? (i := 9) rfl)) (by decide +kernel) ⟨Nat.le_of_ble_eq_true rfl, Nat.le_of_ble_eq_true rfl⟩, (hts (.instanceMethod yX2_takeFrom) (List.mem_of_getElem? (i := 8) rfl)), (hts (.selects RX2 yX2_takeFrom yX2_takeFrom) (List.mem_of_getElem? (i := 10) rfl))⟩ (va_recv (ci := 2) (q0 := 22) hK hP rfl rfl) rfl hl.1 rfl (Nat.le_of_ble_eq_true rfl) dX0_record_23 ⟨Nat.zero_le _, Nat.zero_le _⟩ (fun H locs hP hD hS => ?_)
                have hP : va_P Γ.1 vwCl (wd_X0_record Γ q0 q1 q2 q3 q4 q5 known had (va_up pW 5 pW_37) (va_up pH 5 pH_38) (va_up pN 5 pN_39) (va_up pF 5 pF_40) (va_up pG 5 pG_41) p1_columns p1_rows p1_numbers p1_figure p1_grains) H := hP
                have hD : va_D A (wd_X0_record Γ q0 q1 q2 q3 q4 q5 known had (va_up pW 5 pW_37) (va_up pH 5 pH_38) (va_up pN 5 pN_39) (va_up pF 5 pF_40) (va_up pG 5 pG_41) p1_columns p1_rows p1_numbers p1_figure p1_grains) := hD
                refine lv_aload_n hx hb dX0_record_26 rfl (lv_at hl 0 rfl) ?_
                refine lv_dup hx hb dX0_record_27 rfl ?_
                refine va_get (D := Γ.1) (ci := 0) (v := .int known) (C := RX0) (T := TX0) (N := 2) hx hb hts hi0 hown hK hP 0 rfl rfl 1 (by decide) (hts (.fieldLink RX0 18 "SandPlates$History" "known" "I") (List.mem_of_getElem? (i := 1) rfl)) (fun _ h9 => h9) rfl dX0_record_28 ?_
                refine lv_iconst (v := 1) hx hb dX0_record_31 (by decide) ?_
                refine lv_iadd hx hb dX0_record_32 ?_
                refine va_put (D := Γ.1) (ci := 0) (v := .int (known + 1)) (ty := .int) (C := RX0) (T := TX0) (N := 2) hx hb hts hi0 tyX0 tyX0_ok nmX0 hown hK hP hD hS 0 rfl rfl 1 (by decide) (hts (.fieldLink RX0 18 "SandPlates$History" "known" "I") (List.mem_of_getElem? (i := 1) rfl)) (fun _ h9 => h9) rfl (by decide +kernel) rfl rfl (Nat.le_of_ble_eq_true rfl) dX0_record_33 (fun H locs hP hD hS => ?_)
                have hP : va_P Γ.1 vwCl (wd_X0_record Γ q0 q1 q2 q3 q4 q5 (known + 1) had (va_up pW 5 pW_37) (va_up pH 5 pH_38) (va_up pN 5 pN_39) (va_up pF 5 pF_40) (va_up pG 5 pG_41) p1_columns p1_rows p1_numbers p1_figure p1_grains) H := hP
                have hD : va_D A (wd_X0_record Γ q0 q1 q2 q3 q4 q5 (known + 1) had (va_up pW 5 pW_37) (va_up pH 5 pH_38) (va_up pN 5 pN_39) (va_up pF 5 pF_40) (va_up pG 5 pG_41) p1_columns p1_rows p1_numbers p1_figure p1_grains) := hD
                subst hout; obtain ⟨rfl, rfl, rfl, rfl, rfl, rfl, rfl⟩ := rt7 hf
                subst hQQ
                exact W.vret hx hb hr (fun t ht hW => ⟨⟨(), rfl, trivial, by rw [ht]; exact hP, hD⟩, hS.F ht⟩) hS.2.2 dX0_record_36
              · have hf := vm_neg hc_36 hf
                exact nomatch hf
  unfold f_X0_record at hf
  refine lv_aload_n hx hb dX0_record_0 rfl (lv_at hl 0 rfl) ?_
  refine va_get (D := Γ.1) (ci := 0) (v := .int known) (C := RX0) (T := TX0) (N := 2) hx hb hts hi0 hown hK hP 0 rfl rfl 1 (by decide) (hts (.fieldLink RX0 18 "SandPlates$History" "known" "I") (List.mem_of_getElem? (i := 1) rfl)) (fun _ h9 => h9) rfl dX0_record_1 ?_
  refine lv_bipush (v := 6) hx hb dX0_record_4 (by decide) ?_
  refine lv_icmp_lt (tgt := 13) hx hb dX0_record_6 (by decide) (fun hc_43 => ?_) (fun hc_43 => ?_)
  · have hf := vm_pos hc_43 hf
    exact K_13 known had pW pH pN pF pG hP hD hS (lv_sub hl [0, 1] rfl) hf
  · have hf := vm_neg hc_43 hf
    refine lv_aload_n hx hb dX0_record_9 rfl (lv_at hl 0 rfl) ?_
    obtain ⟨known_44, had_45, pW_46, pH_47, pN_48, pF_49, pG_50, hq_51, hf⟩ := ob7_some hf
    refine vm_dVv (isC := [0, 1, 2, 3, 4, 5, 6, 7, 8, 9, 10, 11, 12, 13, 14, 15, 16, 17, 18, 19, 20, 21, 22, 23, 24, 25]) (wc := (wd_X0_loseOldest Γ q0 q1 known had pW pH pN pF pG)) (w1 := (wd_X0_loseOldest Γ q0 q1 known_44 had_45 pW_46 pH_47 pN_48 pF_49 pG_50)) (W' := (wd_X0_record Γ q0 q1 q2 q3 q4 q5 known_44 had_45 pW_46 pH_47 pN_48 pF_49 pG_50 p1_columns p1_rows p1_numbers p1_figure p1_grains)) (N := 30) (As := []) (rest := []) ⟨hx, hb, hml, hown, hts⟩ hE hP hD hS hA rfl rfl rfl (c_X0_loseOldest l Γ _ q0 q1 known had pW pH pN pF pG known_44 had_45 pW_46 pH_47 pN_48 pF_49 pG_50 hq_51) (cwV 0 hts gX0_record_X0_loseOldest rfl rfl rfl (by decide +kernel) ⟨Nat.le_of_ble_eq_true rfl, Nat.le_of_ble_eq_true rfl⟩) (va_recv (ci := 0) (q0 := 0) hK hP rfl rfl) rfl hl.1 rfl (Nat.le_of_ble_eq_true rfl) dX0_record_10 ⟨Nat.zero_le _, Nat.zero_le _⟩ (fun H locs hP hD hS => ?_)
    have hP : va_P Γ.1 vwCl (wd_X0_record Γ q0 q1 q2 q3 q4 q5 known_44 had_45 pW_46 pH_47 pN_48 pF_49 pG_50 p1_columns p1_rows p1_numbers p1_figure p1_grains) H := hP
    have hD : va_D A (wd_X0_record Γ q0 q1 q2 q3 q4 q5 known_44 had_45 pW_46 pH_47 pN_48 pF_49 pG_50 p1_columns p1_rows p1_numbers p1_figure p1_grains) := hD
    exact K_13 known_44 had_45 pW_46 pH_47 pN_48 pF_49 pG_50 hP hD hS (lv_sub hl [0, 1] rfl) hf
def wd_X0_takeBack (Γ : GE) (q0 q1 q2 q3 q4 q5 : Nat) (known : Int32) (had : Nat → Nat) (pW : Nat → Int32) (pH : Nat → Int32) (pN : Nat → Nat → Int32) (pF : Nat → Nat → Int32) (pG : Nat → Nat → Int32) (p1_columns : Int32) (p1_rows : Int32) (p1_numbers : Nat → Int32) (p1_figure : Nat → Int32) (p1_grains : Nat → Int32) : va_W := [(q0, .inr (0, [.ref q1, .int known]))] ++ (segH Γ q1 had pW pH pN pF pG ++ ([(q2, .inr (2, [.int p1_columns, .int p1_rows, .ref q3, .ref q4, .ref q5])), (q3, .inl (Γ.2.1 0, 7, .inl p1_numbers)), (q4, .inl (Γ.2.1 0, 36, .inl p1_figure)), (q5, .inl (Γ.2.1 0, 36, .inl p1_grains))]))
def f_X0_takeBack (known : Int32) (had : Nat → Nat) (pW : Nat → Int32) (pH : Nat → Int32) (pN : Nat → Nat → Int32) (pF : Nat → Nat → Int32) (pG : Nat → Nat → Int32) (p1_columns : Int32) (p1_rows : Int32) (p1_numbers : Nat → Int32) (p1_figure : Nat → Int32) (p1_grains : Nat → Int32) : Option (Int32 × Int32 × Int32 × Int32 × (Nat → Int32) × (Nat → Int32) × (Nat → Int32)) := if 0 < known then (if (known - 1) = 0 then (ob5 (f_X2_takeFrom p1_numbers p1_figure p1_grains (pW 0) (pH 0) (pN 0) (pF 0) (pG 0)) (fun p1_columns_3 p1_rows_4 p1_numbers_5 p1_figure_6 p1_grains_7 => some (1, (known - 1), p1_columns_3, p1_rows_4, p1_numbers_5, p1_figure_6, p1_grains_7))) else if (known - 1) = 1 then (ob5 (f_X2_takeFrom p1_numbers p1_figure p1_grains (pW 1) (pH 1) (pN 1) (pF 1) (pG 1)) (fun p1_columns_10 p1_rows_11 p1_numbers_12 p1_figure_13 p1_grains_14 => some (1, (known - 1), p1_columns_10, p1_rows_11, p1_numbers_12, p1_figure_13, p1_grains_14))) else if (known - 1) = 2 then (ob5 (f_X2_takeFrom p1_numbers p1_figure p1_grains (pW 2) (pH 2) (pN 2) (pF 2) (pG 2)) (fun p1_columns_17 p1_rows_18 p1_numbers_19 p1_figure_20 p1_grains_21 => some (1, (known - 1), p1_columns_17, p1_rows_18, p1_numbers_19, p1_figure_20, p1_grains_21))) else if (known - 1) = 3 then (ob5 (f_X2_takeFrom p1_numbers p1_figure p1_grains (pW 3) (pH 3) (pN 3) (pF 3) (pG 3)) (fun p1_columns_24 p1_rows_25 p1_numbers_26 p1_figure_27 p1_grains_28 => some (1, (known - 1), p1_columns_24, p1_rows_25, p1_numbers_26, p1_figure_27, p1_grains_28))) else if (known - 1) = 4 then (ob5 (f_X2_takeFrom p1_numbers p1_figure p1_grains (pW 4) (pH 4) (pN 4) (pF 4) (pG 4)) (fun p1_columns_31 p1_rows_32 p1_numbers_33 p1_figure_34 p1_grains_35 => some (1, (known - 1), p1_columns_31, p1_rows_32, p1_numbers_33, p1_figure_34, p1_grains_35))) else if (known - 1) = 5 then (ob5 (f_X2_takeFrom p1_numbers p1_figure p1_grains (pW 5) (pH 5) (pN 5) (pF 5) (pG 5)) (fun p1_columns_38 p1_rows_39 p1_numbers_40 p1_figure_41 p1_grains_42 => some (1, (known - 1), p1_columns_38, p1_rows_39, p1_numbers_40, p1_figure_41, p1_grains_42))) else none) else (some (0, known, p1_columns, p1_rows, p1_numbers, p1_figure, p1_grains))
set_option maxHeartbeats 4000000 in
set_option maxRecDepth 100000 in
theorem c_X0_takeBack (l : Launch) (Γ : GE) (sz : Nat) (q0 q1 q2 q3 q4 q5 : Nat) (known : Int32) (had : Nat → Nat) (pW : Nat → Int32) (pH : Nat → Int32) (pN : Nat → Nat → Int32) (pF : Nat → Nat → Int32) (pG : Nat → Nat → Int32) (p1_columns : Int32) (p1_rows : Int32) (p1_numbers : Nat → Int32) (p1_figure : Nat → Int32) (p1_grains : Nat → Int32) (ro : Int32) (o_known : Int32) (o_p1_columns : Int32) (o_p1_rows : Int32) (o_p1_numbers : Nat → Int32) (o_p1_figure : Nat → Int32) (o_p1_grains : Nat → Int32) (hf : f_X0_takeBack known had pW pH pN pF pG p1_columns p1_rows p1_numbers p1_figure p1_grains = some (ro, o_known, o_p1_columns, o_p1_rows, o_p1_numbers, o_p1_figure, o_p1_grains)) : MetI l yX0_takeBack wsX0_takeBack ({ frames := 2, cells := 0, slots := 0, locals := 69 } : Room) Γ [.ref q0, .ref q2] (wd_X0_takeBack Γ q0 q1 q2 q3 q4 q5 known had pW pH pN pF pG p1_columns p1_rows p1_numbers p1_figure p1_grains) (wd_X0_takeBack Γ q0 q1 q2 q3 q4 q5 o_known had pW pH pN pF pG o_p1_columns o_p1_rows o_p1_numbers o_p1_figure o_p1_grains) sz ro := by
  refine Met.ofW (cc := cX0_takeBack) (maxL := 2) (ret := (some .boolean)) (by decide) rfl ?_
  intro p e s m args below meth c s₁ B hml hv
  obtain ⟨rfl, hsz, hE, hP, hD⟩ := hv
  have hx := B.exec
  have hb := B.bytes
  have hr := B.returns
  have hts := atoms_spec (ws := wsX0_takeBack) B.pre
  have hown : s.vm.findClass RX0 = some m.cls := findClass_of_methodNamed B.named
  have hlocks := B.notSynchronized
  subst hsz
  generalize hAe : va_A (wd_X0_takeBack Γ q0 q1 q2 q3 q4 q5 known had pW pH pN pF pG p1_columns p1_rows p1_numbers p1_figure p1_grains) s.heap.size = A at hE hD ⊢
  have hA : ∀ q : Nat, s.heap.size ≤ q → A q := fun q h => by rw [← hAe]; exact Or.inr h
  clear hAe
  have hS : va_S A s.heap s.heap [] := va_S.rf
  have hK := hE.1
  have hl := lv_entry ([.ref q0, .ref q2]) (n := 2) (Nat.le_of_ble_eq_true rfl)
  rw [lg_entry_eq]
  generalize (lg_sl ([.ref q0, .ref q2]) ++ List.replicate (2 - (lg_sl ([.ref q0, .ref q2])).length) Slot.unset).toArray = ls at hl ⊢
  have hl : lv_has ls 2 [(0, .ref q0), (1, .ref q2)] := hl
  have hi0 : ∀ w ∈ u_ws RX0 TX0 2, w ∈ wsX0_takeBack := fun w h => (List.mem_cons_of_mem _ (List.mem_append_left _ (List.mem_append_right _ h)))
  have hi2 : ∀ w ∈ u_ws RX2 TX2 5, w ∈ wsX0_takeBack := fun w h => (List.mem_cons_of_mem _ (List.mem_append_right _ h))
  obtain ⟨out, hout⟩ : ∃ o, o = (ro, o_known, o_p1_columns, o_p1_rows, o_p1_numbers, o_p1_figure, o_p1_grains) := ⟨_, rfl⟩
  rw [← hout] at hf
  obtain ⟨QQ, hQQ⟩ : ∃ Q, Q = MQ below (va_Qi (fun (r' : Int32) (_ : Unit) => r' = ro) (CQ Γ (wd_X0_takeBack Γ q0 q1 q2 q3 q4 q5 o_known had pW pH pN pF pG o_p1_columns o_p1_rows o_p1_numbers o_p1_figure o_p1_grains) A) A) (([.ref q0, .ref q2] : List Value).toArray) s 0 0 A := ⟨_, rfl⟩
  show W p l e ({ frames := 2, cells := 0, slots := 0, locals := 69 } : Room) s m (([.ref q0, .ref q2] : List Value).toArray) below meth c s.heap [] 0 0 (MQ below _ (([.ref q0, .ref q2] : List Value).toArray) s 0 0 A) (F0 m 0 ls [])
  rw [← hQQ]
  unfold f_X0_takeBack at hf
  refine lv_aload_n hx hb dX0_takeBack_0 rfl (lv_at hl 0 rfl) ?_
  refine va_get (D := Γ.1) (ci := 0) (v := .int known) (C := RX0) (T := TX0) (N := 2) hx hb hts hi0 hown hK hP 0 rfl rfl 1 (by decide) (hts (.fieldLink RX0 18 "SandPlates$History" "known" "I") (List.mem_of_getElem? (i := 1) rfl)) (fun _ h9 => h9) rfl dX0_takeBack_1 ?_
  refine lv_if_gt (tgt := 9) hx hb dX0_takeBack_4 (by decide) (fun hc_1 => ?_) (fun hc_1 => ?_)
  · have hf := vm_pos hc_1 hf
    refine lv_aload_n hx hb dX0_takeBack_9 rfl (lv_at hl 0 rfl) ?_
    refine lv_dup hx hb dX0_takeBack_10 rfl ?_
    refine va_get (D := Γ.1) (ci := 0) (v := .int known) (C := RX0) (T := TX0) (N := 2) hx hb hts hi0 hown hK hP 0 rfl rfl 1 (by decide) (hts (.fieldLink RX0 18 "SandPlates$History" "known" "I") (List.mem_of_getElem? (i := 1) rfl)) (fun _ h9 => h9) rfl dX0_takeBack_11 ?_
    refine lv_iconst (v := 1) hx hb dX0_takeBack_14 (by decide) ?_
    refine lv_isub hx hb dX0_takeBack_15 ?_
    refine va_put (D := Γ.1) (ci := 0) (v := .int (known - 1)) (ty := .int) (C := RX0) (T := TX0) (N := 2) hx hb hts hi0 tyX0 tyX0_ok nmX0 hown hK hP hD hS 0 rfl rfl 1 (by decide) (hts (.fieldLink RX0 18 "SandPlates$History" "known" "I") (List.mem_of_getElem? (i := 1) rfl)) (fun _ h9 => h9) rfl (by decide +kernel) rfl rfl (Nat.le_of_ble_eq_true rfl) dX0_takeBack_16 (fun H locs hP hD hS => ?_)
    have hP : va_P Γ.1 vwCl (wd_X0_takeBack Γ q0 q1 q2 q3 q4 q5 (known - 1) had pW pH pN pF pG p1_columns p1_rows p1_numbers p1_figure p1_grains) H := hP
    have hD : va_D A (wd_X0_takeBack Γ q0 q1 q2 q3 q4 q5 (known - 1) had pW pH pN pF pG p1_columns p1_rows p1_numbers p1_figure p1_grains) := hD
    refine lv_aload_n hx hb dX0_takeBack_19 rfl (lv_at hl 1 rfl) ?_
    refine lv_aload_n hx hb dX0_takeBack_20 rfl (lv_at hl 0 rfl) ?_
    refine va_get (D := Γ.1) (ci := 0) (v := .ref q1) (C := RX0) (T := TX0) (N := 2) hx hb hts hi0 hown hK hP 0 rfl rfl 0 (by decide) (hts (.fieldLink RX0 11 "SandPlates$History" "plates" "[LSandPlates$Plate;") (List.mem_of_getElem? (i := 2) rfl)) (fun _ h9 => h9) rfl dX0_takeBack_21 ?_
    refine lv_aload_n hx hb dX0_takeBack_24 rfl (lv_at hl 0 rfl) ?_
    refine va_get (D := Γ.1) (ci := 0) (v := .int (known - 1)) (C := RX0) (T := TX0) (N := 2) hx hb hts hi0 hown hK hP 0 rfl rfl 1 (by decide) (hts (.fieldLink RX0 18 "SandPlates$History" "known" "I") (List.mem_of_getElem? (i := 1) rfl)) (fun _ h9 => h9) rfl dX0_takeBack_25 ?_
    by_cases hc_2 : (known - 1) = 0
    · have hf := vm_pos hc_2 hf
      refine vm_aald hx hb hK hP 1 2 rfl rfl (by rw [hc_2]; decide +kernel) (v := had 0) (by rw [hc_2]; rfl) dX0_takeBack_28 ?_
      obtain ⟨p1_columns_3, p1_rows_4, p1_numbers_5, p1_figure_6, p1_grains_7, hq_8, hf⟩ := ob5_some hf
      refine vm_cNv (isC := [26, 27, 28, 29, 2, 3, 4, 5]) (wc := (wd_X2_takeFrom Γ q2 q3 q4 q5 (had 0) (had 1) (had 2) (had 3) p1_columns p1_rows p1_numbers p1_figure p1_grains (pW 0) (pH 0) (pN 0) (pF 0) (pG 0))) (w1 := (wd_X2_takeFrom Γ q2 q3 q4 q5 (had 0) (had 1) (had 2) (had 3) p1_columns_3 p1_rows_4 p1_numbers_5 p1_figure_6 p1_grains_7 (pW 0) (pH 0) (pN 0) (pF 0) (pG 0))) (As := [.ref (had 0)]) (rest := []) ⟨hx, hb, hml, hown, hts⟩ hE hP hD hS hA rfl rfl rfl (c_X2_takeFrom l Γ _ q2 q3 q4 q5 (had 0) (had 1) (had 2) (had 3) p1_columns p1_rows p1_numbers p1_figure p1_grains (pW 0) (pH 0) (pN 0) (pF 0) (pG 0) p1_columns_3 p1_rows_4 p1_numbers_5 p1_figure_6 p1_grains_7 hq_8) ⟨va_cnB 1 hts ggX0_takeBack_X2_takeFrom rfl rfl rfl (nmX0_25 hE.2.1) (hts (.initialized RX2) (List.mem_of_getElem? (i := 4) rfl)) (by decide +kernel) ⟨Nat.le_of_ble_eq_true rfl, Nat.le_of_ble_eq_true rfl⟩, (hts (.instanceMethod yX2_takeFrom) (List.mem_of_getElem? (i := 3) rfl)), (hts (.selects RX2 yX2_takeFrom yX2_takeFrom) (List.mem_of_getElem? (i := 5) rfl))⟩ (va_recv (ci := 2) (q0 := 26) hK hP rfl rfl) rfl hl.1 rfl (Nat.le_of_ble_eq_true rfl) dX0_takeBack_29 ⟨Nat.zero_le _, Nat.zero_le _⟩ (fun H locs hP hD hS => ?_)
      have hP : va_P Γ.1 vwCl (wd_X0_takeBack Γ q0 q1 q2 q3 q4 q5 (known - 1) had pW pH pN pF pG p1_columns_3 p1_rows_4 p1_numbers_5 p1_figure_6 p1_grains_7) H := hP
      have hD : va_D A (wd_X0_takeBack Γ q0 q1 q2 q3 q4 q5 (known - 1) had pW pH pN pF pG p1_columns_3 p1_rows_4 p1_numbers_5 p1_figure_6 p1_grains_7) := hD
      refine lv_iconst (v := 1) hx hb dX0_takeBack_32 (by decide) ?_
      subst hout; obtain ⟨rfl, rfl, rfl, rfl, rfl, rfl, rfl⟩ := rt7 hf
      subst hQQ
      exact W.zret hx hb hr rfl (fun t ht hW => ⟨⟨_, (), rfl, rfl, by rw [ht]; exact hP, hD⟩, hS.F ht⟩) hS.2.2 dX0_takeBack_33
    · have hf := vm_neg hc_2 hf
      by_cases hc_9 : (known - 1) = 1
      · have hf := vm_pos hc_9 hf
        refine vm_aald hx hb hK hP 1 2 rfl rfl (by rw [hc_9]; decide +kernel) (v := had 4) (by rw [hc_9]; rfl) dX0_takeBack_28 ?_
        obtain ⟨p1_columns_10, p1_rows_11, p1_numbers_12, p1_figure_13, p1_grains_14, hq_15, hf⟩ := ob5_some hf
        refine vm_cNv (isC := [26, 27, 28, 29, 6, 7, 8, 9]) (wc := (wd_X2_takeFrom Γ q2 q3 q4 q5 (had 4) (had 5) (had 6) (had 7) p1_columns p1_rows p1_numbers p1_figure p1_grains (pW 1) (pH 1) (pN 1) (pF 1) (pG 1))) (w1 := (wd_X2_takeFrom Γ q2 q3 q4 q5 (had 4) (had 5) (had 6) (had 7) p1_columns_10 p1_rows_11 p1_numbers_12 p1_figure_13 p1_grains_14 (pW 1) (pH 1) (pN 1) (pF 1) (pG 1))) (As := [.ref (had 4)]) (rest := []) ⟨hx, hb, hml, hown, hts⟩ hE hP hD hS hA rfl rfl rfl (c_X2_takeFrom l Γ _ q2 q3 q4 q5 (had 4) (had 5) (had 6) (had 7) p1_columns p1_rows p1_numbers p1_figure p1_grains (pW 1) (pH 1) (pN 1) (pF 1) (pG 1) p1_columns_10 p1_rows_11 p1_numbers_12 p1_figure_13 p1_grains_14 hq_15) ⟨va_cnB 1 hts ggX0_takeBack_X2_takeFrom rfl rfl rfl (nmX0_25 hE.2.1) (hts (.initialized RX2) (List.mem_of_getElem? (i := 4) rfl)) (by decide +kernel) ⟨Nat.le_of_ble_eq_true rfl, Nat.le_of_ble_eq_true rfl⟩, (hts (.instanceMethod yX2_takeFrom) (List.mem_of_getElem? (i := 3) rfl)), (hts (.selects RX2 yX2_takeFrom yX2_takeFrom) (List.mem_of_getElem? (i := 5) rfl))⟩ (va_recv (ci := 2) (q0 := 26) hK hP rfl rfl) rfl hl.1 rfl (Nat.le_of_ble_eq_true rfl) dX0_takeBack_29 ⟨Nat.zero_le _, Nat.zero_le _⟩ (fun H locs hP hD hS => ?_)
        have hP : va_P Γ.1 vwCl (wd_X0_takeBack Γ q0 q1 q2 q3 q4 q5 (known - 1) had pW pH pN pF pG p1_columns_10 p1_rows_11 p1_numbers_12 p1_figure_13 p1_grains_14) H := hP
        have hD : va_D A (wd_X0_takeBack Γ q0 q1 q2 q3 q4 q5 (known - 1) had pW pH pN pF pG p1_columns_10 p1_rows_11 p1_numbers_12 p1_figure_13 p1_grains_14) := hD
        refine lv_iconst (v := 1) hx hb dX0_takeBack_32 (by decide) ?_
        subst hout; obtain ⟨rfl, rfl, rfl, rfl, rfl, rfl, rfl⟩ := rt7 hf
        subst hQQ
        exact W.zret hx hb hr rfl (fun t ht hW => ⟨⟨_, (), rfl, rfl, by rw [ht]; exact hP, hD⟩, hS.F ht⟩) hS.2.2 dX0_takeBack_33
      · have hf := vm_neg hc_9 hf
        by_cases hc_16 : (known - 1) = 2
        · have hf := vm_pos hc_16 hf
          refine vm_aald hx hb hK hP 1 2 rfl rfl (by rw [hc_16]; decide +kernel) (v := had 8) (by rw [hc_16]; rfl) dX0_takeBack_28 ?_
          obtain ⟨p1_columns_17, p1_rows_18, p1_numbers_19, p1_figure_20, p1_grains_21, hq_22, hf⟩ := ob5_some hf
          refine vm_cNv (isC := [26, 27, 28, 29, 10, 11, 12, 13]) (wc := (wd_X2_takeFrom Γ q2 q3 q4 q5 (had 8) (had 9) (had 10) (had 11) p1_columns p1_rows p1_numbers p1_figure p1_grains (pW 2) (pH 2) (pN 2) (pF 2) (pG 2))) (w1 := (wd_X2_takeFrom Γ q2 q3 q4 q5 (had 8) (had 9) (had 10) (had 11) p1_columns_17 p1_rows_18 p1_numbers_19 p1_figure_20 p1_grains_21 (pW 2) (pH 2) (pN 2) (pF 2) (pG 2))) (As := [.ref (had 8)]) (rest := []) ⟨hx, hb, hml, hown, hts⟩ hE hP hD hS hA rfl rfl rfl (c_X2_takeFrom l Γ _ q2 q3 q4 q5 (had 8) (had 9) (had 10) (had 11) p1_columns p1_rows p1_numbers p1_figure p1_grains (pW 2) (pH 2) (pN 2) (pF 2) (pG 2) p1_columns_17 p1_rows_18 p1_numbers_19 p1_figure_20 p1_grains_21 hq_22) ⟨va_cnB 1 hts ggX0_takeBack_X2_takeFrom rfl rfl rfl (nmX0_25 hE.2.1) (hts (.initialized RX2) (List.mem_of_getElem? (i := 4) rfl)) (by decide +kernel) ⟨Nat.le_of_ble_eq_true rfl, Nat.le_of_ble_eq_true rfl⟩, (hts (.instanceMethod yX2_takeFrom) (List.mem_of_getElem? (i := 3) rfl)), (hts (.selects RX2 yX2_takeFrom yX2_takeFrom) (List.mem_of_getElem? (i := 5) rfl))⟩ (va_recv (ci := 2) (q0 := 26) hK hP rfl rfl) rfl hl.1 rfl (Nat.le_of_ble_eq_true rfl) dX0_takeBack_29 ⟨Nat.zero_le _, Nat.zero_le _⟩ (fun H locs hP hD hS => ?_)
          have hP : va_P Γ.1 vwCl (wd_X0_takeBack Γ q0 q1 q2 q3 q4 q5 (known - 1) had pW pH pN pF pG p1_columns_17 p1_rows_18 p1_numbers_19 p1_figure_20 p1_grains_21) H := hP
          have hD : va_D A (wd_X0_takeBack Γ q0 q1 q2 q3 q4 q5 (known - 1) had pW pH pN pF pG p1_columns_17 p1_rows_18 p1_numbers_19 p1_figure_20 p1_grains_21) := hD
          refine lv_iconst (v := 1) hx hb dX0_takeBack_32 (by decide) ?_
          subst hout; obtain ⟨rfl, rfl, rfl, rfl, rfl, rfl, rfl⟩ := rt7 hf
          subst hQQ
          exact W.zret hx hb hr rfl (fun t ht hW => ⟨⟨_, (), rfl, rfl, by rw [ht]; exact hP, hD⟩, hS.F ht⟩) hS.2.2 dX0_takeBack_33
        · have hf := vm_neg hc_16 hf
          by_cases hc_23 : (known - 1) = 3
          · have hf := vm_pos hc_23 hf
            refine vm_aald hx hb hK hP 1 2 rfl rfl (by rw [hc_23]; decide +kernel) (v := had 12) (by rw [hc_23]; rfl) dX0_takeBack_28 ?_
            obtain ⟨p1_columns_24, p1_rows_25, p1_numbers_26, p1_figure_27, p1_grains_28, hq_29, hf⟩ := ob5_some hf
            refine vm_cNv (isC := [26, 27, 28, 29, 14, 15, 16, 17]) (wc := (wd_X2_takeFrom Γ q2 q3 q4 q5 (had 12) (had 13) (had 14) (had 15) p1_columns p1_rows p1_numbers p1_figure p1_grains (pW 3) (pH 3) (pN 3) (pF 3) (pG 3))) (w1 := (wd_X2_takeFrom Γ q2 q3 q4 q5 (had 12) (had 13) (had 14) (had 15) p1_columns_24 p1_rows_25 p1_numbers_26 p1_figure_27 p1_grains_28 (pW 3) (pH 3) (pN 3) (pF 3) (pG 3))) (As := [.ref (had 12)]) (rest := []) ⟨hx, hb, hml, hown, hts⟩ hE hP hD hS hA rfl rfl rfl (c_X2_takeFrom l Γ _ q2 q3 q4 q5 (had 12) (had 13) (had 14) (had 15) p1_columns p1_rows p1_numbers p1_figure p1_grains (pW 3) (pH 3) (pN 3) (pF 3) (pG 3) p1_columns_24 p1_rows_25 p1_numbers_26 p1_figure_27 p1_grains_28 hq_29) ⟨va_cnB 1 hts ggX0_takeBack_X2_takeFrom rfl rfl rfl (nmX0_25 hE.2.1) (hts (.initialized RX2) (List.mem_of_getElem? (i := 4) rfl)) (by decide +kernel) ⟨Nat.le_of_ble_eq_true rfl, Nat.le_of_ble_eq_true rfl⟩, (hts (.instanceMethod yX2_takeFrom) (List.mem_of_getElem? (i := 3) rfl)), (hts (.selects RX2 yX2_takeFrom yX2_takeFrom) (List.mem_of_getElem? (i := 5) rfl))⟩ (va_recv (ci := 2) (q0 := 26) hK hP rfl rfl) rfl hl.1 rfl (Nat.le_of_ble_eq_true rfl) dX0_takeBack_29 ⟨Nat.zero_le _, Nat.zero_le _⟩ (fun H locs hP hD hS => ?_)
            have hP : va_P Γ.1 vwCl (wd_X0_takeBack Γ q0 q1 q2 q3 q4 q5 (known - 1) had pW pH pN pF pG p1_columns_24 p1_rows_25 p1_numbers_26 p1_figure_27 p1_grains_28) H := hP
            have hD : va_D A (wd_X0_takeBack Γ q0 q1 q2 q3 q4 q5 (known - 1) had pW pH pN pF pG p1_columns_24 p1_rows_25 p1_numbers_26 p1_figure_27 p1_grains_28) := hD
            refine lv_iconst (v := 1) hx hb dX0_takeBack_32 (by decide) ?_
            subst hout; obtain ⟨rfl, rfl, rfl, rfl, rfl, rfl, rfl⟩ := rt7 hf
            subst hQQ
            exact W.zret hx hb hr rfl (fun t ht hW => ⟨⟨_, (), rfl, rfl, by rw [ht]; exact hP, hD⟩, hS.F ht⟩) hS.2.2 dX0_takeBack_33
          · have hf := vm_neg hc_23 hf
            by_cases hc_30 : (known - 1) = 4
            · have hf := vm_pos hc_30 hf
              refine vm_aald hx hb hK hP 1 2 rfl rfl (by rw [hc_30]; decide +kernel) (v := had 16) (by rw [hc_30]; rfl) dX0_takeBack_28 ?_
              obtain ⟨p1_columns_31, p1_rows_32, p1_numbers_33, p1_figure_34, p1_grains_35, hq_36, hf⟩ := ob5_some hf
              refine vm_cNv (isC := [26, 27, 28, 29, 18, 19, 20, 21]) (wc := (wd_X2_takeFrom Γ q2 q3 q4 q5 (had 16) (had 17) (had 18) (had 19) p1_columns p1_rows p1_numbers p1_figure p1_grains (pW 4) (pH 4) (pN 4) (pF 4) (pG 4))) (w1 := (wd_X2_takeFrom Γ q2 q3 q4 q5 (had 16) (had 17) (had 18) (had 19) p1_columns_31 p1_rows_32 p1_numbers_33 p1_figure_34 p1_grains_35 (pW 4) (pH 4) (pN 4) (pF 4) (pG 4))) (As := [.ref (had 16)]) (rest := []) ⟨hx, hb, hml, hown, hts⟩ hE hP hD hS hA rfl rfl rfl (c_X2_takeFrom l Γ _ q2 q3 q4 q5 (had 16) (had 17) (had 18) (had 19) p1_columns p1_rows p1_numbers p1_figure p1_grains (pW 4) (pH 4) (pN 4) (pF 4) (pG 4) p1_columns_31 p1_rows_32 p1_numbers_33 p1_figure_34 p1_grains_35 hq_36) ⟨va_cnB 1 hts ggX0_takeBack_X2_takeFrom rfl rfl rfl (nmX0_25 hE.2.1) (hts (.initialized RX2) (List.mem_of_getElem? (i := 4) rfl)) (by decide +kernel) ⟨Nat.le_of_ble_eq_true rfl, Nat.le_of_ble_eq_true rfl⟩, (hts (.instanceMethod yX2_takeFrom) (List.mem_of_getElem? (i := 3) rfl)), (hts (.selects RX2 yX2_takeFrom yX2_takeFrom) (List.mem_of_getElem? (i := 5) rfl))⟩ (va_recv (ci := 2) (q0 := 26) hK hP rfl rfl) rfl hl.1 rfl (Nat.le_of_ble_eq_true rfl) dX0_takeBack_29 ⟨Nat.zero_le _, Nat.zero_le _⟩ (fun H locs hP hD hS => ?_)
              have hP : va_P Γ.1 vwCl (wd_X0_takeBack Γ q0 q1 q2 q3 q4 q5 (known - 1) had pW pH pN pF pG p1_columns_31 p1_rows_32 p1_numbers_33 p1_figure_34 p1_grains_35) H := hP
              have hD : va_D A (wd_X0_takeBack Γ q0 q1 q2 q3 q4 q5 (known - 1) had pW pH pN pF pG p1_columns_31 p1_rows_32 p1_numbers_33 p1_figure_34 p1_grains_35) := hD
              refine lv_iconst (v := 1) hx hb dX0_takeBack_32 (by decide) ?_
              subst hout; obtain ⟨rfl, rfl, rfl, rfl, rfl, rfl, rfl⟩ := rt7 hf
              subst hQQ
              exact W.zret hx hb hr rfl (fun t ht hW => ⟨⟨_, (), rfl, rfl, by rw [ht]; exact hP, hD⟩, hS.F ht⟩) hS.2.2 dX0_takeBack_33
            · have hf := vm_neg hc_30 hf
              by_cases hc_37 : (known - 1) = 5
              · have hf := vm_pos hc_37 hf
                refine vm_aald hx hb hK hP 1 2 rfl rfl (by rw [hc_37]; decide +kernel) (v := had 20) (by rw [hc_37]; rfl) dX0_takeBack_28 ?_
                obtain ⟨p1_columns_38, p1_rows_39, p1_numbers_40, p1_figure_41, p1_grains_42, hq_43, hf⟩ := ob5_some hf
                refine vm_cNv (isC := [26, 27, 28, 29, 22, 23, 24, 25]) (wc := (wd_X2_takeFrom Γ q2 q3 q4 q5 (had 20) (had 21) (had 22) (had 23) p1_columns p1_rows p1_numbers p1_figure p1_grains (pW 5) (pH 5) (pN 5) (pF 5) (pG 5))) (w1 := (wd_X2_takeFrom Γ q2 q3 q4 q5 (had 20) (had 21) (had 22) (had 23) p1_columns_38 p1_rows_39 p1_numbers_40 p1_figure_41 p1_grains_42 (pW 5) (pH 5) (pN 5) (pF 5) (pG 5))) (As := [.ref (had 20)]) (rest := []) ⟨hx, hb, hml, hown, hts⟩ hE hP hD hS hA rfl rfl rfl (c_X2_takeFrom l Γ _ q2 q3 q4 q5 (had 20) (had 21) (had 22) (had 23) p1_columns p1_rows p1_numbers p1_figure p1_grains (pW 5) (pH 5) (pN 5) (pF 5) (pG 5) p1_columns_38 p1_rows_39 p1_numbers_40 p1_figure_41 p1_grains_42 hq_43) ⟨va_cnB 1 hts ggX0_takeBack_X2_takeFrom rfl rfl rfl (nmX0_25 hE.2.1) (hts (.initialized RX2) (List.mem_of_getElem? (i := 4) rfl)) (by decide +kernel) ⟨Nat.le_of_ble_eq_true rfl, Nat.le_of_ble_eq_true rfl⟩, (hts (.instanceMethod yX2_takeFrom) (List.mem_of_getElem? (i := 3) rfl)), (hts (.selects RX2 yX2_takeFrom yX2_takeFrom) (List.mem_of_getElem? (i := 5) rfl))⟩ (va_recv (ci := 2) (q0 := 26) hK hP rfl rfl) rfl hl.1 rfl (Nat.le_of_ble_eq_true rfl) dX0_takeBack_29 ⟨Nat.zero_le _, Nat.zero_le _⟩ (fun H locs hP hD hS => ?_)
                have hP : va_P Γ.1 vwCl (wd_X0_takeBack Γ q0 q1 q2 q3 q4 q5 (known - 1) had pW pH pN pF pG p1_columns_38 p1_rows_39 p1_numbers_40 p1_figure_41 p1_grains_42) H := hP
                have hD : va_D A (wd_X0_takeBack Γ q0 q1 q2 q3 q4 q5 (known - 1) had pW pH pN pF pG p1_columns_38 p1_rows_39 p1_numbers_40 p1_figure_41 p1_grains_42) := hD
                refine lv_iconst (v := 1) hx hb dX0_takeBack_32 (by decide) ?_
                subst hout; obtain ⟨rfl, rfl, rfl, rfl, rfl, rfl, rfl⟩ := rt7 hf
                subst hQQ
                exact W.zret hx hb hr rfl (fun t ht hW => ⟨⟨_, (), rfl, rfl, by rw [ht]; exact hP, hD⟩, hS.F ht⟩) hS.2.2 dX0_takeBack_33
              · have hf := vm_neg hc_37 hf
                exact nomatch hf
  · have hf := vm_neg hc_1 hf
    refine lv_iconst (v := 0) hx hb dX0_takeBack_7 (by decide) ?_
    subst hout; obtain ⟨rfl, rfl, rfl, rfl, rfl, rfl, rfl⟩ := rt7 hf
    subst hQQ
    exact W.zret hx hb hr rfl (fun t ht hW => ⟨⟨_, (), rfl, rfl, by rw [ht]; exact hP, hD⟩, hS.F ht⟩) hS.2.2 dX0_takeBack_8
def wd_X1_by (Γ : GE) (q0 q1 q2 q3 q4 q5 q6 q7 q8 d0 d1 : Nat) (columns : Int32) (rows : Int32) (heights : Nat → Int32) (speeds : Nat → Int32) (lowest : Nat → Int32) (isKnown : Nat → Int32) (numbers : Nat → Int32) (p1_columns : Int32) (p1_rows : Int32) (p1_numbers : Nat → Int32) (rad : Nat → Nat) (mo : Nat → Nat → Int32) : va_W := [(q0, .inr (1, [.ref q1, .ref q2, .ref q3, .ref q8, .ref q4, .int columns, .int rows, .ref q5])), (q1, .inl (Γ.2.1 0, 36, .inl heights)), (q2, .inl (Γ.2.1 0, 36, .inl speeds)), (q3, .inl (Γ.2.1 0, 36, .inl lowest)), (q4, .inl (Γ.2.1 1, 21, .inl isKnown)), (q5, .inl (Γ.2.1 0, 7, .inl numbers)), (q6, .inr (2, [.int p1_columns, .int p1_rows, .ref q7, .ref d0, .ref d1])), (q7, .inl (Γ.2.1 0, 7, .inl p1_numbers))] ++ (segR Γ q8 rad mo)
theorem hr_X1_by (Γ : GE) (q0 q1 q2 q3 q4 q5 q6 q7 q8 d0 d1 : Nat) (columns : Int32) (rows : Int32) (heights : Nat → Int32) (speeds : Nat → Int32) (lowest : Nat → Int32) (isKnown : Nat → Int32) (numbers : Nat → Int32) (p1_columns : Int32) (p1_rows : Int32) (p1_numbers : Nat → Int32) (rad : Nat → Nat) (mo : Nat → Nat → Int32) : ∀ k, k < 21 → (wd_X1_by Γ q0 q1 q2 q3 q4 q5 q6 q7 q8 d0 d1 columns rows heights speeds lowest isKnown numbers p1_columns p1_rows p1_numbers rad mo)[9 + k]? = some (rad k, .inl (Γ.2.1 0, 36, .inl (mo k))) := k21 (P := fun k => (wd_X1_by Γ q0 q1 q2 q3 q4 q5 q6 q7 q8 d0 d1 columns rows heights speeds lowest isKnown numbers p1_columns p1_rows p1_numbers rad mo)[9 + k]? = some (rad k, .inl (Γ.2.1 0, 36, .inl (mo k)))) ⟨rfl, rfl, rfl, rfl, rfl, rfl, rfl, rfl, rfl, rfl, rfl, rfl, rfl, rfl, rfl, rfl, rfl, rfl, rfl, rfl, rfl⟩
theorem hw_X1_by (Γ : GE) (q0 q1 q2 q3 q4 q5 q6 q7 q8 d0 d1 : Nat) (columns : Int32) (rows : Int32) (heights : Nat → Int32) (speeds : Nat → Int32) (lowest : Nat → Int32) (isKnown : Nat → Int32) (numbers : Nat → Int32) (p1_columns : Int32) (p1_rows : Int32) (p1_numbers : Nat → Int32) (rad : Nat → Nat) (mo : Nat → Nat → Int32) (z : Nat → Int32) : ∀ k, k < 21 → (wd_X1_by Γ q0 q1 q2 q3 q4 q5 q6 q7 q8 d0 d1 columns rows heights speeds lowest isKnown numbers p1_columns p1_rows p1_numbers rad mo).set (9 + k) (rad k, .inl (Γ.2.1 0, 36, .inl z)) = wd_X1_by Γ q0 q1 q2 q3 q4 q5 q6 q7 q8 d0 d1 columns rows heights speeds lowest isKnown numbers p1_columns p1_rows p1_numbers rad (va_up mo k z) := k21 (P := fun k => (wd_X1_by Γ q0 q1 q2 q3 q4 q5 q6 q7 q8 d0 d1 columns rows heights speeds lowest isKnown numbers p1_columns p1_rows p1_numbers rad mo).set (9 + k) (rad k, .inl (Γ.2.1 0, 36, .inl z)) = wd_X1_by Γ q0 q1 q2 q3 q4 q5 q6 q7 q8 d0 d1 columns rows heights speeds lowest isKnown numbers p1_columns p1_rows p1_numbers rad (va_up mo k z)) ⟨rfl, rfl, rfl, rfl, rfl, rfl, rfl, rfl, rfl, rfl, rfl, rfl, rfl, rfl, rfl, rfl, rfl, rfl, rfl, rfl, rfl⟩
def f_X1_by_43 (columns : Int32) (rows : Int32) (heights : Nat → Int32) (speeds : Nat → Int32) (lowest : Nat → Int32) (isKnown : Nat → Int32) (numbers : Nat → Int32) (mo : Nat → Nat → Int32) (x3 : Int32) : Option (Int32 × Int32 × Int32 × (Nat → Int32) × (Nat → Int32) × (Nat → Int32) × (Nat → Int32) × (Nat → Int32) × (Nat → Nat → Int32)) := some (x3, columns, rows, heights, speeds, lowest, isKnown, numbers, mo)
def f_X1_by_13 (columns : Int32) (rows : Int32) (heights : Nat → Int32) (speeds : Nat → Int32) (lowest : Nat → Int32) (isKnown : Nat → Int32) (numbers : Nat → Int32) (p1_columns : Int32) (p1_rows : Int32) (p1_numbers : Nat → Int32) (mo : Nat → Nat → Int32) (x2 : Int32) : Option (Int32 × Int32 × Int32 × (Nat → Int32) × (Nat → Int32) × (Nat → Int32) × (Nat → Int32) × (Nat → Int32) × (Nat → Nat → Int32)) := if inb x2 21 = true then if inb x2 21 = true then if (isKnown (x2.toNatClampNeg)) = 0 then (ob4 (f_X1_workOut heights speeds lowest p1_columns p1_rows p1_numbers (mo x2.toNatClampNeg) x2) (fun heights_4 speeds_5 lowest_6 mo_7 => if inb x2 21 = true then f_X1_by_43 columns rows heights_4 speeds_5 lowest_6 (upd isKnown (x2.toNatClampNeg) (vp_nar .boolean 1)) numbers (va_up mo x2.toNatClampNeg mo_7) x2 else none)) else (f_X1_by_43 columns rows heights speeds lowest isKnown numbers mo x2) else none else none
def f_X1_by (columns : Int32) (rows : Int32) (heights : Nat → Int32) (speeds : Nat → Int32) (lowest : Nat → Int32) (isKnown : Nat → Int32) (numbers : Nat → Int32) (p1_columns : Int32) (p1_rows : Int32) (p1_numbers : Nat → Int32) (mo : Nat → Nat → Int32) (x2 : Int32) : Option (Int32 × Int32 × Int32 × (Nat → Int32) × (Nat → Int32) × (Nat → Int32) × (Nat → Int32) × (Nat → Int32) × (Nat → Nat → Int32)) := ob1 (f_X1_isOf columns rows numbers p1_columns p1_rows p1_numbers) (fun r_10 => if r_10 = 0 then (ob4 (f_X1_become isKnown numbers p1_columns p1_rows p1_numbers) (fun columns_13 rows_14 isKnown_15 numbers_16 => f_X1_by_13 columns_13 rows_14 heights speeds lowest isKnown_15 numbers_16 p1_columns p1_rows p1_numbers mo x2)) else (f_X1_by_13 columns rows heights speeds lowest isKnown numbers p1_columns p1_rows p1_numbers mo x2))
set_option maxHeartbeats 4000000 in
set_option maxRecDepth 100000 in
theorem c_X1_by (l : Launch) (Γ : GE) (sz : Nat) (q0 q1 q2 q3 q4 q5 q6 q7 q8 d0 d1 : Nat) (columns : Int32) (rows : Int32) (heights : Nat → Int32) (speeds : Nat → Int32) (lowest : Nat → Int32) (isKnown : Nat → Int32) (numbers : Nat → Int32) (p1_columns : Int32) (p1_rows : Int32) (p1_numbers : Nat → Int32) (rad : Nat → Nat) (mo : Nat → Nat → Int32) (x2 : Int32) (ro : Int32) (o_columns : Int32) (o_rows : Int32) (o_heights : Nat → Int32) (o_speeds : Nat → Int32) (o_lowest : Nat → Int32) (o_isKnown : Nat → Int32) (o_numbers : Nat → Int32) (o_mo : Nat → Nat → Int32) (hf : f_X1_by columns rows heights speeds lowest isKnown numbers p1_columns p1_rows p1_numbers mo x2 = some (ro, o_columns, o_rows, o_heights, o_speeds, o_lowest, o_isKnown, o_numbers, o_mo)) : MetR l yX1_by wsX1_by ({ frames := 3, cells := 0, slots := 0, locals := 82 } : Room) Γ [.ref q0, .ref q6, .int x2] (wd_X1_by Γ q0 q1 q2 q3 q4 q5 q6 q7 q8 d0 d1 columns rows heights speeds lowest isKnown numbers p1_columns p1_rows p1_numbers rad mo) (wd_X1_by Γ q0 q1 q2 q3 q4 q5 q6 q7 q8 d0 d1 o_columns o_rows o_heights o_speeds o_lowest o_isKnown o_numbers p1_columns p1_rows p1_numbers rad o_mo) sz (rad ro.toNatClampNeg) := by
  refine Met.ofW (cc := cX1_by) (maxL := 4) (ret := (some (.array .int))) (by decide) rfl ?_
  intro p e s m args below meth c s₁ B hml hv
  obtain ⟨rfl, hsz, hE, hP, hD⟩ := hv
  have hx := B.exec
  have hb := B.bytes
  have hr := B.returns
  have hts := atoms_spec (ws := wsX1_by) B.pre
  have hown : s.vm.findClass RX1 = some m.cls := findClass_of_methodNamed B.named
  have hlocks := B.notSynchronized
  subst hsz
  generalize hAe : va_A (wd_X1_by Γ q0 q1 q2 q3 q4 q5 q6 q7 q8 d0 d1 columns rows heights speeds lowest isKnown numbers p1_columns p1_rows p1_numbers rad mo) s.heap.size = A at hE hD ⊢
  have hA : ∀ q : Nat, s.heap.size ≤ q → A q := fun q h => by rw [← hAe]; exact Or.inr h
  clear hAe
  have hS : va_S A s.heap s.heap [] := va_S.rf
  have hK := hE.1
  have hl := lv_entry ([.ref q0, .ref q6, .int x2]) (n := 4) (Nat.le_of_ble_eq_true rfl)
  rw [lg_entry_eq]
  generalize (lg_sl ([.ref q0, .ref q6, .int x2]) ++ List.replicate (4 - (lg_sl ([.ref q0, .ref q6, .int x2])).length) Slot.unset).toArray = ls at hl ⊢
  have hl : lv_has ls 4 [(0, .ref q0), (1, .ref q6), (2, .int x2)] := hl
  have hi1 : ∀ w ∈ u_ws RX1 TX1 8, w ∈ wsX1_by := fun w h => (List.mem_cons_of_mem _ (List.mem_append_left _ (List.mem_append_right _ h)))
  have hi2 : ∀ w ∈ u_ws RX2 TX2 5, w ∈ wsX1_by := fun w h => (List.mem_cons_of_mem _ (List.mem_append_right _ h))
  obtain ⟨out, hout⟩ : ∃ o, o = (ro, o_columns, o_rows, o_heights, o_speeds, o_lowest, o_isKnown, o_numbers, o_mo) := ⟨_, rfl⟩
  rw [← hout] at hf
  obtain ⟨QQ, hQQ⟩ : ∃ Q, Q = MQ below (va_Qr (fun _ : Unit => True) (fun u a t => a = (rad ro.toNatClampNeg) ∧ CQ Γ (wd_X1_by Γ q0 q1 q2 q3 q4 q5 q6 q7 q8 d0 d1 o_columns o_rows o_heights o_speeds o_lowest o_isKnown o_numbers p1_columns p1_rows p1_numbers rad o_mo) A u t) A) (([.ref q0, .ref q6, .int x2] : List Value).toArray) s 0 0 A := ⟨_, rfl⟩
  show W p l e ({ frames := 3, cells := 0, slots := 0, locals := 82 } : Room) s m (([.ref q0, .ref q6, .int x2] : List Value).toArray) below meth c s.heap [] 0 0 (MQ below _ (([.ref q0, .ref q6, .int x2] : List Value).toArray) s 0 0 A) (F0 m 0 ls [])
  rw [← hQQ]
  have K_43 : ∀ (columns : Int32) (rows : Int32) (heights : Nat → Int32) (speeds : Nat → Int32) (lowest : Nat → Int32) (isKnown : Nat → Int32) (numbers : Nat → Int32) (mo : Nat → Nat → Int32) (x3 : Int32) (hr3 : inb x3 21 = true) {H : Heap} {locs : List Loc} {ls : Array Slot}, va_P Γ.1 vwCl (wd_X1_by Γ q0 q1 q2 q3 q4 q5 q6 q7 q8 d0 d1 columns rows heights speeds lowest isKnown numbers p1_columns p1_rows p1_numbers rad mo) H → va_D A (wd_X1_by Γ q0 q1 q2 q3 q4 q5 q6 q7 q8 d0 d1 columns rows heights speeds lowest isKnown numbers p1_columns p1_rows p1_numbers rad mo) → va_S A s.heap H locs → lv_has ls 4 [(3, .ref (rad x3.toNatClampNeg))] → f_X1_by_43 columns rows heights speeds lowest isKnown numbers mo x3 = some out → W p l e ({ frames := 3, cells := 0, slots := 0, locals := 82 } : Room) s m ([.ref q0, .ref q6, .int x2] : List Value).toArray below meth c H locs 0 0 QQ (F0 m 43 ls []) := by
    intro columns rows heights speeds lowest isKnown numbers mo x3 hr3 H locs ls hP hD hS hl hf
    unfold f_X1_by_43 at hf
    refine lv_aload_n hx hb dX1_by_43 rfl (lv_at hl 0 rfl) ?_
    subst hout; obtain ⟨rfl, rfl, rfl, rfl, rfl, rfl, rfl, rfl, rfl⟩ := rt9 hf
    subst hQQ
    exact W.aret (v := .ref (rad x3.toNatClampNeg)) hx hb hr (Or.inr ⟨_, rfl⟩) (Or.inr ⟨_, rfl⟩) (fun t ht hW => ⟨⟨(), _, rfl, trivial, rfl, by rw [ht]; exact hP, hD⟩, hS.F ht⟩) hS.2.2 dX1_by_44
  have K_13 : ∀ (columns : Int32) (rows : Int32) (heights : Nat → Int32) (speeds : Nat → Int32) (lowest : Nat → Int32) (isKnown : Nat → Int32) (numbers : Nat → Int32) (mo : Nat → Nat → Int32) {H : Heap} {locs : List Loc} {ls : Array Slot}, va_P Γ.1 vwCl (wd_X1_by Γ q0 q1 q2 q3 q4 q5 q6 q7 q8 d0 d1 columns rows heights speeds lowest isKnown numbers p1_columns p1_rows p1_numbers rad mo) H → va_D A (wd_X1_by Γ q0 q1 q2 q3 q4 q5 q6 q7 q8 d0 d1 columns rows heights speeds lowest isKnown numbers p1_columns p1_rows p1_numbers rad mo) → va_S A s.heap H locs → lv_has ls 4 [(0, .ref q0), (1, .ref q6), (2, .int x2)] → f_X1_by_13 columns rows heights speeds lowest isKnown numbers p1_columns p1_rows p1_numbers mo x2 = some out → W p l e ({ frames := 3, cells := 0, slots := 0, locals := 82 } : Room) s m ([.ref q0, .ref q6, .int x2] : List Value).toArray below meth c H locs 0 0 QQ (F0 m 13 ls []) := by
    intro columns rows heights speeds lowest isKnown numbers mo H locs ls hP hD hS hl hf
    unfold f_X1_by_13 at hf
    refine lv_aload_n hx hb dX1_by_13 rfl (lv_at hl 0 rfl) ?_
    refine va_get (D := Γ.1) (ci := 1) (v := .ref q8) (C := RX1) (T := TX1) (N := 8) hx hb hts hi1 hown hK hP 0 rfl rfl 3 (by decide) (hts (.fieldLink RX1 23 "SandPlates$Motions" "motions" "[[I") (List.mem_of_getElem? (i := 1) rfl)) (fun _ h9 => h9) rfl dX1_by_14 ?_
    refine lv_iload_n hx hb dX1_by_17 rfl (lv_at hl 2 rfl) ?_
    obtain ⟨hc_1, hf⟩ := vm_ck hf
    refine vm_aaldr hx hb hK hP 8 3 rfl rfl hc_1 (rfR_at hc_1) dX1_by_18 ?_
    refine lv_astore_n (lv' := [(3, .ref (rad x2.toNatClampNeg)), (0, .ref q0), (1, .ref q6), (2, .int x2)]) hx hb dX1_by_19 rfl hl (by decide) rfl (fun ls hl => ?_)
    refine lv_aload_n hx hb dX1_by_20 rfl (lv_at hl 1 rfl) ?_
    refine va_get (D := Γ.1) (ci := 1) (v := .ref q4) (C := RX1) (T := TX1) (N := 8) hx hb hts hi1 hown hK hP 0 rfl rfl 4 (by decide) (hts (.fieldLink RX1 26 "SandPlates$Motions" "isKnown" "[Z") (List.mem_of_getElem? (i := 2) rfl)) (fun _ h9 => h9) rfl dX1_by_21 ?_
    refine lv_iload_n hx hb dX1_by_24 rfl (lv_at hl 3 rfl) ?_
    obtain ⟨hc_2, hf⟩ := vm_ck hf
    refine vm_zald hx hb hK hP 4 1 rfl rfl hc_2 (j := x2.toNatClampNeg) rfl dX1_by_25 ?_
    refine lv_if_ne (tgt := 43) hx hb dX1_by_26 (by decide) (fun hc_3 => ?_) (fun hc_3 => ?_)
    · have hf := vm_neg hc_3 hf
      exact K_43 columns rows heights speeds lowest isKnown numbers mo x2 hc_1 hP hD hS (lv_sub hl [0] rfl) hf
    · have hf := vm_pos hc_3 hf
      refine lv_aload_n hx hb dX1_by_29 rfl (lv_at hl 1 rfl) ?_
      refine lv_aload_n hx hb dX1_by_30 rfl (lv_at hl 2 rfl) ?_
      refine lv_iload_n hx hb dX1_by_31 rfl (lv_at hl 3 rfl) ?_
      refine lv_aload_n hx hb dX1_by_32 rfl (lv_at hl 0 rfl) ?_
      obtain ⟨heights_4, speeds_5, lowest_6, mo_7, hq_8, hf⟩ := ob4_some hf
      refine vm_cVv (isC := [0, 1, 2, 3, 6, 7] ++ [(9 + x2.toNatClampNeg)]) (wc := ((wd_X1_workOut Γ q0 q1 q2 q3 q6 q7 (rad x2.toNatClampNeg) q8 q4 q5 d0 d1 columns rows heights speeds lowest p1_columns p1_rows p1_numbers (mo x2.toNatClampNeg))).take 6 ++ [((rad x2.toNatClampNeg), .inl (Γ.2.1 0, 36, .inl (mo x2.toNatClampNeg)))]) (w1 := ((wd_X1_workOut Γ q0 q1 q2 q3 q6 q7 (rad x2.toNatClampNeg) q8 q4 q5 d0 d1 columns rows heights_4 speeds_5 lowest_6 p1_columns p1_rows p1_numbers mo_7)).take 6 ++ [((rad x2.toNatClampNeg), .inl (Γ.2.1 0, 36, .inl mo_7))]) (As := [.ref q6, .int x2, .ref (rad x2.toNatClampNeg)]) (rest := []) ⟨hx, hb, hml, hown, hts⟩ hE hP hD hS hA (vm_hCr rfl (hr_X1_by Γ q0 q1 q2 q3 q4 q5 q6 q7 q8 d0 d1 columns rows heights speeds lowest isKnown numbers p1_columns p1_rows p1_numbers rad mo _ (inb_lt hc_1))) (vm_ndr rfl (fun i hi => Nat.lt_of_lt_of_le ((by decide : ∀ i ∈ ([0, 1, 2, 3, 6, 7] : List Nat), i < 9) i hi) (Nat.le_add_right _ _))) rfl (c_X1_workOut l Γ _ q0 q1 q2 q3 q6 q7 (rad x2.toNatClampNeg) q8 q4 q5 d0 d1 columns rows heights speeds lowest p1_columns p1_rows p1_numbers (mo x2.toNatClampNeg) x2 heights_4 speeds_5 lowest_6 mo_7 hq_8) (cwV 3 hts gX1_by_X1_workOut rfl rfl rfl (by decide +kernel) ⟨Nat.le_of_ble_eq_true rfl, Nat.le_of_ble_eq_true rfl⟩) (va_recv (ci := 1) (q0 := 0) hK hP rfl rfl) rfl hl.1 rfl (Nat.le_of_ble_eq_true rfl) dX1_by_33 ⟨Nat.zero_le _, Nat.zero_le _⟩ (fun H locs hP hD hS => ?_)
      have hP : va_P Γ.1 vwCl (wd_X1_by Γ q0 q1 q2 q3 q4 q5 q6 q7 q8 d0 d1 columns rows heights_4 speeds_5 lowest_6 isKnown numbers p1_columns p1_rows p1_numbers rad (va_up mo x2.toNatClampNeg mo_7)) H := vm_rowP rfl (W' := (wd_X1_by Γ q0 q1 q2 q3 q4 q5 q6 q7 q8 d0 d1 columns rows heights_4 speeds_5 lowest_6 isKnown numbers p1_columns p1_rows p1_numbers rad mo)) rfl (hw_X1_by Γ q0 q1 q2 q3 q4 q5 q6 q7 q8 d0 d1 columns rows heights_4 speeds_5 lowest_6 isKnown numbers p1_columns p1_rows p1_numbers rad mo mo_7 _ (inb_lt hc_1)) hP
      have hD : va_D A (wd_X1_by Γ q0 q1 q2 q3 q4 q5 q6 q7 q8 d0 d1 columns rows heights_4 speeds_5 lowest_6 isKnown numbers p1_columns p1_rows p1_numbers rad (va_up mo x2.toNatClampNeg mo_7)) := vm_rowD rfl (W' := (wd_X1_by Γ q0 q1 q2 q3 q4 q5 q6 q7 q8 d0 d1 columns rows heights_4 speeds_5 lowest_6 isKnown numbers p1_columns p1_rows p1_numbers rad mo)) rfl (hw_X1_by Γ q0 q1 q2 q3 q4 q5 q6 q7 q8 d0 d1 columns rows heights_4 speeds_5 lowest_6 isKnown numbers p1_columns p1_rows p1_numbers rad mo mo_7 _ (inb_lt hc_1)) hD
      refine lv_aload_n hx hb dX1_by_36 rfl (lv_at hl 1 rfl) ?_
      refine va_get (D := Γ.1) (ci := 1) (v := .ref q4) (C := RX1) (T := TX1) (N := 8) hx hb hts hi1 hown hK hP 0 rfl rfl 4 (by decide) (hts (.fieldLink RX1 26 "SandPlates$Motions" "isKnown" "[Z") (List.mem_of_getElem? (i := 2) rfl)) (fun _ h9 => h9) rfl dX1_by_37 ?_
      refine lv_iload_n hx hb dX1_by_40 rfl (lv_at hl 3 rfl) ?_
      refine lv_iconst (v := 1) hx hb dX1_by_41 (by decide) ?_
      obtain ⟨hc_9, hf⟩ := vm_ck hf
      refine vm_zast hx hb hK hP hD hS 4 1 rfl rfl hc_9 (j := (x2.toNatClampNeg)) rfl dX1_by_42 (fun H locs hP hD hS => ?_)
      have hP : va_P Γ.1 vwCl (wd_X1_by Γ q0 q1 q2 q3 q4 q5 q6 q7 q8 d0 d1 columns rows heights_4 speeds_5 lowest_6 (upd isKnown (x2.toNatClampNeg) (vp_nar .boolean 1)) numbers p1_columns p1_rows p1_numbers rad (va_up mo x2.toNatClampNeg mo_7)) H := hP
      have hD : va_D A (wd_X1_by Γ q0 q1 q2 q3 q4 q5 q6 q7 q8 d0 d1 columns rows heights_4 speeds_5 lowest_6 (upd isKnown (x2.toNatClampNeg) (vp_nar .boolean 1)) numbers p1_columns p1_rows p1_numbers rad (va_up mo x2.toNatClampNeg mo_7)) := hD
      exact K_43 columns rows heights_4 speeds_5 lowest_6 (upd isKnown (x2.toNatClampNeg) (vp_nar .boolean 1)) numbers (va_up mo x2.toNatClampNeg mo_7) x2 hc_1 hP hD hS (lv_sub hl [0] rfl) hf
  unfold f_X1_by at hf
  refine lv_aload_n hx hb dX1_by_0 rfl (lv_at hl 0 rfl) ?_
  refine lv_aload_n hx hb dX1_by_1 rfl (lv_at hl 1 rfl) ?_
  obtain ⟨r_10, hq_11, hf⟩ := ob1_some hf
  refine vm_cVi (isC := [0, 5, 6, 7]) (wc := (wd_X1_isOf Γ q0 q5 q6 q7 q1 q2 q3 q8 q4 d0 d1 columns rows numbers p1_columns p1_rows p1_numbers)) (w1 := (wd_X1_isOf Γ q0 q5 q6 q7 q1 q2 q3 q8 q4 d0 d1 columns rows numbers p1_columns p1_rows p1_numbers)) (As := [.ref q6]) (rest := []) ⟨hx, hb, hml, hown, hts⟩ hE hP hD hS hA rfl rfl rfl (c_X1_isOf l Γ _ q0 q5 q6 q7 q1 q2 q3 q8 q4 d0 d1 columns rows numbers p1_columns p1_rows p1_numbers r_10 hq_11) (cwV 1 hts gX1_by_X1_isOf rfl rfl rfl (by decide +kernel) ⟨Nat.le_of_ble_eq_true rfl, Nat.le_of_ble_eq_true rfl⟩) (va_recv (ci := 1) (q0 := 0) hK hP rfl rfl) rfl hl.1 rfl (Nat.le_of_ble_eq_true rfl) dX1_by_2 ⟨Nat.zero_le _, Nat.zero_le _⟩ (fun H locs hP hD hS => ?_)
  have hP : va_P Γ.1 vwCl (wd_X1_by Γ q0 q1 q2 q3 q4 q5 q6 q7 q8 d0 d1 columns rows heights speeds lowest isKnown numbers p1_columns p1_rows p1_numbers rad mo) H := hP
  have hD : va_D A (wd_X1_by Γ q0 q1 q2 q3 q4 q5 q6 q7 q8 d0 d1 columns rows heights speeds lowest isKnown numbers p1_columns p1_rows p1_numbers rad mo) := hD
  refine lv_if_ne (tgt := 13) hx hb dX1_by_5 (by decide) (fun hc_12 => ?_) (fun hc_12 => ?_)
  · have hf := vm_neg hc_12 hf
    exact K_13 columns rows heights speeds lowest isKnown numbers mo hP hD hS (lv_sub hl [0, 1, 2] rfl) hf
  · have hf := vm_pos hc_12 hf
    refine lv_aload_n hx hb dX1_by_8 rfl (lv_at hl 0 rfl) ?_
    refine lv_aload_n hx hb dX1_by_9 rfl (lv_at hl 1 rfl) ?_
    obtain ⟨columns_13, rows_14, isKnown_15, numbers_16, hq_17, hf⟩ := ob4_some hf
    refine vm_cVv (isC := [0, 4, 5, 6, 7]) (wc := (wd_X1_become Γ q0 q4 q5 q6 q7 q1 q2 q3 q8 d0 d1 columns rows isKnown numbers p1_columns p1_rows p1_numbers)) (w1 := (wd_X1_become Γ q0 q4 q5 q6 q7 q1 q2 q3 q8 d0 d1 columns_13 rows_14 isKnown_15 numbers_16 p1_columns p1_rows p1_numbers)) (As := [.ref q6]) (rest := []) ⟨hx, hb, hml, hown, hts⟩ hE hP hD hS hA rfl rfl rfl (c_X1_become l Γ _ q0 q4 q5 q6 q7 q1 q2 q3 q8 d0 d1 columns rows isKnown numbers p1_columns p1_rows p1_numbers columns_13 rows_14 isKnown_15 numbers_16 hq_17) (cwV 1 hts gX1_by_X1_become rfl rfl rfl (by decide +kernel) ⟨Nat.le_of_ble_eq_true rfl, Nat.le_of_ble_eq_true rfl⟩) (va_recv (ci := 1) (q0 := 0) hK hP rfl rfl) rfl hl.1 rfl (Nat.le_of_ble_eq_true rfl) dX1_by_10 ⟨Nat.zero_le _, Nat.zero_le _⟩ (fun H locs hP hD hS => ?_)
    have hP : va_P Γ.1 vwCl (wd_X1_by Γ q0 q1 q2 q3 q4 q5 q6 q7 q8 d0 d1 columns_13 rows_14 heights speeds lowest isKnown_15 numbers_16 p1_columns p1_rows p1_numbers rad mo) H := hP
    have hD : va_D A (wd_X1_by Γ q0 q1 q2 q3 q4 q5 q6 q7 q8 d0 d1 columns_13 rows_14 heights speeds lowest isKnown_15 numbers_16 p1_columns p1_rows p1_numbers rad mo) := hD
    exact K_13 columns_13 rows_14 heights speeds lowest isKnown_15 numbers_16 mo hP hD hS (lv_sub hl [0, 1, 2] rfl) hf
