/-! calls, by contract: the callee's cells are cut out of the world, and put back behind it -/
theorem vm_at {ws wc : va_W} {is : List Nat} (hC : is.map (fun i => ws[i]?) = wc.map some) (k : Nat) (q : Nat × va_E) (hk : wc[k]? = some q) : ∃ i : Nat, is[k]? = some i ∧ ws[i]? = some q := by
  have h := congrArg (fun l => l[k]?) hC
  simp only [List.getElem?_map, hk, Option.map_some] at h
  cases hi : is[k]? with
  | none => rw [hi] at h; cases h
  | some i =>
    rw [hi] at h
    exact ⟨i, rfl, Option.some.inj h⟩
theorem vm_puts_get : ∀ (is : List Nat) (w1 ws : va_W) (k : Nat) (q : Nat × va_E), is.length = w1.length → (vm_puts ws is w1)[k]? = some q → (∃ j : Nat, is[j]? = some k ∧ w1[j]? = some q) ∨ (k ∉ is ∧ ws[k]? = some q)
  | [], _, ws, k, q, _, h => by
    refine Or.inr ⟨List.not_mem_nil, ?_⟩
    simpa [vm_puts] using h
  | i :: is, [], ws, k, q, hl, h => by simp at hl
  | i :: is, x :: xs, ws, k, q, hl, h => by
    have hl2 : is.length = xs.length := by simpa using hl
    rcases vm_puts_get is xs (ws.set i x) k q hl2 h with ⟨j, h1, h2⟩ | ⟨h1, h2⟩
    · exact Or.inl ⟨j + 1, by simpa using h1, by simpa using h2⟩
    · by_cases e : i = k
      · subst e
        have hlt : i < ws.length := by
          rcases Nat.lt_or_ge i ws.length with q | q
          · exact q
          · rw [List.getElem?_eq_none (by simpa using q)] at h2; cases h2
        rw [List.getElem?_set_self hlt] at h2
        exact Or.inl ⟨0, rfl, h2⟩
      · rw [List.getElem?_set_ne e] at h2
        exact Or.inr ⟨fun hm => by rcases List.mem_cons.mp hm with q | q; exact e q.symm; exact h1 q, h2⟩
theorem vm_after {Γ : GE} {A : Nat → Prop} {ws wc w1 : va_W} {H H1 : Heap} {isC : List Nat} (hP : va_P Γ.1 vwCl ws H) (hD : va_D A ws) (hC : isC.map (fun i => ws[i]?) = wc.map some) (hl : isC.length = w1.length) (hF : ∀ q, va_A wc H.size q → A q) (hk : ∀ q : Nat, q < H.size → ¬ va_A wc H.size q → H1[q]? = H[q]?) (hP1 : va_P Γ.1 vwCl w1 H1) (hD1 : va_D (va_A wc H.size) w1) : va_P Γ.1 vwCl (vm_puts ws isC w1) H1 ∧ va_D A (vm_puts ws isC w1) := by
  have out : ∀ (k : Nat) (q : Nat × va_E), k ∉ isC → ws[k]? = some q → ¬ va_A wc H.size q.1 := by
    intro k q h2 h3
    rintro (⟨j, e, hj⟩ | hge)
    · obtain ⟨i, hi, hw⟩ := vm_at hC j _ hj
      have := hD.1 k i q _ h3 hw rfl
      subst this
      exact h2 (List.mem_of_getElem? hi)
    · exact absurd (hP k q h3).lt (Nat.not_lt.mpr hge)
  refine ⟨fun k q hq => ?_, fun i j x y hi hj e => ?_, fun k q hq => ?_⟩
  · rcases vm_puts_get isC w1 ws k q hl hq with ⟨j, -, h2⟩ | ⟨h2, h3⟩
    · exact hP1 j q h2
    · exact (hP k q h3).kept (hk q.1 (hP k q h3).lt (out k q h2 h3))
  · rcases vm_puts_get isC w1 ws i x hl hi with ⟨j1, h1, h2⟩ | ⟨h1, h2⟩ <;> rcases vm_puts_get isC w1 ws j y hl hj with ⟨j2, h3, h4⟩ | ⟨h3, h4⟩
    · have := hD1.1 j1 j2 x y h2 h4 e
      subst this
      exact Option.some.inj (h1.symm.trans h3)
    · exact absurd (e ▸ hD1.2 j1 x h2) (out j y h3 h4)
    · exact absurd (e ▸ hD1.2 j2 y h4) (out i x h1 h2)
    · exact hD.1 i j x y h2 h4 e
  · rcases vm_puts_get isC w1 ws k q hl hq with ⟨j, -, h2⟩ | ⟨h2, h3⟩
    · exact hF _ (hD1.2 j q h2)
    · exact hD.2 k q h3
theorem vm_pre {Γ : GE} {A : Nat → Prop} {s : State} {H : Heap} {locs : List Loc} {ws wc : va_W} {isC : List Nat} (hE : EV Γ A s) (hP : va_P Γ.1 vwCl ws H) (hD : va_D A ws) (hS : va_S A s.heap H locs) (hA : ∀ q, s.heap.size ≤ q → A q) (hC : isC.map (fun i => ws[i]?) = wc.map some) (hn : va_nd isC = true) : (∀ q, va_A wc H.size q → A q) ∧ ∀ U : State, U.heap = H → s.WarmedH U.vm → CP Γ wc H.size U := by
  have hF := va_free hD hS hA isC hC
  refine ⟨hF, fun U hU hW => ⟨by rw [hU], hE.call hS hU hW hF, ?_, (hD.sub isC hn hC).self⟩⟩
  rw [hU]
  intro k q hk
  obtain ⟨i, -, hi⟩ := vm_at hC k q hk
  exact hP i q hi
theorem CP.blind {Γ : GE} {ws : va_W} {sz : Nat} {av : List Value} : FrameBlind (va_Pc av (CP Γ ws sz)) := fun _ _ _ _ q => ⟨q.1, q.2.1, q.2.2.1.blind, q.2.2.2.1, q.2.2.2.2⟩
section VMC
variable {p : Program} {l : Launch} {e : Env} {R : Room} {s : State} {m : MethodId} {args : Array Value} {below : List Frame} {meth : Method} {c : Code} {H : Heap} {locs : List Loc} {cells slots : Nat} {Q : State → Prop}
variable {y : MethodName} {bytes cc : ByteArray} {maxL nL n index pc : Nat} {ret : Option FieldType} {wsc : List Cond} {rm : Room} {Ts : List Cond} {own C host : String} {b : Nat} {As rest st0 : List Value} {ls : Array Slot} {Γ : GE} {A : Nat → Prop} {ws wc w1 : va_W} {isC : List Nat}
theorem vm_cVi {r : Int32} (S : CallFix p m c cc nL s args Ts own) (hE : EV Γ A s) (hP : va_P Γ.1 vwCl ws H) (hD : va_D A ws) (hS : va_S A s.heap H locs) (hA : ∀ q, s.heap.size ≤ q → A q) (hC : isC.map (fun i => ws[i]?) = wc.map some) (hnd : va_nd isC = true) (h1 : isC.length = w1.length)
    (hM : MetI l y wsc rm Γ (.ref b :: As) wc w1 H.size r) (cw : CallW R s args own C index y bytes maxL ret wsc rm 0 0 n) (hrv : ∃ cell : Cell, H[b]? = some cell ∧ cell.vm.isStatics = false ∧ s.vm.findClass C = some cell.cls) (hn : As.length = n) (hsz : ls.size = nL) (hst : st0 = As.reverse ++ .ref b :: rest) (hroom : (rest.map fun v => v.category).sum ≤ 8) (hdg : decode cc pc = .ok (.invokevirtual index, 3)) (hcap : cells ≤ R.cells ∧ slots ≤ R.slots)
    (kk : ∀ (H1 : Heap) (locs1 : List Loc), va_P Γ.1 vwCl (vm_puts ws isC w1) H1 → va_D A (vm_puts ws isC w1) → va_S A s.heap H1 locs1 → W p l e R s m args below meth c H1 locs1 cells slots Q (F0 m (pc + 3) ls (.int r :: rest))) : W p l e R s m args below meth c H locs cells slots Q (F0 m pc ls st0) := by
  obtain ⟨hF, hU⟩ := vm_pre hE hP hD hS hA hC hnd
  subst hst
  refine va_calli (va_runV (As := As) (rest := rest) S hM cw ⟨CP.blind, hrv, fun U a b => ⟨rfl, hU U a b⟩⟩ rfl hn hsz rfl (lv_room hroom) hdg hcap) hS (fun q _ h => hF q h) hF (fun r' u t H1 locs ht hvm hw hB hz1 hk1 hS => ?_)
  subst hw
  obtain ⟨hP1, hD1⟩ := hB
  rw [ht] at hP1
  obtain ⟨hP2, hD2⟩ := vm_after hP hD hC h1 hF hk1 hP1 hD1
  exact kk H1 locs hP2 hD2 hS
theorem vm_cVv (S : CallFix p m c cc nL s args Ts own) (hE : EV Γ A s) (hP : va_P Γ.1 vwCl ws H) (hD : va_D A ws) (hS : va_S A s.heap H locs) (hA : ∀ q, s.heap.size ≤ q → A q) (hC : isC.map (fun i => ws[i]?) = wc.map some) (hnd : va_nd isC = true) (h1 : isC.length = w1.length)
    (hM : MetV l y wsc rm Γ (.ref b :: As) wc w1 H.size) (cw : CallW R s args own C index y bytes maxL ret wsc rm 0 0 n) (hrv : ∃ cell : Cell, H[b]? = some cell ∧ cell.vm.isStatics = false ∧ s.vm.findClass C = some cell.cls) (hn : As.length = n) (hsz : ls.size = nL) (hst : st0 = As.reverse ++ .ref b :: rest) (hroom : (rest.map fun v => v.category).sum ≤ 8) (hdg : decode cc pc = .ok (.invokevirtual index, 3)) (hcap : cells ≤ R.cells ∧ slots ≤ R.slots)
    (kk : ∀ (H1 : Heap) (locs1 : List Loc), va_P Γ.1 vwCl (vm_puts ws isC w1) H1 → va_D A (vm_puts ws isC w1) → va_S A s.heap H1 locs1 → W p l e R s m args below meth c H1 locs1 cells slots Q (F0 m (pc + 3) ls rest)) : W p l e R s m args below meth c H locs cells slots Q (F0 m pc ls st0) := by
  obtain ⟨hF, hU⟩ := vm_pre hE hP hD hS hA hC hnd
  subst hst
  refine va_callv (va_runV (As := As) (rest := rest) S hM cw ⟨CP.blind, hrv, fun U a b => ⟨rfl, hU U a b⟩⟩ rfl hn hsz rfl (lv_room hroom) hdg hcap) hS (fun q _ h => hF q h) hF (fun u t H1 locs ht hvm hw hB hz1 hk1 hS => ?_)
  obtain ⟨hP1, hD1⟩ := hB
  rw [ht] at hP1
  obtain ⟨hP2, hD2⟩ := vm_after hP hD hC h1 hF hk1 hP1 hD1
  exact kk H1 locs hP2 hD2 hS
theorem vm_cVr {r : Nat} (S : CallFix p m c cc nL s args Ts own) (hE : EV Γ A s) (hP : va_P Γ.1 vwCl ws H) (hD : va_D A ws) (hS : va_S A s.heap H locs) (hA : ∀ q, s.heap.size ≤ q → A q) (hC : isC.map (fun i => ws[i]?) = wc.map some) (hnd : va_nd isC = true) (h1 : isC.length = w1.length)
    (hM : MetR l y wsc rm Γ (.ref b :: As) wc w1 H.size r) (cw : CallW R s args own C index y bytes maxL ret wsc rm 0 0 n) (hrv : ∃ cell : Cell, H[b]? = some cell ∧ cell.vm.isStatics = false ∧ s.vm.findClass C = some cell.cls) (hn : As.length = n) (hsz : ls.size = nL) (hst : st0 = As.reverse ++ .ref b :: rest) (hroom : (rest.map fun v => v.category).sum ≤ 8) (hdg : decode cc pc = .ok (.invokevirtual index, 3)) (hcap : cells ≤ R.cells ∧ slots ≤ R.slots)
    (kk : ∀ (H1 : Heap) (locs1 : List Loc), va_P Γ.1 vwCl (vm_puts ws isC w1) H1 → va_D A (vm_puts ws isC w1) → va_S A s.heap H1 locs1 → W p l e R s m args below meth c H1 locs1 cells slots Q (F0 m (pc + 3) ls (.ref r :: rest))) : W p l e R s m args below meth c H locs cells slots Q (F0 m pc ls st0) := by
  obtain ⟨hF, hU⟩ := vm_pre hE hP hD hS hA hC hnd
  subst hst
  refine va_callr (va_runV (As := As) (rest := rest) S hM cw ⟨CP.blind, hrv, fun U a b => ⟨rfl, hU U a b⟩⟩ rfl hn hsz rfl (lv_room hroom) hdg hcap) hS (fun q _ h => hF q h) hF (fun u ra t H1 locs ht hvm hw hB hz1 hk1 hS => ?_)
  obtain ⟨hra, hP1, hD1⟩ := hB
  subst hra
  rw [ht] at hP1
  obtain ⟨hP2, hD2⟩ := vm_after hP hD hC h1 hF hk1 hP1 hD1
  exact kk H1 locs hP2 hD2 hS
theorem vm_cNi {r : Int32} (S : CallFix p m c cc nL s args Ts own) (hE : EV Γ A s) (hP : va_P Γ.1 vwCl ws H) (hD : va_D A ws) (hS : va_S A s.heap H locs) (hA : ∀ q, s.heap.size ≤ q → A q) (hC : isC.map (fun i => ws[i]?) = wc.map some) (hnd : va_nd isC = true) (h1 : isC.length = w1.length)
    (hM : MetI l y wsc rm Γ (.ref b :: As) wc w1 H.size r) (cw : va_CN R s args own index y host bytes maxL ret wsc rm 0 0 n ∧ (Cond.instanceMethod y).before args s = true ∧ (Cond.selects C y y).before args s = true) (hrv : ∃ cell : Cell, H[b]? = some cell ∧ cell.vm.isStatics = false ∧ s.vm.findClass C = some cell.cls) (hn : As.length = n) (hsz : ls.size = nL) (hst : st0 = As.reverse ++ .ref b :: rest) (hroom : (rest.map fun v => v.category).sum ≤ 8) (hdg : decode cc pc = .ok (.invokevirtual index, 3)) (hcap : cells ≤ R.cells ∧ slots ≤ R.slots)
    (kk : ∀ (H1 : Heap) (locs1 : List Loc), va_P Γ.1 vwCl (vm_puts ws isC w1) H1 → va_D A (vm_puts ws isC w1) → va_S A s.heap H1 locs1 → W p l e R s m args below meth c H1 locs1 cells slots Q (F0 m (pc + 3) ls (.int r :: rest))) : W p l e R s m args below meth c H locs cells slots Q (F0 m pc ls st0) := by
  obtain ⟨hF, hU⟩ := vm_pre hE hP hD hS hA hC hnd
  subst hst
  refine va_calli (va_runVN (As := As) (rest := rest) S hM cw ⟨CP.blind, hrv, fun U a b => ⟨rfl, hU U a b⟩⟩ rfl hn hsz rfl (lv_room hroom) hdg hcap) hS (fun q _ h => hF q h) hF (fun r' u t H1 locs ht hvm hw hB hz1 hk1 hS => ?_)
  subst hw
  obtain ⟨hP1, hD1⟩ := hB
  rw [ht] at hP1
  obtain ⟨hP2, hD2⟩ := vm_after hP hD hC h1 hF hk1 hP1 hD1
  exact kk H1 locs hP2 hD2 hS
theorem vm_cNv (S : CallFix p m c cc nL s args Ts own) (hE : EV Γ A s) (hP : va_P Γ.1 vwCl ws H) (hD : va_D A ws) (hS : va_S A s.heap H locs) (hA : ∀ q, s.heap.size ≤ q → A q) (hC : isC.map (fun i => ws[i]?) = wc.map some) (hnd : va_nd isC = true) (h1 : isC.length = w1.length)
    (hM : MetV l y wsc rm Γ (.ref b :: As) wc w1 H.size) (cw : va_CN R s args own index y host bytes maxL ret wsc rm 0 0 n ∧ (Cond.instanceMethod y).before args s = true ∧ (Cond.selects C y y).before args s = true) (hrv : ∃ cell : Cell, H[b]? = some cell ∧ cell.vm.isStatics = false ∧ s.vm.findClass C = some cell.cls) (hn : As.length = n) (hsz : ls.size = nL) (hst : st0 = As.reverse ++ .ref b :: rest) (hroom : (rest.map fun v => v.category).sum ≤ 8) (hdg : decode cc pc = .ok (.invokevirtual index, 3)) (hcap : cells ≤ R.cells ∧ slots ≤ R.slots)
    (kk : ∀ (H1 : Heap) (locs1 : List Loc), va_P Γ.1 vwCl (vm_puts ws isC w1) H1 → va_D A (vm_puts ws isC w1) → va_S A s.heap H1 locs1 → W p l e R s m args below meth c H1 locs1 cells slots Q (F0 m (pc + 3) ls rest)) : W p l e R s m args below meth c H locs cells slots Q (F0 m pc ls st0) := by
  obtain ⟨hF, hU⟩ := vm_pre hE hP hD hS hA hC hnd
  subst hst
  refine va_callv (va_runVN (As := As) (rest := rest) S hM cw ⟨CP.blind, hrv, fun U a b => ⟨rfl, hU U a b⟩⟩ rfl hn hsz rfl (lv_room hroom) hdg hcap) hS (fun q _ h => hF q h) hF (fun u t H1 locs ht hvm hw hB hz1 hk1 hS => ?_)
  obtain ⟨hP1, hD1⟩ := hB
  rw [ht] at hP1
  obtain ⟨hP2, hD2⟩ := vm_after hP hD hC h1 hF hk1 hP1 hD1
  exact kk H1 locs hP2 hD2 hS
theorem vm_cNr {r : Nat} (S : CallFix p m c cc nL s args Ts own) (hE : EV Γ A s) (hP : va_P Γ.1 vwCl ws H) (hD : va_D A ws) (hS : va_S A s.heap H locs) (hA : ∀ q, s.heap.size ≤ q → A q) (hC : isC.map (fun i => ws[i]?) = wc.map some) (hnd : va_nd isC = true) (h1 : isC.length = w1.length)
    (hM : MetR l y wsc rm Γ (.ref b :: As) wc w1 H.size r) (cw : va_CN R s args own index y host bytes maxL ret wsc rm 0 0 n ∧ (Cond.instanceMethod y).before args s = true ∧ (Cond.selects C y y).before args s = true) (hrv : ∃ cell : Cell, H[b]? = some cell ∧ cell.vm.isStatics = false ∧ s.vm.findClass C = some cell.cls) (hn : As.length = n) (hsz : ls.size = nL) (hst : st0 = As.reverse ++ .ref b :: rest) (hroom : (rest.map fun v => v.category).sum ≤ 8) (hdg : decode cc pc = .ok (.invokevirtual index, 3)) (hcap : cells ≤ R.cells ∧ slots ≤ R.slots)
    (kk : ∀ (H1 : Heap) (locs1 : List Loc), va_P Γ.1 vwCl (vm_puts ws isC w1) H1 → va_D A (vm_puts ws isC w1) → va_S A s.heap H1 locs1 → W p l e R s m args below meth c H1 locs1 cells slots Q (F0 m (pc + 3) ls (.ref r :: rest))) : W p l e R s m args below meth c H locs cells slots Q (F0 m pc ls st0) := by
  obtain ⟨hF, hU⟩ := vm_pre hE hP hD hS hA hC hnd
  subst hst
  refine va_callr (va_runVN (As := As) (rest := rest) S hM cw ⟨CP.blind, hrv, fun U a b => ⟨rfl, hU U a b⟩⟩ rfl hn hsz rfl (lv_room hroom) hdg hcap) hS (fun q _ h => hF q h) hF (fun u ra t H1 locs ht hvm hw hB hz1 hk1 hS => ?_)
  obtain ⟨hra, hP1, hD1⟩ := hB
  subst hra
  rw [ht] at hP1
  obtain ⟨hP2, hD2⟩ := vm_after hP hD hC h1 hF hk1 hP1 hD1
  exact kk H1 locs hP2 hD2 hS
theorem vm_cSi {r : Int32} (S : CallFix p m c cc nL s args Ts own) (hE : EV Γ A s) (hP : va_P Γ.1 vwCl ws H) (hD : va_D A ws) (hS : va_S A s.heap H locs) (hA : ∀ q, s.heap.size ≤ q → A q) (hC : isC.map (fun i => ws[i]?) = wc.map some) (hnd : va_nd isC = true) (h1 : isC.length = w1.length)
    (hM : MetI l y wsc rm Γ As wc w1 H.size r) (cw : CallB R s args own index y bytes maxL ret wsc rm 0 0 n ∧ (Cond.static y).before args s = true) (hn : As.length = n) (hsz : ls.size = nL) (hst : st0 = As.reverse ++ rest) (hroom : (rest.map fun v => v.category).sum ≤ 8) (hdg : decode cc pc = .ok (.invokestatic index, 3)) (hcap : cells ≤ R.cells ∧ slots ≤ R.slots)
    (kk : ∀ (H1 : Heap) (locs1 : List Loc), va_P Γ.1 vwCl (vm_puts ws isC w1) H1 → va_D A (vm_puts ws isC w1) → va_S A s.heap H1 locs1 → W p l e R s m args below meth c H1 locs1 cells slots Q (F0 m (pc + 3) ls (.int r :: rest))) : W p l e R s m args below meth c H locs cells slots Q (F0 m pc ls st0) := by
  obtain ⟨hF, hU⟩ := vm_pre hE hP hD hS hA hC hnd
  subst hst
  refine va_calli (va_runS (As := As) (rest := rest) S hM cw ⟨CP.blind, fun U a b => ⟨rfl, hU U a b⟩⟩ rfl hn hsz rfl (lv_room hroom) hdg hcap) hS (fun q _ h => hF q h) hF (fun r' u t H1 locs ht hvm hw hB hz1 hk1 hS => ?_)
  subst hw
  obtain ⟨hP1, hD1⟩ := hB
  rw [ht] at hP1
  obtain ⟨hP2, hD2⟩ := vm_after hP hD hC h1 hF hk1 hP1 hD1
  exact kk H1 locs hP2 hD2 hS
theorem vm_cSl {r : Int64} (S : CallFix p m c cc nL s args Ts own) (hE : EV Γ A s) (hP : va_P Γ.1 vwCl ws H) (hD : va_D A ws) (hS : va_S A s.heap H locs) (hA : ∀ q, s.heap.size ≤ q → A q) (hC : isC.map (fun i => ws[i]?) = wc.map some) (hnd : va_nd isC = true) (h1 : isC.length = w1.length)
    (hM : MetL l y wsc rm Γ As wc w1 H.size r) (cw : CallB R s args own index y bytes maxL ret wsc rm 0 0 n ∧ (Cond.static y).before args s = true) (hn : As.length = n) (hsz : ls.size = nL) (hst : st0 = As.reverse ++ rest) (hroom : (rest.map fun v => v.category).sum ≤ 8) (hdg : decode cc pc = .ok (.invokestatic index, 3)) (hcap : cells ≤ R.cells ∧ slots ≤ R.slots)
    (kk : ∀ (H1 : Heap) (locs1 : List Loc), va_P Γ.1 vwCl (vm_puts ws isC w1) H1 → va_D A (vm_puts ws isC w1) → va_S A s.heap H1 locs1 → W p l e R s m args below meth c H1 locs1 cells slots Q (F0 m (pc + 3) ls (.long r :: rest))) : W p l e R s m args below meth c H locs cells slots Q (F0 m pc ls st0) := by
  obtain ⟨hF, hU⟩ := vm_pre hE hP hD hS hA hC hnd
  subst hst
  refine va_calll (va_runS (As := As) (rest := rest) S hM cw ⟨CP.blind, fun U a b => ⟨rfl, hU U a b⟩⟩ rfl hn hsz rfl (lv_room hroom) hdg hcap) hS (fun q _ h => hF q h) hF (fun r' u t H1 locs ht hvm hw hB hz1 hk1 hS => ?_)
  subst hw
  obtain ⟨hP1, hD1⟩ := hB
  rw [ht] at hP1
  obtain ⟨hP2, hD2⟩ := vm_after hP hD hC h1 hF hk1 hP1 hD1
  exact kk H1 locs hP2 hD2 hS
theorem vm_cSv (S : CallFix p m c cc nL s args Ts own) (hE : EV Γ A s) (hP : va_P Γ.1 vwCl ws H) (hD : va_D A ws) (hS : va_S A s.heap H locs) (hA : ∀ q, s.heap.size ≤ q → A q) (hC : isC.map (fun i => ws[i]?) = wc.map some) (hnd : va_nd isC = true) (h1 : isC.length = w1.length)
    (hM : MetV l y wsc rm Γ As wc w1 H.size) (cw : CallB R s args own index y bytes maxL ret wsc rm 0 0 n ∧ (Cond.static y).before args s = true) (hn : As.length = n) (hsz : ls.size = nL) (hst : st0 = As.reverse ++ rest) (hroom : (rest.map fun v => v.category).sum ≤ 8) (hdg : decode cc pc = .ok (.invokestatic index, 3)) (hcap : cells ≤ R.cells ∧ slots ≤ R.slots)
    (kk : ∀ (H1 : Heap) (locs1 : List Loc), va_P Γ.1 vwCl (vm_puts ws isC w1) H1 → va_D A (vm_puts ws isC w1) → va_S A s.heap H1 locs1 → W p l e R s m args below meth c H1 locs1 cells slots Q (F0 m (pc + 3) ls rest)) : W p l e R s m args below meth c H locs cells slots Q (F0 m pc ls st0) := by
  obtain ⟨hF, hU⟩ := vm_pre hE hP hD hS hA hC hnd
  subst hst
  refine va_callv (va_runS (As := As) (rest := rest) S hM cw ⟨CP.blind, fun U a b => ⟨rfl, hU U a b⟩⟩ rfl hn hsz rfl (lv_room hroom) hdg hcap) hS (fun q _ h => hF q h) hF (fun u t H1 locs ht hvm hw hB hz1 hk1 hS => ?_)
  obtain ⟨hP1, hD1⟩ := hB
  rw [ht] at hP1
  obtain ⟨hP2, hD2⟩ := vm_after hP hD hC h1 hF hk1 hP1 hD1
  exact kk H1 locs hP2 hD2 hS
theorem vm_cSr {r : Nat} (S : CallFix p m c cc nL s args Ts own) (hE : EV Γ A s) (hP : va_P Γ.1 vwCl ws H) (hD : va_D A ws) (hS : va_S A s.heap H locs) (hA : ∀ q, s.heap.size ≤ q → A q) (hC : isC.map (fun i => ws[i]?) = wc.map some) (hnd : va_nd isC = true) (h1 : isC.length = w1.length)
    (hM : MetR l y wsc rm Γ As wc w1 H.size r) (cw : CallB R s args own index y bytes maxL ret wsc rm 0 0 n ∧ (Cond.static y).before args s = true) (hn : As.length = n) (hsz : ls.size = nL) (hst : st0 = As.reverse ++ rest) (hroom : (rest.map fun v => v.category).sum ≤ 8) (hdg : decode cc pc = .ok (.invokestatic index, 3)) (hcap : cells ≤ R.cells ∧ slots ≤ R.slots)
    (kk : ∀ (H1 : Heap) (locs1 : List Loc), va_P Γ.1 vwCl (vm_puts ws isC w1) H1 → va_D A (vm_puts ws isC w1) → va_S A s.heap H1 locs1 → W p l e R s m args below meth c H1 locs1 cells slots Q (F0 m (pc + 3) ls (.ref r :: rest))) : W p l e R s m args below meth c H locs cells slots Q (F0 m pc ls st0) := by
  obtain ⟨hF, hU⟩ := vm_pre hE hP hD hS hA hC hnd
  subst hst
  refine va_callr (va_runS (As := As) (rest := rest) S hM cw ⟨CP.blind, fun U a b => ⟨rfl, hU U a b⟩⟩ rfl hn hsz rfl (lv_room hroom) hdg hcap) hS (fun q _ h => hF q h) hF (fun u ra t H1 locs ht hvm hw hB hz1 hk1 hS => ?_)
  obtain ⟨hra, hP1, hD1⟩ := hB
  subst hra
  rw [ht] at hP1
  obtain ⟨hP2, hD2⟩ := vm_after hP hD hC h1 hF hk1 hP1 hD1
  exact kk H1 locs hP2 hD2 hS
end VMC
