/-! calls over large worlds: the world behind the call is told place by place -/
def vm_ix (k : Nat) : List Nat → Nat → Option Nat
  | [], _ => none
  | a :: l, j => if a = k then some j else vm_ix k l (j + 1)
theorem vm_ix_some {k : Nat} : ∀ (l : List Nat) (j i : Nat), vm_ix k l j = some i → ∃ d, i = j + d ∧ l[d]? = some k
  | [], j, i, h => by cases h
  | a :: l, j, i, h => by
    unfold vm_ix at h
    by_cases e : a = k
    · rw [if_pos e] at h
      cases h
      exact ⟨0, rfl, by simp [e]⟩
    · rw [if_neg e] at h
      obtain ⟨d, h1, h2⟩ := vm_ix_some l (j + 1) i h
      exact ⟨d + 1, by omega, by simpa using h2⟩
theorem vm_ix_none {k : Nat} : ∀ (l : List Nat) (j : Nat), vm_ix k l j = none → k ∉ l
  | [], j, _ => List.not_mem_nil
  | a :: l, j, h => by
    unfold vm_ix at h
    by_cases e : a = k
    · rw [if_pos e] at h; cases h
    · rw [if_neg e] at h
      intro hm
      rcases List.mem_cons.mp hm with q | q
      · exact e q.symm
      · exact vm_ix_none l (j + 1) h q
def vm_lay (n : Nat) (isC : List Nat) (w1 ws : va_W) : List (Option (Nat × va_E)) := (List.range n).map (fun k => match vm_ix k isC 0 with | some j => w1[j]? | none => ws[k]?)
theorem vm_lay_get {n : Nat} {isC : List Nat} {w1 ws W' : va_W} (hW : W'.map some = vm_lay n isC w1 ws) (k : Nat) (q : Nat × va_E) (hk : W'[k]? = some q) : (∃ j : Nat, isC[j]? = some k ∧ w1[j]? = some q) ∨ (k ∉ isC ∧ ws[k]? = some q) := by
  have h := congrArg (fun l => l[k]?) hW
  simp only [List.getElem?_map, hk, Option.map_some, vm_lay] at h
  by_cases hn : k < n
  · rw [List.getElem?_range hn] at h
    simp only [Option.map_some] at h
    have h := Option.some.inj h
    cases hx : vm_ix k isC 0 with
    | some j =>
      rw [hx] at h
      obtain ⟨d, h1, h2⟩ := vm_ix_some isC 0 j hx
      have e : j = d := by omega
      subst e
      exact Or.inl ⟨j, h2, h.symm⟩
    | none =>
      rw [hx] at h
      exact Or.inr ⟨vm_ix_none isC 0 hx, h.symm⟩
  · have hz : (List.range n)[k]? = none := List.getElem?_eq_none (by rw [List.length_range]; omega)
    rw [hz] at h
    cases h
theorem vm_after2 {Γ : GE} {A : Nat → Prop} {ws wc w1 W' : va_W} {H H1 : Heap} {isC : List Nat} {N : Nat} (hP : va_P Γ.1 vwCl ws H) (hD : va_D A ws) (hC : isC.map (fun i => ws[i]?) = wc.map some) (hW : W'.map some = vm_lay N isC w1 ws) (hn : va_nd isC = true) (hF : ∀ q, va_A wc H.size q → A q) (hk : ∀ q : Nat, q < H.size → ¬ va_A wc H.size q → H1[q]? = H[q]?) (hP1 : va_P Γ.1 vwCl w1 H1) (hD1 : va_D (va_A wc H.size) w1) : va_P Γ.1 vwCl W' H1 ∧ va_D A W' := by
  have out : ∀ (k : Nat) (q : Nat × va_E), k ∉ isC → ws[k]? = some q → ¬ va_A wc H.size q.1 := by
    intro k q h2 h3
    rintro (⟨j, e, hj⟩ | hge)
    · obtain ⟨i, hi, hw⟩ := vm_at hC j _ hj
      have := hD.1 k i q _ h3 hw rfl
      subst this
      exact h2 (List.mem_of_getElem? hi)
    · exact absurd (hP k q h3).lt (Nat.not_lt.mpr hge)
  refine ⟨fun k q hq => ?_, fun i j x y hi hj e => ?_, fun k q hq => ?_⟩
  · rcases vm_lay_get hW k q hq with ⟨j, -, h2⟩ | ⟨h2, h3⟩
    · exact hP1 j q h2
    · exact (hP k q h3).kept (hk q.1 (hP k q h3).lt (out k q h2 h3))
  · rcases vm_lay_get hW i x hi with ⟨j1, h1, h2⟩ | ⟨h1, h2⟩ <;> rcases vm_lay_get hW j y hj with ⟨j2, h3, h4⟩ | ⟨h3, h4⟩
    · have := hD1.1 j1 j2 x y h2 h4 e
      subst this
      exact Option.some.inj (h1.symm.trans h3)
    · exact absurd (e ▸ hD1.2 j1 x h2) (out j y h3 h4)
    · exact absurd (e ▸ hD1.2 j2 y h4) (out i x h1 h2)
    · exact hD.1 i j x y h2 h4 e
  · rcases vm_lay_get hW k q hq with ⟨j, -, h2⟩ | ⟨h2, h3⟩
    · exact hF _ (hD1.2 j q h2)
    · exact hD.2 k q h3
section VMD
variable {p : Program} {l : Launch} {e : Env} {R : Room} {s : State} {m : MethodId} {args : Array Value} {below : List Frame} {meth : Method} {c : Code} {H : Heap} {locs : List Loc} {cells slots : Nat} {Q : State → Prop}
variable {y : MethodName} {bytes cc : ByteArray} {maxL nL n index pc : Nat} {ret : Option FieldType} {wsc : List Cond} {rm : Room} {Ts : List Cond} {own C host : String} {b : Nat} {As rest st0 : List Value} {ls : Array Slot} {Γ : GE} {A : Nat → Prop} {ws wc w1 W' : va_W} {N : Nat} {isC : List Nat}
theorem vm_dVi {r : Int32} (S : CallFix p m c cc nL s args Ts own) (hE : EV Γ A s) (hP : va_P Γ.1 vwCl ws H) (hD : va_D A ws) (hS : va_S A s.heap H locs) (hA : ∀ q, s.heap.size ≤ q → A q) (hC : isC.map (fun i => ws[i]?) = wc.map some) (hnd : va_nd isC = true) (hW : W'.map some = vm_lay N isC w1 ws)
    (hM : MetI l y wsc rm Γ (.ref b :: As) wc w1 H.size r) (cw : CallW R s args own C index y bytes maxL ret wsc rm 0 0 n) (hrv : ∃ cell : Cell, H[b]? = some cell ∧ cell.vm.isStatics = false ∧ s.vm.findClass C = some cell.cls) (hn : As.length = n) (hsz : ls.size = nL) (hst : st0 = As.reverse ++ .ref b :: rest) (hroom : (rest.map fun v => v.category).sum ≤ 8) (hdg : decode cc pc = .ok (.invokevirtual index, 3)) (hcap : cells ≤ R.cells ∧ slots ≤ R.slots)
    (kk : ∀ (H1 : Heap) (locs1 : List Loc), va_P Γ.1 vwCl W' H1 → va_D A W' → va_S A s.heap H1 locs1 → W p l e R s m args below meth c H1 locs1 cells slots Q (F0 m (pc + 3) ls (.int r :: rest))) : W p l e R s m args below meth c H locs cells slots Q (F0 m pc ls st0) := by
  obtain ⟨hF, hU⟩ := vm_pre hE hP hD hS hA hC hnd
  subst hst
  refine va_calli (va_runV (As := As) (rest := rest) S hM cw ⟨CP.blind, hrv, fun U a b => ⟨rfl, hU U a b⟩⟩ rfl hn hsz rfl (lv_room hroom) hdg hcap) hS (fun q _ h => hF q h) hF (fun r' u t H1 locs ht hvm hw hB hz1 hk1 hS => ?_)
  subst hw
  obtain ⟨hP1, hD1⟩ := hB
  rw [ht] at hP1
  obtain ⟨hP2, hD2⟩ := vm_after2 hP hD hC hW hnd hF hk1 hP1 hD1
  exact kk H1 locs hP2 hD2 hS
theorem vm_dVv (S : CallFix p m c cc nL s args Ts own) (hE : EV Γ A s) (hP : va_P Γ.1 vwCl ws H) (hD : va_D A ws) (hS : va_S A s.heap H locs) (hA : ∀ q, s.heap.size ≤ q → A q) (hC : isC.map (fun i => ws[i]?) = wc.map some) (hnd : va_nd isC = true) (hW : W'.map some = vm_lay N isC w1 ws)
    (hM : MetV l y wsc rm Γ (.ref b :: As) wc w1 H.size) (cw : CallW R s args own C index y bytes maxL ret wsc rm 0 0 n) (hrv : ∃ cell : Cell, H[b]? = some cell ∧ cell.vm.isStatics = false ∧ s.vm.findClass C = some cell.cls) (hn : As.length = n) (hsz : ls.size = nL) (hst : st0 = As.reverse ++ .ref b :: rest) (hroom : (rest.map fun v => v.category).sum ≤ 8) (hdg : decode cc pc = .ok (.invokevirtual index, 3)) (hcap : cells ≤ R.cells ∧ slots ≤ R.slots)
    (kk : ∀ (H1 : Heap) (locs1 : List Loc), va_P Γ.1 vwCl W' H1 → va_D A W' → va_S A s.heap H1 locs1 → W p l e R s m args below meth c H1 locs1 cells slots Q (F0 m (pc + 3) ls rest)) : W p l e R s m args below meth c H locs cells slots Q (F0 m pc ls st0) := by
  obtain ⟨hF, hU⟩ := vm_pre hE hP hD hS hA hC hnd
  subst hst
  refine va_callv (va_runV (As := As) (rest := rest) S hM cw ⟨CP.blind, hrv, fun U a b => ⟨rfl, hU U a b⟩⟩ rfl hn hsz rfl (lv_room hroom) hdg hcap) hS (fun q _ h => hF q h) hF (fun u t H1 locs ht hvm hw hB hz1 hk1 hS => ?_)
  obtain ⟨hP1, hD1⟩ := hB
  rw [ht] at hP1
  obtain ⟨hP2, hD2⟩ := vm_after2 hP hD hC hW hnd hF hk1 hP1 hD1
  exact kk H1 locs hP2 hD2 hS
theorem vm_dVr {r : Nat} (S : CallFix p m c cc nL s args Ts own) (hE : EV Γ A s) (hP : va_P Γ.1 vwCl ws H) (hD : va_D A ws) (hS : va_S A s.heap H locs) (hA : ∀ q, s.heap.size ≤ q → A q) (hC : isC.map (fun i => ws[i]?) = wc.map some) (hnd : va_nd isC = true) (hW : W'.map some = vm_lay N isC w1 ws)
    (hM : MetR l y wsc rm Γ (.ref b :: As) wc w1 H.size r) (cw : CallW R s args own C index y bytes maxL ret wsc rm 0 0 n) (hrv : ∃ cell : Cell, H[b]? = some cell ∧ cell.vm.isStatics = false ∧ s.vm.findClass C = some cell.cls) (hn : As.length = n) (hsz : ls.size = nL) (hst : st0 = As.reverse ++ .ref b :: rest) (hroom : (rest.map fun v => v.category).sum ≤ 8) (hdg : decode cc pc = .ok (.invokevirtual index, 3)) (hcap : cells ≤ R.cells ∧ slots ≤ R.slots)
    (kk : ∀ (H1 : Heap) (locs1 : List Loc), va_P Γ.1 vwCl W' H1 → va_D A W' → va_S A s.heap H1 locs1 → W p l e R s m args below meth c H1 locs1 cells slots Q (F0 m (pc + 3) ls (.ref r :: rest))) : W p l e R s m args below meth c H locs cells slots Q (F0 m pc ls st0) := by
  obtain ⟨hF, hU⟩ := vm_pre hE hP hD hS hA hC hnd
  subst hst
  refine va_callr (va_runV (As := As) (rest := rest) S hM cw ⟨CP.blind, hrv, fun U a b => ⟨rfl, hU U a b⟩⟩ rfl hn hsz rfl (lv_room hroom) hdg hcap) hS (fun q _ h => hF q h) hF (fun u ra t H1 locs ht hvm hw hB hz1 hk1 hS => ?_)
  obtain ⟨hra, hP1, hD1⟩ := hB
  subst hra
  rw [ht] at hP1
  obtain ⟨hP2, hD2⟩ := vm_after2 hP hD hC hW hnd hF hk1 hP1 hD1
  exact kk H1 locs hP2 hD2 hS
theorem vm_dNi {r : Int32} (S : CallFix p m c cc nL s args Ts own) (hE : EV Γ A s) (hP : va_P Γ.1 vwCl ws H) (hD : va_D A ws) (hS : va_S A s.heap H locs) (hA : ∀ q, s.heap.size ≤ q → A q) (hC : isC.map (fun i => ws[i]?) = wc.map some) (hnd : va_nd isC = true) (hW : W'.map some = vm_lay N isC w1 ws)
    (hM : MetI l y wsc rm Γ (.ref b :: As) wc w1 H.size r) (cw : va_CN R s args own index y host bytes maxL ret wsc rm 0 0 n ∧ (Cond.instanceMethod y).before args s = true ∧ (Cond.selects C y y).before args s = true) (hrv : ∃ cell : Cell, H[b]? = some cell ∧ cell.vm.isStatics = false ∧ s.vm.findClass C = some cell.cls) (hn : As.length = n) (hsz : ls.size = nL) (hst : st0 = As.reverse ++ .ref b :: rest) (hroom : (rest.map fun v => v.category).sum ≤ 8) (hdg : decode cc pc = .ok (.invokevirtual index, 3)) (hcap : cells ≤ R.cells ∧ slots ≤ R.slots)
    (kk : ∀ (H1 : Heap) (locs1 : List Loc), va_P Γ.1 vwCl W' H1 → va_D A W' → va_S A s.heap H1 locs1 → W p l e R s m args below meth c H1 locs1 cells slots Q (F0 m (pc + 3) ls (.int r :: rest))) : W p l e R s m args below meth c H locs cells slots Q (F0 m pc ls st0) := by
  obtain ⟨hF, hU⟩ := vm_pre hE hP hD hS hA hC hnd
  subst hst
  refine va_calli (va_runVN (As := As) (rest := rest) S hM cw ⟨CP.blind, hrv, fun U a b => ⟨rfl, hU U a b⟩⟩ rfl hn hsz rfl (lv_room hroom) hdg hcap) hS (fun q _ h => hF q h) hF (fun r' u t H1 locs ht hvm hw hB hz1 hk1 hS => ?_)
  subst hw
  obtain ⟨hP1, hD1⟩ := hB
  rw [ht] at hP1
  obtain ⟨hP2, hD2⟩ := vm_after2 hP hD hC hW hnd hF hk1 hP1 hD1
  exact kk H1 locs hP2 hD2 hS
theorem vm_dNv (S : CallFix p m c cc nL s args Ts own) (hE : EV Γ A s) (hP : va_P Γ.1 vwCl ws H) (hD : va_D A ws) (hS : va_S A s.heap H locs) (hA : ∀ q, s.heap.size ≤ q → A q) (hC : isC.map (fun i => ws[i]?) = wc.map some) (hnd : va_nd isC = true) (hW : W'.map some = vm_lay N isC w1 ws)
    (hM : MetV l y wsc rm Γ (.ref b :: As) wc w1 H.size) (cw : va_CN R s args own index y host bytes maxL ret wsc rm 0 0 n ∧ (Cond.instanceMethod y).before args s = true ∧ (Cond.selects C y y).before args s = true) (hrv : ∃ cell : Cell, H[b]? = some cell ∧ cell.vm.isStatics = false ∧ s.vm.findClass C = some cell.cls) (hn : As.length = n) (hsz : ls.size = nL) (hst : st0 = As.reverse ++ .ref b :: rest) (hroom : (rest.map fun v => v.category).sum ≤ 8) (hdg : decode cc pc = .ok (.invokevirtual index, 3)) (hcap : cells ≤ R.cells ∧ slots ≤ R.slots)
    (kk : ∀ (H1 : Heap) (locs1 : List Loc), va_P Γ.1 vwCl W' H1 → va_D A W' → va_S A s.heap H1 locs1 → W p l e R s m args below meth c H1 locs1 cells slots Q (F0 m (pc + 3) ls rest)) : W p l e R s m args below meth c H locs cells slots Q (F0 m pc ls st0) := by
  obtain ⟨hF, hU⟩ := vm_pre hE hP hD hS hA hC hnd
  subst hst
  refine va_callv (va_runVN (As := As) (rest := rest) S hM cw ⟨CP.blind, hrv, fun U a b => ⟨rfl, hU U a b⟩⟩ rfl hn hsz rfl (lv_room hroom) hdg hcap) hS (fun q _ h => hF q h) hF (fun u t H1 locs ht hvm hw hB hz1 hk1 hS => ?_)
  obtain ⟨hP1, hD1⟩ := hB
  rw [ht] at hP1
  obtain ⟨hP2, hD2⟩ := vm_after2 hP hD hC hW hnd hF hk1 hP1 hD1
  exact kk H1 locs hP2 hD2 hS
theorem vm_dNr {r : Nat} (S : CallFix p m c cc nL s args Ts own) (hE : EV Γ A s) (hP : va_P Γ.1 vwCl ws H) (hD : va_D A ws) (hS : va_S A s.heap H locs) (hA : ∀ q, s.heap.size ≤ q → A q) (hC : isC.map (fun i => ws[i]?) = wc.map some) (hnd : va_nd isC = true) (hW : W'.map some = vm_lay N isC w1 ws)
    (hM : MetR l y wsc rm Γ (.ref b :: As) wc w1 H.size r) (cw : va_CN R s args own index y host bytes maxL ret wsc rm 0 0 n ∧ (Cond.instanceMethod y).before args s = true ∧ (Cond.selects C y y).before args s = true) (hrv : ∃ cell : Cell, H[b]? = some cell ∧ cell.vm.isStatics = false ∧ s.vm.findClass C = some cell.cls) (hn : As.length = n) (hsz : ls.size = nL) (hst : st0 = As.reverse ++ .ref b :: rest) (hroom : (rest.map fun v => v.category).sum ≤ 8) (hdg : decode cc pc = .ok (.invokevirtual index, 3)) (hcap : cells ≤ R.cells ∧ slots ≤ R.slots)
    (kk : ∀ (H1 : Heap) (locs1 : List Loc), va_P Γ.1 vwCl W' H1 → va_D A W' → va_S A s.heap H1 locs1 → W p l e R s m args below meth c H1 locs1 cells slots Q (F0 m (pc + 3) ls (.ref r :: rest))) : W p l e R s m args below meth c H locs cells slots Q (F0 m pc ls st0) := by
  obtain ⟨hF, hU⟩ := vm_pre hE hP hD hS hA hC hnd
  subst hst
  refine va_callr (va_runVN (As := As) (rest := rest) S hM cw ⟨CP.blind, hrv, fun U a b => ⟨rfl, hU U a b⟩⟩ rfl hn hsz rfl (lv_room hroom) hdg hcap) hS (fun q _ h => hF q h) hF (fun u ra t H1 locs ht hvm hw hB hz1 hk1 hS => ?_)
  obtain ⟨hra, hP1, hD1⟩ := hB
  subst hra
  rw [ht] at hP1
  obtain ⟨hP2, hD2⟩ := vm_after2 hP hD hC hW hnd hF hk1 hP1 hD1
  exact kk H1 locs hP2 hD2 hS
theorem vm_dSi {r : Int32} (S : CallFix p m c cc nL s args Ts own) (hE : EV Γ A s) (hP : va_P Γ.1 vwCl ws H) (hD : va_D A ws) (hS : va_S A s.heap H locs) (hA : ∀ q, s.heap.size ≤ q → A q) (hC : isC.map (fun i => ws[i]?) = wc.map some) (hnd : va_nd isC = true) (hW : W'.map some = vm_lay N isC w1 ws)
    (hM : MetI l y wsc rm Γ As wc w1 H.size r) (cw : CallB R s args own index y bytes maxL ret wsc rm 0 0 n ∧ (Cond.static y).before args s = true) (hn : As.length = n) (hsz : ls.size = nL) (hst : st0 = As.reverse ++ rest) (hroom : (rest.map fun v => v.category).sum ≤ 8) (hdg : decode cc pc = .ok (.invokestatic index, 3)) (hcap : cells ≤ R.cells ∧ slots ≤ R.slots)
    (kk : ∀ (H1 : Heap) (locs1 : List Loc), va_P Γ.1 vwCl W' H1 → va_D A W' → va_S A s.heap H1 locs1 → W p l e R s m args below meth c H1 locs1 cells slots Q (F0 m (pc + 3) ls (.int r :: rest))) : W p l e R s m args below meth c H locs cells slots Q (F0 m pc ls st0) := by
  obtain ⟨hF, hU⟩ := vm_pre hE hP hD hS hA hC hnd
  subst hst
  refine va_calli (va_runS (As := As) (rest := rest) S hM cw ⟨CP.blind, fun U a b => ⟨rfl, hU U a b⟩⟩ rfl hn hsz rfl (lv_room hroom) hdg hcap) hS (fun q _ h => hF q h) hF (fun r' u t H1 locs ht hvm hw hB hz1 hk1 hS => ?_)
  subst hw
  obtain ⟨hP1, hD1⟩ := hB
  rw [ht] at hP1
  obtain ⟨hP2, hD2⟩ := vm_after2 hP hD hC hW hnd hF hk1 hP1 hD1
  exact kk H1 locs hP2 hD2 hS
theorem vm_dSv (S : CallFix p m c cc nL s args Ts own) (hE : EV Γ A s) (hP : va_P Γ.1 vwCl ws H) (hD : va_D A ws) (hS : va_S A s.heap H locs) (hA : ∀ q, s.heap.size ≤ q → A q) (hC : isC.map (fun i => ws[i]?) = wc.map some) (hnd : va_nd isC = true) (hW : W'.map some = vm_lay N isC w1 ws)
    (hM : MetV l y wsc rm Γ As wc w1 H.size) (cw : CallB R s args own index y bytes maxL ret wsc rm 0 0 n ∧ (Cond.static y).before args s = true) (hn : As.length = n) (hsz : ls.size = nL) (hst : st0 = As.reverse ++ rest) (hroom : (rest.map fun v => v.category).sum ≤ 8) (hdg : decode cc pc = .ok (.invokestatic index, 3)) (hcap : cells ≤ R.cells ∧ slots ≤ R.slots)
    (kk : ∀ (H1 : Heap) (locs1 : List Loc), va_P Γ.1 vwCl W' H1 → va_D A W' → va_S A s.heap H1 locs1 → W p l e R s m args below meth c H1 locs1 cells slots Q (F0 m (pc + 3) ls rest)) : W p l e R s m args below meth c H locs cells slots Q (F0 m pc ls st0) := by
  obtain ⟨hF, hU⟩ := vm_pre hE hP hD hS hA hC hnd
  subst hst
  refine va_callv (va_runS (As := As) (rest := rest) S hM cw ⟨CP.blind, fun U a b => ⟨rfl, hU U a b⟩⟩ rfl hn hsz rfl (lv_room hroom) hdg hcap) hS (fun q _ h => hF q h) hF (fun u t H1 locs ht hvm hw hB hz1 hk1 hS => ?_)
  obtain ⟨hP1, hD1⟩ := hB
  rw [ht] at hP1
  obtain ⟨hP2, hD2⟩ := vm_after2 hP hD hC hW hnd hF hk1 hP1 hD1
  exact kk H1 locs hP2 hD2 hS
end VMD
