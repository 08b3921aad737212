/-! a contract over a larger world -/
theorem EV.narrow {Γ : GE} {A B : Nat → Prop} {U : State} (h : EV Γ A U) (hAB : ∀ q, B q → A q) : EV Γ B U :=
  ⟨h.1, h.2.1, TB.go (u := U) (U := U) (Vm.Alike.refl U.vm) (fun _ _ _ => rfl) hAB h.2.2.1, h.2.2.2.1, ST.go (u := U) (U := U) (Vm.Alike.refl U.vm) (fun _ _ _ => rfl) hAB h.2.2.2.2⟩
def vm_ly (isC : List Nat) (w1 : va_W) : Nat → va_W → List (Option (Nat × va_E))
  | _, [] => []
  | k, c :: t => (match vm_ix k isC 0 with | some j => w1[j]? | none => some c) :: vm_ly isC w1 (k + 1) t
theorem vm_ly_get {isC : List Nat} {w1 : va_W} : ∀ (ws : va_W) (k i : Nat) (c : Nat × va_E), ws[i]? = some c → (vm_ly isC w1 k ws)[i]? = some (match vm_ix (k + i) isC 0 with | some j => w1[j]? | none => some c)
  | [], k, i, c, h => by simp at h
  | d :: t, k, 0, c, h => by
    have e : d = c := by simpa using h
    subst e
    rfl
  | d :: t, k, i + 1, c, h => by
    have h2 : t[i]? = some c := by simpa using h
    have := vm_ly_get (isC := isC) (w1 := w1) t (k + 1) i c h2
    show (vm_ly isC w1 (k + 1) t)[i]? = _
    rw [this, show k + 1 + i = k + (i + 1) by omega]
theorem vm_ly_len {isC : List Nat} {w1 : va_W} : ∀ (ws : va_W) (k : Nat), (vm_ly isC w1 k ws).length = ws.length
  | [], _ => rfl
  | _ :: t, k => by
    show (vm_ly isC w1 (k + 1) t).length + 1 = t.length + 1
    rw [vm_ly_len t (k + 1)]
theorem vm_ly_hC {isC : List Nat} {wc ws : va_W} (h : vm_ly isC wc 0 ws = ws.map some) (hlen : isC.length = wc.length) (hnd : va_nd isC = true) (hlt : isC.all (fun i => decide (i < ws.length)) = true) : isC.map (fun i => ws[i]?) = wc.map some := by
  apply List.ext_getElem?
  intro j
  simp only [List.getElem?_map]
  rcases Nat.lt_or_ge j isC.length with hj | hj
  · have hi : isC[j]? = some isC[j] := List.getElem?_eq_getElem hj
    have hl : isC[j] < ws.length := by simpa using (List.all_eq_true.mp hlt) _ (List.getElem_mem hj)
    have hc : ws[isC[j]]? = some ws[isC[j]] := List.getElem?_eq_getElem hl
    have h1 := vm_ly_get (isC := isC) (w1 := wc) ws 0 isC[j] _ hc
    rw [h, List.getElem?_map, hc] at h1
    simp only [Nat.zero_add, Option.map_some] at h1
    have h1 := Option.some.inj h1
    cases hx : vm_ix isC[j] isC 0 with
    | none => exact absurd (List.getElem_mem hj) (vm_ix_none isC 0 hx)
    | some j' =>
      rw [hx] at h1
      obtain ⟨d, h2, h3⟩ := vm_ix_some isC 0 j' hx
      have e : j' = j := by
        have := va_nd_inj isC hnd d j _ h3 hi
        omega
      subst e
      have h1 : some ws[isC[j']] = wc[j']? := h1
      rw [hi, Option.map_some, hc, ← h1]
      rfl
  · rw [List.getElem?_eq_none hj, List.getElem?_eq_none (by omega)]
    rfl
theorem vm_ly_hW {isC : List Nat} {w1 ws W' : va_W} (h : vm_ly isC w1 0 ws = W'.map some) : W'.map some = vm_lay ws.length isC w1 ws := by
  apply List.ext_getElem?
  intro k
  rw [← h]
  unfold vm_lay
  rw [List.getElem?_map]
  rcases Nat.lt_or_ge k ws.length with hk | hk
  · have hc : ws[k]? = some ws[k] := List.getElem?_eq_getElem hk
    rw [vm_ly_get ws 0 k _ hc, List.getElem?_range hk, Option.map_some, Nat.zero_add, hc]
    rfl
  · rw [List.getElem?_eq_none (by rw [vm_ly_len]; exact hk)]
    have hz : (List.range ws.length)[k]? = none := List.getElem?_eq_none (by rw [List.length_range]; exact hk)
    rw [hz]
    rfl
theorem vm_liftI {l : Launch} {y : MethodName} {wsc : List Cond} {rm : Room} {Γ : GE} {av : List Value} {wc w1 ws W' : va_W} {sz : Nat} {r : Int32} {isC : List Nat} (hM : MetI l y wsc rm Γ av wc w1 sz r) (h1 : vm_ly isC wc 0 ws = ws.map some) (h2 : vm_ly isC w1 0 ws = W'.map some) (hlen : isC.length = wc.length) (hnd : va_nd isC = true) (hlt : isC.all (fun i => decide (i < ws.length)) = true) : MetI l y wsc rm Γ av ws W' sz r := by
  have hC := vm_ly_hC h1 hlen hnd hlt
  have hW := vm_ly_hW h2
  intro p e ha hc hk s m args below hf happ hP hK
  obtain ⟨rfl, hsz, hE, hPw, hD⟩ := hP
  subst hsz
  have hF := va_free hD (va_S.rf (H0 := s.heap)) (fun q h => Or.inr h) isC hC
  have hPc : va_P Γ.1 vwCl wc s.heap := fun k q hq => by
    obtain ⟨i, -, hi⟩ := vm_at hC k q hq
    exact hPw i q hi
  obtain ⟨n, o, g1, g2, g3, ⟨⟨⟨r', u, ho, hr, hP1, hD1⟩, hFr⟩, L, hFE, hL⟩⟩ := hM p e ha hc hk s m _ below hf happ ⟨rfl, rfl, hE.narrow hF, hPc, (hD.sub isC hnd hC).self⟩ hK
  obtain ⟨hP2, hD2⟩ := vm_after2 hPw hD hC hW hnd hF hFr.2 hP1 hD1
  exact ⟨n, o, g1, g2, g3, ⟨⟨r', u, ho, hr, hP2, hD2⟩, hFr.1, fun q a b => hFr.2 q a (fun z => b (hF q z))⟩, L, hFE, fun q hq => hF _ (hL q hq)⟩
section VME
variable {p : Program} {l : Launch} {e : Env} {R : Room} {s : State} {m : MethodId} {args : Array Value} {below : List Frame} {meth : Method} {c : Code} {H : Heap} {locs : List Loc} {cells slots : Nat} {Q : State → Prop}
variable {y : MethodName} {bytes cc : ByteArray} {maxL nL n index pc : Nat} {ret : Option FieldType} {wsc : List Cond} {rm : Room} {Ts : List Cond} {own C : String} {b : Nat} {As rest st0 : List Value} {ls : Array Slot} {Γ : GE} {A : Nat → Prop} {wa wb w1 : va_W}
theorem vm_prL (x y : va_W) : (List.range x.length).map (fun i => (x ++ y)[i]?) = x.map some := by
  apply List.ext_getElem?
  intro k
  simp only [List.getElem?_map]
  rcases Nat.lt_or_ge k x.length with h | h
  · rw [List.getElem?_range h, Option.map_some, List.getElem?_append_left h, List.getElem?_eq_getElem h]
    rfl
  · rw [List.getElem?_eq_none (by rw [List.length_range]; exact h), List.getElem?_eq_none h]
    rfl
theorem vm_prR (x y : va_W) : ((List.range y.length).map (fun i => x.length + i)).map (fun i => (x ++ y)[i]?) = y.map some := by
  apply List.ext_getElem?
  intro k
  simp only [List.getElem?_map]
  rcases Nat.lt_or_ge k y.length with h | h
  · rw [List.getElem?_range h, Option.map_some, Option.map_some, List.getElem?_append_right (by omega), Nat.add_sub_cancel_left, List.getElem?_eq_getElem h]
    rfl
  · rw [List.getElem?_eq_none (by rw [List.length_range]; exact h), List.getElem?_eq_none h]
    rfl
theorem vm_ndI : ∀ (l : List Nat), l.Nodup → va_nd l = true
  | [], _ => rfl
  | a :: l, h => by
    simp only [va_nd, Bool.and_eq_true, decide_eq_true_eq]
    exact ⟨(List.nodup_cons.mp h).1, vm_ndI l (List.nodup_cons.mp h).2⟩
theorem vm_ndR (n : Nat) : va_nd (List.range n) = true := vm_ndI _ List.nodup_range
theorem vm_ndS (n d : Nat) : va_nd ((List.range n).map (fun i => d + i)) = true := vm_ndI _ (by
  rw [List.Nodup, List.pairwise_map]
  exact List.nodup_range.imp (fun h e => h (by omega)))
/-- behind a call that changed the cells of one part of the world alone -/
theorem vm_afterAB {wc wr : va_W} {H1 : Heap} (hPr : va_P Γ.1 vwCl wr H) (hx : ∀ (i j : Nat) (x y : Nat × va_E), wc[i]? = some x → wr[j]? = some y → x.1 ≠ y.1) (hDr : va_D A wr) (hF : ∀ q, va_A wc H.size q → A q) (hk : ∀ q : Nat, q < H.size → ¬ va_A wc H.size q → H1[q]? = H[q]?) (hP1 : va_P Γ.1 vwCl w1 H1) (hD1 : va_D (va_A wc H.size) w1) : va_P Γ.1 vwCl (w1 ++ wr) H1 ∧ va_D A (w1 ++ wr) ∧ va_P Γ.1 vwCl (wr ++ w1) H1 ∧ va_D A (wr ++ w1) := by
  have out : ∀ (k : Nat) (q : Nat × va_E), wr[k]? = some q → ¬ va_A wc H.size q.1 := by
    intro k q hq
    rintro (⟨j, e9, hj⟩ | hge)
    · exact hx j k _ q hj hq rfl
    · exact absurd (hPr k q hq).lt (Nat.not_lt.mpr hge)
  have hPr1 : va_P Γ.1 vwCl wr H1 := hPr.kept (fun k q hq => hk q.1 (hPr k q hq).lt (out k q hq))
  have hDw : va_D A w1 := hD1.weaken (fun k q _ h => hF q.1 h)
  have h12 : ∀ (i j : Nat) (x y : Nat × va_E), w1[i]? = some x → wr[j]? = some y → x.1 ≠ y.1 := fun i j x y h1 h2 e => out j y h2 (e ▸ hD1.2 i x h1)
  exact ⟨hP1.app hPr1, hDw.app hDr h12, hPr1.app hP1, hDr.app hDw (fun i j x y h1 h2 e => h12 j i y x h2 h1 e.symm)⟩
theorem vm_splD {x y : va_W} (hD : va_D A (x ++ y)) : va_D A x ∧ va_D A y ∧ ∀ (i j : Nat) (a b : Nat × va_E), x[i]? = some a → y[j]? = some b → a.1 ≠ b.1 := by
  have e1 : ∀ (i : Nat) (a : Nat × va_E), x[i]? = some a → (x ++ y)[i]? = some a := fun i a h => by
    rw [List.getElem?_append_left (List.getElem?_eq_some_iff.mp h).1]; exact h
  have e2 : ∀ (j : Nat) (a : Nat × va_E), y[j]? = some a → (x ++ y)[x.length + j]? = some a := fun j a h => by
    rw [List.getElem?_append_right (by omega), Nat.add_sub_cancel_left]; exact h
  refine ⟨⟨fun i j a b h1 h2 e => hD.1 i j a b (e1 i a h1) (e1 j b h2) e, fun k q h => hD.2 k q (e1 k q h)⟩, ⟨fun i j a b h1 h2 e => ?_, fun k q h => hD.2 _ q (e2 k q h)⟩, fun i j a b h1 h2 e => ?_⟩
  · have := hD.1 _ _ a b (e2 i a h1) (e2 j b h2) e
    omega
  · have := hD.1 _ _ a b (e1 i a h1) (e2 j b h2) e
    have := (List.getElem?_eq_some_iff.mp h1).1
    omega
theorem vm_splP {x y : va_W} (hP : va_P Γ.1 vwCl (x ++ y) H) : va_P Γ.1 vwCl x H ∧ va_P Γ.1 vwCl y H :=
  ⟨fun k q h => hP k q (by rw [List.getElem?_append_left (List.getElem?_eq_some_iff.mp h).1]; exact h), fun k q h => hP (x.length + k) q (by rw [List.getElem?_append_right (by omega), Nat.add_sub_cancel_left]; exact h)⟩
theorem vm_eVa {r : Int32} (S : CallFix p m c cc nL s args Ts own) (hE : EV Γ A s) (hP : va_P Γ.1 vwCl (wa ++ wb) H) (hD : va_D A (wa ++ wb)) (hS : va_S A s.heap H locs) (hA : ∀ q, s.heap.size ≤ q → A q)
    (hM : MetI l y wsc rm Γ (.ref b :: As) wa w1 H.size r) (cw : CallW R s args own C index y bytes maxL ret wsc rm 0 0 n) (hrv : ∃ cell : Cell, H[b]? = some cell ∧ cell.vm.isStatics = false ∧ s.vm.findClass C = some cell.cls) (hn : As.length = n) (hsz : ls.size = nL) (hst : st0 = As.reverse ++ .ref b :: rest) (hroom : (rest.map fun v => v.category).sum ≤ 8) (hdg : decode cc pc = .ok (.invokevirtual index, 3)) (hcap : cells ≤ R.cells ∧ slots ≤ R.slots)
    (kk : ∀ (H1 : Heap) (locs1 : List Loc), va_P Γ.1 vwCl (w1 ++ wb) H1 → va_D A (w1 ++ wb) → va_S A s.heap H1 locs1 → W p l e R s m args below meth c H1 locs1 cells slots Q (F0 m (pc + 3) ls (.int r :: rest))) : W p l e R s m args below meth c H locs cells slots Q (F0 m pc ls st0) := by
  obtain ⟨hF, hU⟩ := vm_pre hE hP hD hS hA (vm_prL wa wb) (vm_ndR _)
  subst hst
  refine va_calli (va_runV (As := As) (rest := rest) S hM cw ⟨CP.blind, hrv, fun U a b => ⟨rfl, hU U a b⟩⟩ rfl hn hsz rfl (lv_room hroom) hdg hcap) hS (fun q _ h => hF q h) hF (fun r' u t H1 locs ht hvm hw hB hz1 hk1 hS => ?_)
  subst hw
  obtain ⟨hP1, hD1⟩ := hB
  rw [ht] at hP1
  obtain ⟨-, d2, d3⟩ := vm_splD hD
  obtain ⟨hP2, hD2, -⟩ := vm_afterAB (vm_splP hP).2 d3 d2 hF hk1 hP1 hD1
  exact kk H1 locs hP2 hD2 hS
theorem vm_eVb {r : Int32} (S : CallFix p m c cc nL s args Ts own) (hE : EV Γ A s) (hP : va_P Γ.1 vwCl (wa ++ wb) H) (hD : va_D A (wa ++ wb)) (hS : va_S A s.heap H locs) (hA : ∀ q, s.heap.size ≤ q → A q)
    (hM : MetI l y wsc rm Γ (.ref b :: As) wb w1 H.size r) (cw : CallW R s args own C index y bytes maxL ret wsc rm 0 0 n) (hrv : ∃ cell : Cell, H[b]? = some cell ∧ cell.vm.isStatics = false ∧ s.vm.findClass C = some cell.cls) (hn : As.length = n) (hsz : ls.size = nL) (hst : st0 = As.reverse ++ .ref b :: rest) (hroom : (rest.map fun v => v.category).sum ≤ 8) (hdg : decode cc pc = .ok (.invokevirtual index, 3)) (hcap : cells ≤ R.cells ∧ slots ≤ R.slots)
    (kk : ∀ (H1 : Heap) (locs1 : List Loc), va_P Γ.1 vwCl (wa ++ w1) H1 → va_D A (wa ++ w1) → va_S A s.heap H1 locs1 → W p l e R s m args below meth c H1 locs1 cells slots Q (F0 m (pc + 3) ls (.int r :: rest))) : W p l e R s m args below meth c H locs cells slots Q (F0 m pc ls st0) := by
  obtain ⟨hF, hU⟩ := vm_pre hE hP hD hS hA (vm_prR wa wb) (vm_ndS _ _)
  subst hst
  refine va_calli (va_runV (As := As) (rest := rest) S hM cw ⟨CP.blind, hrv, fun U a b => ⟨rfl, hU U a b⟩⟩ rfl hn hsz rfl (lv_room hroom) hdg hcap) hS (fun q _ h => hF q h) hF (fun r' u t H1 locs ht hvm hw hB hz1 hk1 hS => ?_)
  subst hw
  obtain ⟨hP1, hD1⟩ := hB
  rw [ht] at hP1
  obtain ⟨d1, -, d3⟩ := vm_splD hD
  obtain ⟨-, -, hP2, hD2⟩ := vm_afterAB (wc := wb) (vm_splP hP).1 (fun i j x y h1 h2 e => d3 j i y x h2 h1 e.symm) d1 hF hk1 hP1 hD1
  exact kk H1 locs hP2 hD2 hS
end VME
