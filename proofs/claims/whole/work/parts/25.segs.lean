def rfL (l : List (Option Nat)) : Nat → Option Nat := fun j => l.getD j none
theorem rfL_set {l : List (Option Nat)} {k v : Nat} (h : k < l.length) : va_up (rfL l) k (some v) = rfL (l.set k (some v)) := by
  funext j
  unfold va_up rfL
  by_cases e : j = k
  · subst e
    simp [h]
  · simp [e, List.getElem?_set_ne (Ne.symm e)]
def segP (Γ : GE) (had : Nat → Nat) (pW pH : Nat → Int32) (pN pF pG : Nat → Nat → Int32) : va_W := [(had 0, .inr (2, [.int (pW 0), .int (pH 0), .ref (had 1), .ref (had 2), .ref (had 3)])), (had 1, .inl (Γ.2.1 0, 7, .inl (pN 0))), (had 2, .inl (Γ.2.1 0, 36, .inl (pF 0))), (had 3, .inl (Γ.2.1 0, 36, .inl (pG 0))), (had 4, .inr (2, [.int (pW 1), .int (pH 1), .ref (had 5), .ref (had 6), .ref (had 7)])), (had 5, .inl (Γ.2.1 0, 7, .inl (pN 1))), (had 6, .inl (Γ.2.1 0, 36, .inl (pF 1))), (had 7, .inl (Γ.2.1 0, 36, .inl (pG 1))), (had 8, .inr (2, [.int (pW 2), .int (pH 2), .ref (had 9), .ref (had 10), .ref (had 11)])), (had 9, .inl (Γ.2.1 0, 7, .inl (pN 2))), (had 10, .inl (Γ.2.1 0, 36, .inl (pF 2))), (had 11, .inl (Γ.2.1 0, 36, .inl (pG 2))), (had 12, .inr (2, [.int (pW 3), .int (pH 3), .ref (had 13), .ref (had 14), .ref (had 15)])), (had 13, .inl (Γ.2.1 0, 7, .inl (pN 3))), (had 14, .inl (Γ.2.1 0, 36, .inl (pF 3))), (had 15, .inl (Γ.2.1 0, 36, .inl (pG 3))), (had 16, .inr (2, [.int (pW 4), .int (pH 4), .ref (had 17), .ref (had 18), .ref (had 19)])), (had 17, .inl (Γ.2.1 0, 7, .inl (pN 4))), (had 18, .inl (Γ.2.1 0, 36, .inl (pF 4))), (had 19, .inl (Γ.2.1 0, 36, .inl (pG 4))), (had 20, .inr (2, [.int (pW 5), .int (pH 5), .ref (had 21), .ref (had 22), .ref (had 23)])), (had 21, .inl (Γ.2.1 0, 7, .inl (pN 5))), (had 22, .inl (Γ.2.1 0, 36, .inl (pF 5))), (had 23, .inl (Γ.2.1 0, 36, .inl (pG 5)))]
def segH (Γ : GE) (q : Nat) (had : Nat → Nat) (pW pH : Nat → Int32) (pN pF pG : Nat → Nat → Int32) : va_W := [(q, .inl (Γ.2.1 2, 6, .inr (.inr (.inr (.inr (rfL [some (had 0), some (had 4), some (had 8), some (had 12), some (had 16), some (had 20)])))))), (had 0, .inr (2, [.int (pW 0), .int (pH 0), .ref (had 1), .ref (had 2), .ref (had 3)])), (had 1, .inl (Γ.2.1 0, 7, .inl (pN 0))), (had 2, .inl (Γ.2.1 0, 36, .inl (pF 0))), (had 3, .inl (Γ.2.1 0, 36, .inl (pG 0))), (had 4, .inr (2, [.int (pW 1), .int (pH 1), .ref (had 5), .ref (had 6), .ref (had 7)])), (had 5, .inl (Γ.2.1 0, 7, .inl (pN 1))), (had 6, .inl (Γ.2.1 0, 36, .inl (pF 1))), (had 7, .inl (Γ.2.1 0, 36, .inl (pG 1))), (had 8, .inr (2, [.int (pW 2), .int (pH 2), .ref (had 9), .ref (had 10), .ref (had 11)])), (had 9, .inl (Γ.2.1 0, 7, .inl (pN 2))), (had 10, .inl (Γ.2.1 0, 36, .inl (pF 2))), (had 11, .inl (Γ.2.1 0, 36, .inl (pG 2))), (had 12, .inr (2, [.int (pW 3), .int (pH 3), .ref (had 13), .ref (had 14), .ref (had 15)])), (had 13, .inl (Γ.2.1 0, 7, .inl (pN 3))), (had 14, .inl (Γ.2.1 0, 36, .inl (pF 3))), (had 15, .inl (Γ.2.1 0, 36, .inl (pG 3))), (had 16, .inr (2, [.int (pW 4), .int (pH 4), .ref (had 17), .ref (had 18), .ref (had 19)])), (had 17, .inl (Γ.2.1 0, 7, .inl (pN 4))), (had 18, .inl (Γ.2.1 0, 36, .inl (pF 4))), (had 19, .inl (Γ.2.1 0, 36, .inl (pG 4))), (had 20, .inr (2, [.int (pW 5), .int (pH 5), .ref (had 21), .ref (had 22), .ref (had 23)])), (had 21, .inl (Γ.2.1 0, 7, .inl (pN 5))), (had 22, .inl (Γ.2.1 0, 36, .inl (pF 5))), (had 23, .inl (Γ.2.1 0, 36, .inl (pG 5)))]
def segI (Γ : GE) (q : Nat) (iad : Nat → Nat) (iW iH : Nat → Int32) (iN iF iG : Nat → Nat → Int32) : va_W := [(q, .inl (Γ.2.1 2, 2, .inr (.inr (.inr (.inr (rfL [some (iad 0), some (iad 4)])))))), (iad 0, .inr (2, [.int (iW 0), .int (iH 0), .ref (iad 1), .ref (iad 2), .ref (iad 3)])), (iad 1, .inl (Γ.2.1 0, 7, .inl (iN 0))), (iad 2, .inl (Γ.2.1 0, 36, .inl (iF 0))), (iad 3, .inl (Γ.2.1 0, 36, .inl (iG 0))), (iad 4, .inr (2, [.int (iW 1), .int (iH 1), .ref (iad 5), .ref (iad 6), .ref (iad 7)])), (iad 5, .inl (Γ.2.1 0, 7, .inl (iN 1))), (iad 6, .inl (Γ.2.1 0, 36, .inl (iF 1))), (iad 7, .inl (Γ.2.1 0, 36, .inl (iG 1)))]
def rfR (rad : Nat → Nat) : Nat → Option Nat := fun i => if i < 21 then some (rad i) else none
def segR (Γ : GE) (q : Nat) (rad : Nat → Nat) (mo : Nat → Nat → Int32) : va_W := [(q, .inl (Γ.2.1 3, 21, .inr (.inr (.inr (.inr (rfR rad)))))), (rad 0, .inl (Γ.2.1 0, 36, .inl (mo 0))), (rad 1, .inl (Γ.2.1 0, 36, .inl (mo 1))), (rad 2, .inl (Γ.2.1 0, 36, .inl (mo 2))), (rad 3, .inl (Γ.2.1 0, 36, .inl (mo 3))), (rad 4, .inl (Γ.2.1 0, 36, .inl (mo 4))), (rad 5, .inl (Γ.2.1 0, 36, .inl (mo 5))), (rad 6, .inl (Γ.2.1 0, 36, .inl (mo 6))), (rad 7, .inl (Γ.2.1 0, 36, .inl (mo 7))), (rad 8, .inl (Γ.2.1 0, 36, .inl (mo 8))), (rad 9, .inl (Γ.2.1 0, 36, .inl (mo 9))), (rad 10, .inl (Γ.2.1 0, 36, .inl (mo 10))), (rad 11, .inl (Γ.2.1 0, 36, .inl (mo 11))), (rad 12, .inl (Γ.2.1 0, 36, .inl (mo 12))), (rad 13, .inl (Γ.2.1 0, 36, .inl (mo 13))), (rad 14, .inl (Γ.2.1 0, 36, .inl (mo 14))), (rad 15, .inl (Γ.2.1 0, 36, .inl (mo 15))), (rad 16, .inl (Γ.2.1 0, 36, .inl (mo 16))), (rad 17, .inl (Γ.2.1 0, 36, .inl (mo 17))), (rad 18, .inl (Γ.2.1 0, 36, .inl (mo 18))), (rad 19, .inl (Γ.2.1 0, 36, .inl (mo 19))), (rad 20, .inl (Γ.2.1 0, 36, .inl (mo 20)))]
theorem rfR_at {rad : Nat → Nat} {i : Int32} (h : inb i 21 = true) : rfR rad i.toNatClampNeg = some (rad i.toNatClampNeg) := if_pos (Nat.not_le.mp fun q => inb_vp h (Or.inr q))
theorem inb_lt {i : Int32} {n : Nat} (h : inb i n = true) : i.toNatClampNeg < n := Nat.not_le.mp fun q => inb_vp h (Or.inr q)
theorem k21 {P : Nat → Prop} (h : P 0 ∧ P 1 ∧ P 2 ∧ P 3 ∧ P 4 ∧ P 5 ∧ P 6 ∧ P 7 ∧ P 8 ∧ P 9 ∧ P 10 ∧ P 11 ∧ P 12 ∧ P 13 ∧ P 14 ∧ P 15 ∧ P 16 ∧ P 17 ∧ P 18 ∧ P 19 ∧ P 20) : ∀ k, k < 21 → P k := by
  intro k hk
  rcases (show k = 0 ∨ k = 1 ∨ k = 2 ∨ k = 3 ∨ k = 4 ∨ k = 5 ∨ k = 6 ∨ k = 7 ∨ k = 8 ∨ k = 9 ∨ k = 10 ∨ k = 11 ∨ k = 12 ∨ k = 13 ∨ k = 14 ∨ k = 15 ∨ k = 16 ∨ k = 17 ∨ k = 18 ∨ k = 19 ∨ k = 20 by omega) with rfl | rfl | rfl | rfl | rfl | rfl | rfl | rfl | rfl | rfl | rfl | rfl | rfl | rfl | rfl | rfl | rfl | rfl | rfl | rfl | rfl <;> simp only [h]
section VMS
variable {p : Program} {l : Launch} {e : Env} {R : Room} {s : State} {m : MethodId} {args : Array Value} {below : List Frame} {meth : Method} {c : Code} {H : Heap} {locs : List Loc} {cells slots : Nat} {Q : State → Prop}
variable {cc : ByteArray} {pc : Nat} {ls : Array Slot} {rest : List Value} {D : va_G} {cl : List vw_C} {A : Nat → Prop} {a : Nat} {tys : List (ClassId × FieldType)} {ws : va_W} {H0 : Heap}
theorem vm_aald (hexec : p.tables.exec = Jvm.exec) (hb : c.code = cc) (hK : va_K D cl tys s) (hP : va_P D cl ws H) (q0 t0 : Nat) {cA : ClassId} {C : String} {n : Nat} {f : Nat → Option Nat} (ha : ws[q0]? = some (a, .inl (cA, n, .inr (.inr (.inr (.inr f)))))) (ht : tys[t0]? = some (cA, .object C)) {i : Int32} (hin : inb i n = true) {v : Nat} (hv : f i.toNatClampNeg = some v) (hdg : decode cc pc = .ok (.aaload, 1))
    (kk : W p l e R s m args below meth c H locs cells slots Q (F0 m (pc + 1) ls (.ref v :: rest))) : W p l e R s m args below meth c H locs cells slots Q (F0 m pc ls (.int i :: .ref a :: rest)) := by
  refine va_aldq hexec hb hK hP q0 t0 ha ht (inb_vp hin) hdg ?_
  rw [hv]
  exact kk
theorem vm_aaldr (hexec : p.tables.exec = Jvm.exec) (hb : c.code = cc) (hK : va_K D cl tys s) (hP : va_P D cl ws H) (q0 t0 : Nat) {cA : ClassId} {n : Nat} {f : Nat → Option Nat} (ha : ws[q0]? = some (a, .inl (cA, n, .inr (.inr (.inr (.inr f)))))) (ht : tys[t0]? = some (cA, .array .int)) {i : Int32} (hin : inb i n = true) {v : Nat} (hv : f i.toNatClampNeg = some v) (hdg : decode cc pc = .ok (.aaload, 1))
    (kk : W p l e R s m args below meth c H locs cells slots Q (F0 m (pc + 1) ls (.ref v :: rest))) : W p l e R s m args below meth c H locs cells slots Q (F0 m pc ls (.int i :: .ref a :: rest)) := by
  have hin := inb_vp hin
  have hlt : i.toNatClampNeg < n := Nat.not_le.mp fun q => hin (Or.inr q)
  have h := W.aald (p := p) (l := l) (e := e) (R := R) (s := s) (m := m) (args := args) (below := below) (meth := meth) (c := c) (H := H) (locs := locs) (cells := cells) (slots := slots) (Q := Q) (v := va_rf (f i.toNatClampNeg)) (ty := .array .int) hexec hb (hP q0 _ ha) ((hK.2 t0 _ ht).1 n (fun j => va_rf (f j))) rfl (fun q => by cases q) (by show ¬ (i < 0 ∨ (arrV _ _ _).slots.size ≤ _); rw [arrV_size]; exact hin) (by show (arrV _ _ _).slots[_]? = _; rw [arrV_read _ _ hlt]) rfl rfl hdg (g := F0 m pc ls (.int i :: .ref a :: rest)) (rest := rest)
  rw [hv] at h
  exact h kk
end VMS
theorem vm_puts_app : ∀ (is : List Nat) (w ws : va_W) (d : Nat) (q : Nat × va_E), is.length = w.length → vm_puts ws (is ++ [d]) (w ++ [q]) = (vm_puts ws is w).set d q
  | [], [], ws, d, q, _ => rfl
  | i :: is, x :: xs, ws, d, q, h => vm_puts_app is xs (ws.set i x) d q (by simpa using h)
  | [], x :: xs, ws, d, q, h => by simp at h
  | i :: is, [], ws, d, q, h => by simp at h
theorem vm_set_same {ws : va_W} {d : Nat} {q : Nat × va_E} (h : ws[d]? = some q) : ws.set d q = ws := by
  apply List.ext_getElem?
  intro j
  by_cases e : d = j
  · subst e
    rw [List.getElem?_set_self (List.getElem?_eq_some_iff.mp h).1, h]
  · rw [List.getElem?_set_ne e]
theorem vm_hCr {ws wc : va_W} {is : List Nat} {d : Nat} {q : Nat × va_E} (h1 : is.map (fun i => ws[i]?) = wc.map some) (h2 : ws[d]? = some q) : (is ++ [d]).map (fun i => ws[i]?) = (wc ++ [q]).map some := by
  rw [List.map_append, List.map_append, h1]
  simp [h2]
theorem vm_ndr {is : List Nat} {d : Nat} (h : va_nd is = true) (h2 : ∀ i ∈ is, i < d) : va_nd (is ++ [d]) = true := by
  induction is with
  | nil => rfl
  | cons a is ih =>
    simp only [va_nd, Bool.and_eq_true, decide_eq_true_eq] at h
    show va_nd (a :: (is ++ [d])) = true
    simp only [va_nd, Bool.and_eq_true, decide_eq_true_eq]
    refine ⟨fun hm => ?_, ih h.2 (fun i hi => h2 i (List.mem_cons_of_mem _ hi))⟩
    rcases List.mem_append.mp hm with q | q
    · exact h.1 q
    · have := h2 a List.mem_cons_self
      simp at q
      omega
theorem vm_rowP {Γ : GE} {ws w W' W'' : va_W} {is : List Nat} {d : Nat} {q : Nat × va_E} {H : Heap} (hl : is.length = w.length) (hw : vm_puts ws is w = W') (hs : W'.set d q = W'') (h : va_P Γ.1 vwCl (vm_puts ws (is ++ [d]) (w ++ [q])) H) : va_P Γ.1 vwCl W'' H := by
  rw [vm_puts_app _ _ _ _ _ hl, hw, hs] at h
  exact h
theorem vm_rowD {A : Nat → Prop} {ws w W' W'' : va_W} {is : List Nat} {d : Nat} {q : Nat × va_E} (hl : is.length = w.length) (hw : vm_puts ws is w = W') (hs : W'.set d q = W'') (h : va_D A (vm_puts ws (is ++ [d]) (w ++ [q]))) : va_D A W'' := by
  rw [vm_puts_app _ _ _ _ _ hl, hw, hs] at h
  exact h
