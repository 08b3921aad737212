/-! neighbours and pull -/
def nxt (w h c d : Nat) : Option Nat := match d with
  | 0 => if c / w = 0 then none else some (c - w)
  | 1 => if c % w + 1 < w then some (c + 1) else none
  | 2 => if c / w + 1 < h then some (c + w) else none
  | _ => if c % w = 0 then none else some (c - 1)
def nxtI (w h c d : Nat) : Int32 := match nxt w h c d with
  | none => -1
  | some k => nI k
theorem nxt_lt_d : ∀ w : Fin 7, ∀ h : Fin 7, ∀ c : Fin 36, ∀ d : Fin 4, 2 ≤ w.val → 2 ≤ h.val → c.val < w.val * h.val → (nxt w.val h.val c.val d.val).all (fun k => decide (k < w.val * h.val)) = true := by decide +kernel
theorem nxt_lt {w h c d k : Nat} (h1 : 2 ≤ w) (h2 : w ≤ 6) (h3 : 2 ≤ h) (h4 : h ≤ 6) (hc : c < w * h) (hd : d < 4) (hk : nxt w h c d = some k) : k < w * h := by
  have := mul36 h2 h4
  have q := nxt_lt_d ⟨w, by omega⟩ ⟨h, by omega⟩ ⟨c, by omega⟩ ⟨d, hd⟩ h1 h3 hc
  rw [hk] at q
  simpa using q
theorem e8_next_d : ∀ w : Fin 7, ∀ h : Fin 7, ∀ c : Fin 36, ∀ d : Fin 4, 2 ≤ w.val → 2 ≤ h.val → c.val < w.val * h.val → f_X8_next (fun k => if k = 0 then nI w.val else nI h.val) (nI c.val) (nI d.val) = some (nxtI w.val h.val c.val d.val) := by decide +kernel
theorem e8_next {sv : Nat → Int32} {w h c d : Nat} (h0 : sv 0 = nI w) (hh : sv 1 = nI h) (h1 : 2 ≤ w) (h2 : w ≤ 6) (h3 : 2 ≤ h) (h4 : h ≤ 6) (hc : c < w * h) (hd : d < 4) : f_X8_next sv (nI c) (nI d) = some (nxtI w h c d) := by
  have := mul36 h2 h4
  have q := e8_next_d ⟨w, by omega⟩ ⟨h, by omega⟩ ⟨c, by omega⟩ ⟨d, hd⟩ h1 h3 hc
  have e : f_X8_next sv (nI c) (nI d) = f_X8_next (fun k => if k = 0 then nI w else nI h) (nI c) (nI d) := by
    unfold f_X8_next f_X8_next_42 f_X8_next_69
    rw [h0, hh]
    rfl
  rw [e]
  exact q
def beyS (ed : Int32) (ht : Nat → Int32) (c : Nat) : Int32 := if ed = 1 then ht c else 0
def nbS (w h : Nat) (ed : Int32) (ht : Nat → Int32) (c d : Nat) : Int32 := match nxt w h c d with
  | none => beyS ed ht c
  | some k => ht k
def pullS (w h : Nat) (ed : Int32) (ht : Nat → Int32) (c : Nat) : Int32 := (((nbS w h ed ht c 0 + nbS w h ed ht c 1) + nbS w h ed ht c 2) + nbS w h ed ht c 3) - 4 * ht c
theorem nbS0 (w h : Nat) (ed : Int32) (ht : Nat → Int32) (c : Nat) : nbS w h ed ht c 0 = if c / w = 0 then beyS ed ht c else ht (c - w) := by
  show (match (if c / w = 0 then none else some (c - w) : Option Nat) with | none => beyS ed ht c | some k => ht k) = _
  by_cases e : c / w = 0
  · rw [if_pos e, if_pos e]
  · rw [if_neg e, if_neg e]
theorem nbS1 (w h : Nat) (ed : Int32) (ht : Nat → Int32) (c : Nat) : nbS w h ed ht c 1 = if c % w + 1 < w then ht (c + 1) else beyS ed ht c := by
  show (match (if c % w + 1 < w then some (c + 1) else none : Option Nat) with | none => beyS ed ht c | some k => ht k) = _
  by_cases e : c % w + 1 < w
  · rw [if_pos e, if_pos e]
  · rw [if_neg e, if_neg e]
theorem nbS2 (w h : Nat) (ed : Int32) (ht : Nat → Int32) (c : Nat) : nbS w h ed ht c 2 = if c / w + 1 < h then ht (c + w) else beyS ed ht c := by
  show (match (if c / w + 1 < h then some (c + w) else none : Option Nat) with | none => beyS ed ht c | some k => ht k) = _
  by_cases e : c / w + 1 < h
  · rw [if_pos e, if_pos e]
  · rw [if_neg e, if_neg e]
theorem nbS3 (w h : Nat) (ed : Int32) (ht : Nat → Int32) (c : Nat) : nbS w h ed ht c 3 = if c % w = 0 then beyS ed ht c else ht (c - 1) := by
  show (match (if c % w = 0 then none else some (c - 1) : Option Nat) with | none => beyS ed ht c | some k => ht k) = _
  by_cases e : c % w = 0
  · rw [if_pos e, if_pos e]
  · rw [if_neg e, if_neg e]
theorem pull_ring (a b c d h : Int32) : ((((-4) * h + a) + b) + c) + d = (((a + b) + c) + d) - 4 * h := by grind
theorem e8_pull {sv : Nat → Int32} {w h c : Nat} (h0 : sv 0 = nI w) (hh : sv 1 = nI h) (h1 : 2 ≤ w) (h2 : w ≤ 6) (h3 : 2 ≤ h) (h4 : h ≤ 6) (hc : c < w * h) (ht : Nat → Int32) : f_X8_pull sv ht (nI c) = some (pullS w h (sv 2) ht c) := by
  have h36 := mul36 h2 h4
  unfold f_X8_pull f_X8_pull_12
  rw [if_pos (inb_nI (by omega) (by decide)), nI_clamp (by omega)]
  refine (ox_for (r := pullS w h (sv 2) ht c) (fun i => (itN (fun d t => t + nbS w h (sv 2) ht c d) ((-4) * ht c) i, nI i)) 4 rfl (by omega) ?_ ?_).trans ?_
  · intro i hi k
    show f_X8_pull_12b sv ht (nI c) _ (nI i) k = _
    unfold f_X8_pull_12b f_X8_pull_61
    rw [if_neg (show ¬ (4 : Int32) ≤ nI i from nI_ge (a := i) (b := 4) hi (by omega)), e8_next h0 hh h1 h2 h3 h4 hc hi, nI_1]
    simp only [ob1_s]
    show _ = k (itN _ _ i + nbS w h (sv 2) ht c i, _)
    unfold nxtI nbS beyS
    cases hn : nxt w h c i with
    | none =>
      show (if (-1 : Int32) < 0 then _ else _) = _
      rw [if_pos (by decide)]
      by_cases e : sv 2 = 1
      · rw [if_pos e, if_pos (inb_nI (by omega) (by decide)), nI_clamp (by omega)]
        show _ = k (_ + (if sv 2 = 1 then ht c else 0), _)
        rw [if_pos e]
      · rw [if_neg e]
        show _ = k (_ + (if sv 2 = 1 then ht c else 0), _)
        rw [if_neg e]
    | some j =>
      have hj := nxt_lt h1 h2 h3 h4 hc hi hn
      show (if nI j < 0 then _ else _) = _
      rw [if_neg (nI_pos (by omega)), if_pos (inb_nI (by omega) (by decide)), nI_clamp (by omega)]
  · intro k
    show f_X8_pull_12b sv ht (nI c) _ (nI 4) k = _
    unfold f_X8_pull_12b
    rw [if_pos (show (4 : Int32) ≤ nI 4 by decide)]
    exact congrArg some (pull_ring _ _ _ _ _)
  · rfl
theorem e_p111 (ht : Nat → Int32) {x c : Nat} (hx : x ≤ c) (hc : c < 36) (ow be u r d : Int32) : f_X1_pull_111 ht (nI x) (nI c) ow be u r d = some ((((u + r) + d) + (if x = 0 then be else ht (c - 1))) - 4 * ow) := by
  unfold f_X1_pull_111 f_X1_pull_131
  by_cases e : x = 0
  · subst e
    rw [if_pos (show nI 0 ≤ (0 : Int32) by decide), if_pos rfl]
  · rw [if_neg (show ¬ nI x ≤ (0 : Int32) from nI_ge (a := 0) (b := x) (by omega) (by omega)), if_neg e, show nI c - 1 = nI (c - 1) from pk_sub (a := c) (b := 1) (by omega), if_pos (inb_nI (by omega) (by decide)), nI_clamp (by omega)]
theorem e_p84 (ht : Nat → Int32) {w h x y c : Nat} (hh : 1 ≤ h) (hcw : y + 1 < h → c + w < 36) (hh6 : h ≤ 6) (hy : y < h) (hx : x ≤ c) (hc : c < 36) (ow be u r : Int32) : f_X1_pull_84 ht (nI h) (nI x) (nI y) (nI w) (nI c) ow be u r = some ((((u + r) + (if y + 1 < h then ht (c + w) else be)) + (if x = 0 then be else ht (c - 1))) - 4 * ow) := by
  unfold f_X1_pull_84
  rw [show nI h - 1 = nI (h - 1) from pk_sub (a := h) (b := 1) hh]
  by_cases e : y + 1 < h
  · rw [if_neg (nI_ge (by omega) (by omega)), nI_add, if_pos (inb_nI (hcw e) (by decide)), nI_clamp (by have := hcw e; omega), e_p111 ht hx hc, if_pos e]
  · rw [if_pos (nI_le (by omega) (by omega)), e_p111 ht hx hc, if_neg e]
theorem e_p60 (ht : Nat → Int32) {w h x y c : Nat} (hw : 1 ≤ w) (hw6 : w ≤ 6) (hxw : x < w) (hc1 : x + 1 < w → c + 1 < 36) (hh : 1 ≤ h) (hcw : y + 1 < h → c + w < 36) (hh6 : h ≤ 6) (hy : y < h) (hx : x ≤ c) (hc : c < 36) (ow be u : Int32) : f_X1_pull_60 ht (nI h) (nI x) (nI y) (nI w) (nI c) ow be u = some ((((u + (if x + 1 < w then ht (c + 1) else be)) + (if y + 1 < h then ht (c + w) else be)) + (if x = 0 then be else ht (c - 1))) - 4 * ow) := by
  unfold f_X1_pull_60
  rw [show nI w - 1 = nI (w - 1) from pk_sub (a := w) (b := 1) hw]
  by_cases e : x + 1 < w
  · rw [if_neg (nI_ge (by omega) (by omega)), nI_1, if_pos (inb_nI (hc1 e) (by decide)), nI_clamp (by have := hc1 e; omega), e_p84 ht hh hcw hh6 hy hx hc, if_pos e]
  · rw [if_pos (nI_le (by omega) (by omega)), e_p84 ht hh hcw hh6 hy hx hc, if_neg e]
theorem e_p39 (ht : Nat → Int32) {w h x y c : Nat} (hw : 1 ≤ w) (hw6 : w ≤ 6) (hxw : x < w) (hc1 : x + 1 < w → c + 1 < 36) (hh : 1 ≤ h) (hcw : y + 1 < h → c + w < 36) (hh6 : h ≤ 6) (hy : y < h) (hcy : y ≠ 0 → w ≤ c) (hx : x ≤ c) (hc : c < 36) (ow be : Int32) : f_X1_pull_39 ht (nI h) (nI x) (nI y) (nI w) (nI c) ow be = some (((((if y = 0 then be else ht (c - w)) + (if x + 1 < w then ht (c + 1) else be)) + (if y + 1 < h then ht (c + w) else be)) + (if x = 0 then be else ht (c - 1))) - 4 * ow) := by
  unfold f_X1_pull_39
  by_cases e : y = 0
  · subst e
    rw [if_pos (show nI 0 ≤ (0 : Int32) by decide), if_pos rfl, e_p60 ht hw hw6 hxw hc1 hh hcw hh6 hy hx hc]
  · rw [if_neg (show ¬ nI y ≤ (0 : Int32) from nI_ge (a := 0) (b := y) (by omega) (by omega)), pk_sub (hcy e), if_pos (inb_nI (by omega) (by decide)), nI_clamp (by omega), e_p60 ht hw hw6 hxw hc1 hh hcw hh6 hy hx hc, if_neg e]
theorem e_pull (ht nu : Nat → Int32) {w h x y : Nat} (h1 : 2 ≤ w) (h2 : w ≤ 6) (h3 : 2 ≤ h) (h4 : h ≤ 6) (hx : x < w) (hy : y < h) : f_X1_pull ht (nI w) (nI h) nu (nI x) (nI y) = some (pullS w h (nu 0) ht (w * y + x)) := by
  have h36 := mul36 h2 h4
  have hc := cl_lt hx hy
  have hm := cl_mod (y := y) hx
  have hd := cl_div (y := y) hx
  have k1 : x + 1 < w → w * y + x + 1 < 36 := fun e => by have := cl_lt e hy; omega
  have k2 : y + 1 < h → w * y + x + w < 36 := fun e => by
    have := cl_lt hx e
    rw [Nat.mul_add, Nat.mul_one] at this
    omega
  have k3 : y ≠ 0 → w ≤ w * y + x := fun e => by
    have : w * 1 ≤ w * y := Nat.mul_le_mul_left w (by omega)
    omega
  have P : ∀ be : Int32, be = beyS (nu 0) ht (w * y + x) → f_X1_pull_39 ht (nI h) (nI x) (nI y) (nI w) (nI (w * y + x)) (ht (w * y + x)) be = some (pullS w h (nu 0) ht (w * y + x)) := by
    intro be hbe
    rw [e_p39 ht (by omega) h2 hx k1 (by omega) k2 h4 hy k3 (by omega) (by omega)]
    unfold pullS
    rw [nbS0, nbS1, nbS2, nbS3, hm, hd, ← hbe]
  unfold f_X1_pull
  rw [nI_cell, if_pos (inb_nI (by omega) (by decide)), nI_clamp (by omega)]
  by_cases e : nu 0 = 1
  · rw [if_pos e, P _ (by unfold beyS; rw [if_pos e])]
  · rw [if_neg e, P _ (by unfold beyS; rw [if_neg e])]
