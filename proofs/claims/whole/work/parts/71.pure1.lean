/-! the model's small questions -/
theorem in18_0 : f_X8_in_18 0 = some 0 := rfl
theorem in18_1 : f_X8_in_18 1 = some 1 := rfl
theorem e8_in (x lo hi : Int64) : f_X8_in x lo hi = some (if lo ≤ x ∧ x ≤ hi then 1 else 0) := by
  unfold f_X8_in f_X8_in_17
  rw [in18_0, in18_1]
  by_cases h1 : x < lo
  · have h2 : ¬ lo ≤ x := fun q => by
      have a := Int64.lt_iff_toInt_lt.mp h1
      have b := Int64.le_iff_toInt_le.mp q
      omega
    rw [if_pos ((lg_cmp_lt x lo).mpr h1), if_neg (fun q : lo ≤ x ∧ x ≤ hi => h2 q.1)]
  · have h2 : lo ≤ x := Int64.le_iff_toInt_le.mpr (by
      have : ¬ x.toInt < lo.toInt := fun q => h1 (Int64.lt_iff_toInt_lt.mpr q)
      omega)
    rw [if_neg (fun q => h1 ((lg_cmp_lt x lo).mp q))]
    by_cases h3 : hi < x
    · have h4 : ¬ x ≤ hi := fun q => by
        have a := Int64.lt_iff_toInt_lt.mp h3
        have b := Int64.le_iff_toInt_le.mp q
        omega
      rw [if_pos ((lg_cmp_gt x hi).mpr h3), if_neg (fun q : lo ≤ x ∧ x ≤ hi => h4 q.2)]
    · have h4 : x ≤ hi := Int64.le_iff_toInt_le.mpr (by
        have : ¬ hi.toInt < x.toInt := fun q => h3 (Int64.lt_iff_toInt_lt.mpr q)
        omega)
      rw [if_neg (fun q => h3 ((lg_cmp_gt x hi).mp q)), if_pos (⟨h2, h4⟩ : lo ≤ x ∧ x ≤ hi)]
theorem t64_le {x y : Int32} : x.toInt64 ≤ y.toInt64 ↔ x ≤ y := by
  rw [Int64.le_iff_toInt_le, Int32.le_iff_toInt_le, Int32.toInt_toInt64, Int32.toInt_toInt64]
theorem e8_inI (x lo hi : Int32) : f_X8_in x.toInt64 lo.toInt64 hi.toInt64 = some (if lo ≤ x ∧ x ≤ hi then 1 else 0) := by
  rw [e8_in]
  simp only [t64_le]
def sL_ (lim : Int32) (mo : Nat → Int32) (c : Nat) : Int32 := if lim < mo c then 0 else 1
theorem stB_L (nu mo : Nat → Int32) (c : Nat) : stB_ nu mo c = sL_ (nu 5) mo c := rfl
theorem sL_01 (lim : Int32) (mo : Nat → Int32) (c : Nat) : sL_ lim mo c = 0 ∨ sL_ lim mo c = 1 := by
  unfold sL_
  by_cases h : lim < mo c
  · rw [if_pos h]; exact Or.inl rfl
  · rw [if_neg h]; exact Or.inr rfl
theorem e8_cells {sv : Nat → Int32} {w h : Nat} (h0 : sv 0 = nI w) (h1 : sv 1 = nI h) : f_X8_cells sv = some (nI (w * h)) := by unfold f_X8_cells; rw [h0, h1, pk_mul]
theorem e8_isStill (sv mo : Nat → Int32) {c : Nat} (hc : c < 36) : f_X8_isStill sv mo (nI c) = some (sL_ (sv 7) mo c) := by
  unfold f_X8_isStill f_X8_isStill_21 sL_
  rw [if_pos (inb_nI hc (by decide)), nI_clamp (by omega)]
  by_cases h : sv 7 < mo c
  · rw [if_pos h, if_pos h]; rfl
  · rw [if_neg h, if_neg h]; rfl
theorem e8_figure {sv : Nat → Int32} {w h : Nat} (h0 : sv 0 = nI w) (h1 : sv 1 = nI h) (hc : w * h ≤ 36) : f_X8_figure sv = some (sumN (fun c => sv (9 + c)) (w * h)) := by
  unfold f_X8_figure f_X8_figure_4
  refine (ox_for (r := sumN (fun c => sv (9 + c)) (w * h)) (fun i => (sumN (fun c => sv (9 + c)) i, nI i)) (w * h) rfl (by omega) ?_ ?_).trans ?_
  · intro i hi k
    show f_X8_figure_4b sv _ (nI i) k = _
    unfold f_X8_figure_4b
    simp only [e8_cells h0 h1, ob1_s]
    rw [if_neg (nI_ge hi (by omega)), show (9 : Int32) + nI i = nI (9 + i) from nI_add 9 i, if_pos (inb_nI (by omega) (by decide)), nI_clamp (by omega), nI_1]
    rfl
  · intro k
    show f_X8_figure_4b sv _ (nI (w * h)) k = _
    unfold f_X8_figure_4b
    simp only [e8_cells h0 h1, ob1_s]
    rw [if_pos (nI_le (Nat.le_refl _) (by omega))]
  · rfl
theorem e8_stillMany {sv : Nat → Int32} {w h : Nat} (h0 : sv 0 = nI w) (h1 : sv 1 = nI h) (hc : w * h ≤ 36) (mo : Nat → Int32) : f_X8_stillMany sv mo = some (sumN (sL_ (sv 7) mo) (w * h)) := by
  unfold f_X8_stillMany f_X8_stillMany_4
  refine (ox_for (r := sumN (sL_ (sv 7) mo) (w * h)) (fun i => (sumN (sL_ (sv 7) mo) i, nI i)) (w * h) rfl (by omega) ?_ ?_).trans ?_
  · intro i hi k
    show f_X8_stillMany_4b sv mo _ (nI i) k = _
    unfold f_X8_stillMany_4b f_X8_stillMany_26
    simp only [e8_cells h0 h1, ob1_s]
    rw [if_neg (nI_ge hi (by omega)), e8_isStill sv mo (by omega), nI_1]
    simp only [ob1_s]
    show _ = k (sumN _ i + _, _)
    rcases sL_01 (sv 7) mo i with e | e
    · rw [e, if_pos rfl]
    · rw [e, if_neg (by decide)]
  · intro k
    show f_X8_stillMany_4b sv mo _ (nI (w * h)) k = _
    unfold f_X8_stillMany_4b
    simp only [e8_cells h0 h1, ob1_s]
    rw [if_pos (nI_le (Nat.le_refl _) (by omega))]
  · rfl
def lkL (lim : Int32) (fi mo : Nat → Int32) (c : Nat) : Int32 := if sL_ lim mo c = (if fi c = 1 then 1 else 0) then 1 else 0
theorem e8_likeness {sv : Nat → Int32} {w h : Nat} (h0 : sv 0 = nI w) (h1 : sv 1 = nI h) (hc : w * h ≤ 36) (mo : Nat → Int32) : f_X8_likeness sv mo = some (sumN (lkL (sv 7) (fun c => sv (9 + c)) mo) (w * h)) := by
  unfold f_X8_likeness f_X8_likeness_4
  refine (ox_for (r := sumN (lkL (sv 7) (fun c => sv (9 + c)) mo) (w * h)) (fun i => (sumN (lkL (sv 7) (fun c => sv (9 + c)) mo) i, nI i)) (w * h) rfl (by omega) ?_ ?_).trans ?_
  · intro i hi k
    show f_X8_likeness_4b sv mo _ (nI i) k = _
    unfold f_X8_likeness_4b f_X8_likeness_36 f_X8_likeness_44
    simp only [e8_cells h0 h1, ob1_s]
    rw [if_neg (nI_ge hi (by omega)), e8_isStill sv mo (by omega), nI_1]
    simp only [ob1_s]
    rw [show (9 : Int32) + nI i = nI (9 + i) from nI_add 9 i, if_pos (inb_nI (by omega) (by decide)), nI_clamp (by omega)]
    show _ = k (sumN _ i + lkL (sv 7) (fun c => sv (9 + c)) mo i, _)
    unfold lkL
    show _ = k (sumN _ i + (if sL_ (sv 7) mo i = (if sv (9 + i) = 1 then 1 else 0) then 1 else 0), _)
    by_cases e : sv (9 + i) = 1
    · rw [if_pos e, if_pos e]
      by_cases e2 : sL_ (sv 7) mo i = 1
      · rw [if_pos e2, if_pos e2]
      · rw [if_neg e2, if_neg e2]
    · rw [if_neg e, if_neg e]
      by_cases e2 : sL_ (sv 7) mo i = 0
      · rw [if_pos e2, if_pos e2]
      · rw [if_neg e2, if_neg e2]
  · intro k
    show f_X8_likeness_4b sv mo _ (nI (w * h)) k = _
    unfold f_X8_likeness_4b
    simp only [e8_cells h0 h1, ob1_s]
    rw [if_pos (nI_le (Nat.le_refl _) (by omega))]
  · rfl
