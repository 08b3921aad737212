/-! how far apart -/
def apF (z : Int32) (fi st : Nat → Int32) (w n k : Nat) (s : Int32) : Int32 := s + (if fi k = 1 then nrN st w k z n else 0) + (if st k = 0 then 0 else nrN fi w k z n)
def apN (z : Int32) (fi st : Nat → Int32) (w n m : Nat) : Int32 := itN (apF z fi st w n) 0 m
theorem gK1 (fi st : Nat → Int32) : gK 1 fi st = st := if_neg (show ¬ (1 : Int32) = 0 by decide)
theorem gK0 (fi st : Nat → Int32) : gK 0 fi st = fi := if_pos rfl
theorem ap53 {sv : Nat → Int32} {w h c : Nat} (h0 : sv 0 = nI w) (hh : sv 1 = nI h) (h1 : 2 ≤ w) (h2 : w ≤ 6) (h4 : h ≤ 6) (hc : c < w * h) (mo : Nat → Int32) (a b : Int32) (k : Int32 × Int32 → Option Int32) : f_X8_apart_53 sv mo (nI c) a b k = k (a + b + (if sL_ (sv 7) mo c = 0 then 0 else nrN (fun c => sv (9 + c)) w c 100 (w * h)), nI (c + 1)) := by
  have h36 := mul36 h2 h4
  unfold f_X8_apart_53 f_X8_apart_74
  rw [e8_isStill sv mo (by omega), ob1_s, e8_nearest h0 hh h1 h2 h4 hc, ob1_s, gK0, nI_1]
  by_cases q : sL_ (sv 7) mo c = 0
  · rw [if_pos q, if_pos q]
  · rw [if_neg q, if_neg q]
theorem e8_apart {sv : Nat → Int32} {w h : Nat} (h0 : sv 0 = nI w) (hh : sv 1 = nI h) (h1 : 2 ≤ w) (h2 : w ≤ 6) (h4 : h ≤ 6) (mo : Nat → Int32) : f_X8_apart sv mo = some (if sumN (fun c => sv (9 + c)) (w * h) = 0 then -9 else if sumN (sL_ (sv 7) mo) (w * h) = 0 then -9 else apN 100 (fun c => sv (9 + c)) (sL_ (sv 7) mo) w (w * h) (w * h)) := by
  have h36 := mul36 h2 h4
  unfold f_X8_apart f_X8_apart_14
  rw [e8_figure h0 hh h36, ob1_s, e8_stillMany h0 hh h36, ob1_s]
  by_cases q1 : sumN (fun c => sv (9 + c)) (w * h) = 0
  · rw [if_pos q1, if_pos q1]
  · rw [if_neg q1, if_neg q1]
    by_cases q2 : sumN (sL_ (sv 7) mo) (w * h) = 0
    · rw [if_pos q2, if_pos q2]
    · rw [if_neg q2, if_neg q2]
      unfold f_X8_apart_21
      refine (ox_for (r := apN 100 (fun c => sv (9 + c)) (sL_ (sv 7) mo) w (w * h) (w * h)) (fun i => (apN 100 (fun c => sv (9 + c)) (sL_ (sv 7) mo) w (w * h) i, nI i)) (w * h) rfl (by omega) ?_ ?_).trans ?_
      · intro i hi k
        show f_X8_apart_21b sv mo (apN 100 (fun c => sv (9 + c)) (sL_ (sv 7) mo) w (w * h) i) (nI i) k = k (apF 100 (fun c => sv (9 + c)) (sL_ (sv 7) mo) w (w * h) i (apN 100 (fun c => sv (9 + c)) (sL_ (sv 7) mo) w (w * h) i), nI (i + 1))
        unfold f_X8_apart_21b apF
        rw [e8_cells h0 hh, ob1_s, if_neg (nI_ge hi (by omega)), show (9 : Int32) + nI i = nI (9 + i) from nI_add 9 i, if_pos (inb_nI (by omega) (by decide)), nI_clamp (by omega), e8_nearest h0 hh h1 h2 h4 hi, ob1_s, ap53 h0 hh h1 h2 h4 hi, ap53 h0 hh h1 h2 h4 hi, gK1]
        by_cases q : sv (9 + i) = 1
        · rw [if_pos q, if_pos q]
        · rw [if_neg q, if_neg q]
      · intro k
        show f_X8_apart_21b sv mo _ (nI (w * h)) k = _
        unfold f_X8_apart_21b
        rw [e8_cells h0 hh, ob1_s, if_pos (nI_le (Nat.le_refl _) (by omega))]
      · rfl
theorem ap78 {w h i j : Nat} (h2 : w ≤ 6) (h4 : h ≤ 6) (hi : i < w) (hj : j < h) (nu fi mo : Nat → Int32) (a b : Int32) (k : Int32 × Int32 → Option Int32) : f_X2_apart_78 (nI w) (nI h) nu fi mo (nI j) (nI i) (nI (w * j + i)) a b k = k (a + b + (if stB_ nu mo (w * j + i) = 0 then 0 else nrN fi w (w * j + i) 36 (w * h)), nI (i + 1)) := by
  have h36 := mul36 h2 h4
  have hc := cellN_lt hi hj
  unfold f_X2_apart_78 f_X2_apart_104
  rw [e_isStill nu mo (by omega), ob1_s, e_nearest h2 h4 hi hj, ob1_s, gK0, nI_1]
  by_cases q : stB_ nu mo (w * j + i) = 0
  · rw [if_pos q, if_pos q]
  · rw [if_neg q, if_neg q]
theorem ap33 {w h j : Nat} (h2 : w ≤ 6) (h4 : h ≤ 6) (hj : j < h) (nu fi mo : Nat → Int32) (k : Int32 × Int32 → Option Int32) :
    f_X2_apart_33 (nI w) (nI h) nu fi mo (apN 36 fi (stB_ nu mo) w (w * h) (w * j)) (nI j) 0 k = k (apN 36 fi (stB_ nu mo) w (w * h) (w * (j + 1)), nI (j + 1)) := by
  have h36 := mul36 h2 h4
  unfold f_X2_apart_33
  refine (ox_for (r := apN 36 fi (stB_ nu mo) w (w * h) (w * j + w)) (fun i => (apN 36 fi (stB_ nu mo) w (w * h) (w * j + i), nI i)) w rfl (by omega) ?_ ?_).trans ?_
  · intro i hi k
    have hc := cellN_lt hi hj
    show f_X2_apart_33b (nI w) (nI h) nu fi mo (nI j) (apN 36 fi (stB_ nu mo) w (w * h) (w * j + i)) (nI i) k = k (apF 36 fi (stB_ nu mo) w (w * h) (w * j + i) (apN 36 fi (stB_ nu mo) w (w * h) (w * j + i)), nI (i + 1))
    unfold f_X2_apart_33b apF
    rw [if_neg (nI_ge hi (by omega)), nI_cell, if_pos (inb_nI (by omega) (by decide)), nI_clamp (by omega), e_nearest h2 h4 hi hj, ob1_s, ap78 h2 h4 hi hj, ap78 h2 h4 hi hj, gK1]
    by_cases q : fi (w * j + i) = 1
    · rw [if_pos q, if_pos q]
    · rw [if_neg q, if_neg q]
  · intro k
    show f_X2_apart_33b (nI w) (nI h) nu fi mo (nI j) _ (nI w) k = _
    unfold f_X2_apart_33b
    rw [if_pos (nI_le (Nat.le_refl _) (by omega))]
  · show f_X2_apart_112 (nI w) (nI h) nu fi mo _ (nI j) k = _
    unfold f_X2_apart_112
    rw [nI_1, Nat.mul_succ]
theorem e_apart {w h : Nat} (h2 : w ≤ 6) (h4 : h ≤ 6) (nu fi mo : Nat → Int32) : f_X2_apart (nI w) (nI h) nu fi mo = some (if sumN fi (w * h) = 0 then -9 else if sumN (stB_ nu mo) (w * h) = 0 then -9 else apN 36 fi (stB_ nu mo) w (w * h) (w * h)) := by
  have h36 := mul36 h2 h4
  unfold f_X2_apart f_X2_apart_15
  rw [e_cellsOfFigure h36, ob1_s, e_stillCells h36, ob1_s]
  by_cases q1 : sumN fi (w * h) = 0
  · rw [if_pos q1, if_pos q1]
  · rw [if_neg q1, if_neg q1]
    by_cases q2 : sumN (stB_ nu mo) (w * h) = 0
    · rw [if_pos q2, if_pos q2]
    · rw [if_neg q2, if_neg q2]
      unfold f_X2_apart_22
      refine (ox_for (r := apN 36 fi (stB_ nu mo) w (w * h) (w * h)) (fun j => (apN 36 fi (stB_ nu mo) w (w * h) (w * j), nI j)) h rfl (by omega) ?_ ?_).trans ?_
      · intro j hj k
        show f_X2_apart_22b (nI w) (nI h) nu fi mo _ (nI j) k = _
        unfold f_X2_apart_22b
        rw [if_neg (nI_ge hj (by omega)), ap33 h2 h4 hj]
      · intro k
        show f_X2_apart_22b (nI w) (nI h) nu fi mo _ (nI h) k = _
        unfold f_X2_apart_22b
        rw [if_pos (nI_le (Nat.le_refl _) (by omega))]
      · rfl
theorem nrN_congr {g g' : Nat → Int32} {w c n : Nat} {z : Int32} (hg : ∀ k, k < n → g k = g' k) : nrN g w c z n = nrN g' w c z n :=
  itN_congr n (fun k hk t => by unfold nrF; rw [hg k hk])
theorem ap_same {fi fj st su : Nat → Int32} {w h : Nat} (h1 : 2 ≤ w) (h2 : w ≤ 6) (h4 : h ≤ 6) (hf : ∀ k, k < w * h → fi k = fj k) (hs : ∀ k, k < w * h → st k = su k) (f01 : ∀ k, k < w * h → fi k = 0 ∨ fi k = 1) (s01 : ∀ k, k < w * h → st k = 0 ∨ st k = 1) :
    (if sumN fi (w * h) = 0 then (-9 : Int32) else if sumN st (w * h) = 0 then -9 else apN 36 fi st w (w * h) (w * h)) = (if sumN fj (w * h) = 0 then -9 else if sumN su (w * h) = 0 then -9 else apN 100 fj su w (w * h) (w * h)) := by
  rw [← sumN_congr (w * h) hf, ← sumN_congr (w * h) hs]
  by_cases q1 : sumN fi (w * h) = 0
  · rw [if_pos q1, if_pos q1]
  · rw [if_neg q1, if_neg q1]
    by_cases q2 : sumN st (w * h) = 0
    · rw [if_pos q2, if_pos q2]
    · rw [if_neg q2, if_neg q2]
      refine itN_congr (w * h) (fun k hk t => ?_)
      unfold apF
      rw [nr_same h1 h2 h4 hk s01 q2, nr_same h1 h2 h4 hk f01 q1, nrN_congr hf, nrN_congr hs, hf k hk, hs k hk]
