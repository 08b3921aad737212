/-! cells by column and row; heights -/
theorem i_nle {x y : Int32} (h : x < y) : ¬ y ≤ x := fun q => by
  have a := Int32.lt_iff_toInt_lt.mp h
  have b := Int32.le_iff_toInt_le.mp q
  omega
theorem i_nlt {x y : Int32} (h : x ≤ y) : ¬ y < x := fun q => i_nle q h
theorem z64 : (0 : Int64) = (0 : Int32).toInt64 := by decide
theorem in_yes {j n : Nat} (h : j < n) (hn : n < 2 ^ 31) : f_X8_in (nI j).toInt64 0 (nI n - 1).toInt64 = some 1 := by
  rw [z64, e8_inI, show nI n - 1 = nI (n - 1) from pk_sub (a := n) (b := 1) (by omega)]
  rw [if_pos ⟨show (0 : Int32) ≤ nI j from nI_le (a := 0) (Nat.zero_le _) (by omega), nI_le (by omega) (by omega)⟩]
theorem in_no1 {x : Int32} (hi : Int32) (h : x < 0) : f_X8_in x.toInt64 0 hi.toInt64 = some 0 := by
  rw [z64, e8_inI, if_neg (fun q => i_nle h q.1)]
theorem in_no2 {x : Int32} {n : Nat} (h0 : 0 < n) (hn : n < 2 ^ 31) (h : nI n ≤ x) : f_X8_in x.toInt64 0 (nI n - 1).toInt64 = some 0 := by
  rw [z64, e8_inI, show nI n - 1 = nI (n - 1) from pk_sub (a := n) (b := 1) (by omega)]
  rw [if_neg (fun q => ?_)]
  have a := Int32.le_iff_toInt_le.mp h
  have b := Int32.le_iff_toInt_le.mp q.2
  rw [nI_toInt (by omega)] at a b
  omega
theorem isC41_0 : f_X8_isCell_41 0 = some 0 := by decide
theorem isC41_1 : f_X8_isCell_41 1 = some 1 := by decide
theorem cell_cases {sv : Nat → Int32} {w h : Nat} (h0 : sv 0 = nI w) (hh : sv 1 = nI h) (hw : 0 < w) (hw6 : w ≤ 6) (hh0 : 0 < h) (hh6 : h ≤ 6) (x y : Int32) :
    (∃ i j, i < w ∧ j < h ∧ x = nI i ∧ y = nI j ∧ f_X2_cellAt (nI w) (nI h) x y = some (nI (w * j + i)) ∧ f_X8_isCell sv x y = some 1) ∨ (f_X2_cellAt (nI w) (nI h) x y = some (-1) ∧ f_X8_isCell sv x y = some 0) := by
  unfold f_X2_cellAt f_X2_cellAt_24 f_X8_isCell f_X8_isCell_40
  rw [h0, hh, isC41_0, isC41_1]
  rcases pk_ix x (n := w) (by omega) with a | a | ⟨i, hi, rfl⟩
  · right
    rw [if_pos a, in_no1 _ a, ob1_s, if_pos rfl]
    exact ⟨rfl, rfl⟩
  · right
    have hx : ¬ x < 0 := fun q => by
      have a1 := Int32.le_iff_toInt_le.mp a
      have a2 := Int32.lt_iff_toInt_lt.mp q
      rw [nI_toInt (by omega)] at a1
      have : (0 : Int32).toInt = 0 := by decide
      omega
    rw [if_neg hx, if_pos a, in_no2 hw (by omega) a, ob1_s, if_pos rfl]
    exact ⟨rfl, rfl⟩
  · rw [if_neg (nI_pos (n := i) (by omega)), if_neg (nI_ge hi (by omega)), in_yes hi (by omega), ob1_s, if_neg (show ¬ (1 : Int32) = 0 by decide)]
    rcases pk_ix y (n := h) (by omega) with a | a | ⟨j, hj, rfl⟩
    · right
      rw [if_pos a, in_no1 _ a, ob1_s, if_pos rfl]
      exact ⟨rfl, rfl⟩
    · right
      have hx : ¬ y < 0 := fun q => by
        have a1 := Int32.le_iff_toInt_le.mp a
        have a2 := Int32.lt_iff_toInt_lt.mp q
        rw [nI_toInt (by omega)] at a1
        have : (0 : Int32).toInt = 0 := by decide
        omega
      rw [if_neg hx, if_neg (i_nlt a), in_no2 hh0 (by omega) a, ob1_s, if_pos rfl]
      exact ⟨rfl, rfl⟩
    · left
      refine ⟨i, j, hi, hj, rfl, rfl, ?_, ?_⟩
      · rw [if_neg (nI_pos (n := j) (by omega)), if_pos (nI_lt hj (by omega)), nI_cell]
      · rw [in_yes hj (by omega), ob1_s, if_neg (show ¬ (1 : Int32) = 0 by decide)]
theorem cellN_lt {w h i j : Nat} (hi : i < w) (hj : j < h) : w * j + i < w * h := by
  have : w * (j + 1) ≤ w * h := Nat.mul_le_mul_left w hj
  rw [Nat.mul_succ] at this
  omega
theorem e8_height31 {sv nu : Nat → Int32} {w h p dr lo i j n : Nat} (h0 : sv 0 = nI w) (hh : sv 1 = nI h) (hn : ∀ k, k < 7 → sv (2 + k) = nu k) (h1 : 2 ≤ w) (h2 : w ≤ 6) (h3 : 2 ≤ h) (h4 : h ≤ 6) (hpe : nu 4 = nI p) (hp : 0 < p) (hp2 : p < 1000) (hlo : nu 2 = nI lo) (hlo1 : 0 < lo) (hlo2 : lo < 1000) (hdr : nu 6 = nI dr) (hdr2 : dr < w * h) (hi : i < w) (hj : j < h) (hn2 : n < 100) (a b : Nat → Int32) :
    ∃ H V, f_X8_height_31 sv (z36 a) (z36 b) (nI i) (nI j) (nI n) 0 = some ((HV w h nu p dr n).1 (w * j + i), H, V) := by
  have h36 := mul36 h2 h4
  have hc := cellN_lt hi hj
  have h6 : sv 6 = nI p := by rw [← hpe, ← hn 4 (by omega)]
  refine ⟨(runN w h nu p dr (z36 a, z36 b) n).1, (runN w h nu p dr (z36 a, z36 b) n).2, ?_⟩
  unfold f_X8_height_31
  refine (ox_for (r := runN w h nu p dr (z36 a, z36 b) n) (fun t => ((runN w h nu p dr (z36 a, z36 b) t).1, (runN w h nu p dr (z36 a, z36 b) t).2, nI t)) n rfl (by omega) ?_ ?_).trans ?_
  · intro t ht k
    show f_X8_height_31b sv (nI i) (nI j) (nI n) _ _ (nI t) k = _
    unfold f_X8_height_31b
    rw [if_neg (nI_ge ht (by omega)), h6, e8_step h0 hh hn h1 h2 h3 h4 hp hp2 hlo hlo1 hlo2 hdr (by omega), nI_1, ob2_s]
    rfl
  · intro k
    show f_X8_height_31b sv (nI i) (nI j) (nI n) _ _ (nI n) k = _
    unfold f_X8_height_31b
    rw [if_pos (nI_le (Nat.le_refl _) (by omega))]
  · show f_X8_height_56 sv (runN w h nu p dr (z36 a, z36 b) n).1 (runN w h nu p dr (z36 a, z36 b) n).2 (nI i) (nI j) = _
    unfold f_X8_height_56
    rw [h0, nI_cell, if_pos (inb_nI (by omega) (by decide)), nI_clamp (by omega), (run_congr (s := (z36 a, z36 b)) (s' := (fun _ => 0, fun _ => 0)) (nu := nu) (nv := nu) (p := p) (dr := dr) h1 h2 h3 h4 (fun _ _ => rfl) (fun k hk => if_pos (show k < 36 by omega)) (fun k hk => if_pos (show k < 36 by omega)) n).1 (w * j + i) hc]
    rfl
theorem e_height {sv nu : Nat → Int32} {w h p dr lo : Nat} (h0 : sv 0 = nI w) (hh : sv 1 = nI h) (hn : ∀ k, k < 7 → sv (2 + k) = nu k) (h1 : 2 ≤ w) (h2 : w ≤ 6) (h3 : 2 ≤ h) (h4 : h ≤ 6) (hpe : nu 4 = nI p) (hp : 0 < p) (hp2 : p < 1000) (hlo : nu 2 = nI lo) (hlo1 : 0 < lo) (hlo2 : lo < 1000) (hdr : nu 6 = nI dr) (hdr2 : dr < w * h) (a b a8 b8 : Nat → Int32) (x y t : Int32) :
    ∃ r H V H8 V8, f_X7_height (nI w) (nI h) nu a b x y t = some (r, H, V) ∧ f_X8_height sv a8 b8 x y t = some (r, H8, V8) := by
  unfold f_X7_height f_X8_height f_X7_height_26 f_X8_height_21
  rcases cell_cases h0 hh (by omega) h2 (by omega) h4 x y with ⟨i, j, hi, hj, rfl, rfl, c1, c2⟩ | ⟨c1, c2⟩
  · have hc := cellN_lt hi hj
    have h36 := mul36 h2 h4
    rw [c1, c2, ob1_s, ob1_s, if_neg (nI_pos (n := w * j + i) (by omega)), if_neg (show ¬ (1 : Int32) = 0 by decide)]
    rw [show (60 : Int64) = (nI 61 - 1).toInt64 by decide]
    rcases pk_ix t (n := 61) (by omega) with q | q | ⟨n, hn6, rfl⟩
    · rw [if_pos q, in_no1 _ q, ob1_s, if_pos rfl]
      exact ⟨_, _, _, _, _, rfl, rfl⟩
    · have q0 : ¬ t < 0 := fun z => by
        have a1 := Int32.le_iff_toInt_le.mp q
        have a2 := Int32.lt_iff_toInt_lt.mp z
        rw [nI_toInt (by omega)] at a1
        have : (0 : Int32).toInt = 0 := by decide
        omega
      have q1 : ¬ t ≤ 60 := fun z => by
        have a1 := Int32.le_iff_toInt_le.mp q
        have a2 := Int32.le_iff_toInt_le.mp z
        rw [nI_toInt (by omega)] at a1
        have : (60 : Int32).toInt = 60 := by decide
        omega
      rw [if_neg q0, if_neg q1, in_no2 (by omega) (by omega) q, ob1_s, if_pos rfl]
      exact ⟨_, _, _, _, _, rfl, rfl⟩
    · obtain ⟨H, V, e1⟩ := e_heightBehind h1 h2 h3 h4 hpe hp hp2 hlo hlo1 hlo2 hdr hdr2 hc (n := n) (by omega) a b
      obtain ⟨H8, V8, e2⟩ := e8_height31 h0 hh hn h1 h2 h3 h4 hpe hp hp2 hlo hlo1 hlo2 hdr hdr2 hi hj (n := n) (by omega) a8 b8
      rw [if_neg (nI_pos (n := n) (by omega)), if_pos (show nI n ≤ 60 from nI_le (a := n) (b := 60) (by omega) (by omega)), e1, ob3_s, in_yes hn6 (by omega), ob1_s, if_neg (show ¬ (1 : Int32) = 0 by decide), e8_rests, ob2_s, e2]
      exact ⟨_, _, _, _, _, rfl, rfl⟩
  · rw [c1, c2, ob1_s, ob1_s, if_pos (show (-1 : Int32) < 0 by decide), if_pos rfl]
    exact ⟨_, _, _, _, _, rfl, rfl⟩
