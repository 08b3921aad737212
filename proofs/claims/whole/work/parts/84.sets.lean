/-! settings, drives, drawing, sand -/
theorem rng {v : Int32} {a b : Nat} (ha : a < 2 ^ 31) (hb : b < 2 ^ 31) (h1 : nI a ≤ v) (h2 : v ≤ nI b) : ∃ x, a ≤ x ∧ x ≤ b ∧ v = nI x := by
  have z : ¬ v < 0 := fun q => by
    have a1 := Int32.le_iff_toInt_le.mp h1
    have a2 := Int32.lt_iff_toInt_lt.mp q
    rw [nI_toInt ha] at a1
    have : (0 : Int32).toInt = 0 := by decide
    omega
  obtain ⟨x, hx, rfl⟩ := nI_of z
  exact ⟨x, (nI_leI ha hx).mp h1, (nI_leI hx hb).mp h2, rfl⟩
theorem NR_sets {w h j : Nat} {nu : Nat → Int32} {v : Int32} (q : NR w h nu) (hj : j < 6) (hv : tbl1 j ≤ v ∧ v ≤ tbl2 j) : NR w h (upd nu j v) := by
  obtain ⟨lo, pe, dr, c1, c2, c3, c4, c5, c6, c7, c8⟩ := q
  by_cases e2 : j = 2
  · subst e2
    obtain ⟨x, x1, x2, rfl⟩ := rng (a := 2) (b := 20) (by omega) (by omega) (show nI 2 ≤ v from hv.1) (show v ≤ nI 20 from hv.2)
    exact ⟨x, pe, dr, by rw [pk_us], x1, x2, by rw [pk_un (by omega), c4], c5, c6, by rw [pk_un (by omega), c7], c8⟩
  · by_cases e4 : j = 4
    · subst e4
      obtain ⟨x, x1, x2, rfl⟩ := rng (a := 2) (b := 20) (by omega) (by omega) (show nI 2 ≤ v from hv.1) (show v ≤ nI 20 from hv.2)
      exact ⟨lo, x, dr, by rw [pk_un (by omega), c1], c2, c3, by rw [pk_us], x1, x2, by rw [pk_un (by omega), c7], c8⟩
    · exact ⟨lo, pe, dr, by rw [pk_un (by omega), c1], c2, c3, by rw [pk_un (by omega), c4], c5, c6, by rw [pk_un (by omega), c7], c8⟩
theorem NR_dr {w h d : Nat} {nu : Nat → Int32} (q : NR w h nu) (hd : d < w * h) : NR w h (upd nu 6 (nI d)) := by
  obtain ⟨lo, pe, dr, c1, c2, c3, c4, c5, c6, c7, c8⟩ := q
  exact ⟨lo, pe, d, by rw [pk_un (by omega), c1], c2, c3, by rw [pk_un (by omega), c4], c5, c6, by rw [pk_us], hd⟩
theorem i_lt_of {x y : Int32} (h : ¬ x ≤ y) : y < x := Int32.lt_iff_toInt_lt.mpr (by
  have : ¬ x.toInt ≤ y.toInt := fun q => h (Int32.le_iff_toInt_le.mpr q)
  omega)
theorem i_le_of {x y : Int32} (h : ¬ x < y) : y ≤ x := Int32.le_iff_toInt_le.mpr (by
  have : ¬ x.toInt < y.toInt := fun q => h (Int32.lt_iff_toInt_lt.mpr q)
  omega)
theorem ge_nn {x : Int32} {n : Nat} (hn : n < 2 ^ 31) (h : nI n ≤ x) : ¬ x < 0 := fun q => by
  have a1 := Int32.le_iff_toInt_le.mp h
  have a2 := Int32.lt_iff_toInt_lt.mp q
  rw [nI_toInt hn] at a1
  have : (0 : Int32).toInt = 0 := by decide
  omega
theorem e_sets {kn w h : Nat} (hk : kn ≤ 6) {pW pH : Nat → Int32} {pN pF pG : Nat → Nat → Int32} {nu fi gr sv bf : Nat → Int32} (had : Nat → Nat) (hH : HI kn pW pH pN pF pG bf) (hP : PW w h nu fi gr sv) (x v : Int32) :
    ∃ r nu' k' had' pW' pH' pN' pF' pG' sv' b', k' ≤ 6 ∧ f_X7_sets (nI w) (nI h) nu fi gr (nI kn) had pW pH pN pF pG x v = some (r, nu', nI k', had', pW', pH', pN', pF', pG') ∧ f_X8_sets (nI kn) sv bf x v = some (r, nI k', sv', b') ∧ PW w h nu' fi gr sv' ∧ HI k' pW' pH' pN' pF' pG' b' := by
  unfold f_X7_sets f_X8_sets f_X7_sets_28 f_X8_sets_31 f_X8_sets_32
  rw [show (5 : Int64) = (nI 6 - 1).toInt64 by decide]
  rcases pk_ix x (n := 6) (by omega) with q | q | ⟨j, hj, rfl⟩
  · rw [if_pos q, in_no1 _ q, ob1_s, if_pos rfl]
    exact ⟨_, _, kn, _, _, _, _, _, _, _, _, hk, rfl, rfl, hP, hH⟩
  · rw [if_neg (ge_nn (by omega) q), if_pos (show (6 : Int32) ≤ x from q), in_no2 (by omega) (by omega) q, ob1_s, if_pos rfl]
    exact ⟨_, _, kn, _, _, _, _, _, _, _, _, hk, rfl, rfl, hP, hH⟩
  · rw [if_neg (nI_pos (n := j) (by omega)), if_neg (show ¬ (6 : Int32) ≤ nI j from nI_ge (a := j) (b := 6) hj (by omega)), if_pos (inb_nI hj (by decide)), if_pos (inb_nI hj (by decide)), nI_clamp (by omega), in_yes hj (by omega), ob1_s, if_neg (show ¬ (1 : Int32) = 0 by decide), e_may hj, ob1_s]
    by_cases q1 : v < tbl1 j
    · rw [if_pos q1, if_neg (show ¬ (tbl1 j ≤ v ∧ v ≤ tbl2 j) from fun z => i_nle q1 z.1), if_pos rfl]
      exact ⟨_, _, kn, _, _, _, _, _, _, _, _, hk, rfl, rfl, hP, hH⟩
    · rw [if_neg q1]
      by_cases q2 : v ≤ tbl2 j
      · have hv : tbl1 j ≤ v ∧ v ≤ tbl2 j := ⟨i_le_of q1, q2⟩
        obtain ⟨r, nu', k', had', pW', pH', pN', pF', pG', sv', b', g1, g2, g3, g4, g5⟩ := e_change hk had hH hP (j := j) (v := v) (by omega) (NR_sets hP.2.2.2.1 hj hv)
        rw [if_pos q2, if_pos hv, if_neg (show ¬ (1 : Int32) = 0 by decide), g2, show (2 : Int32) + nI j = nI (2 + j) from nI_add 2 j, g3, ob9_s, ob4_s]
        exact ⟨_, _, k', _, _, _, _, _, _, _, _, g1, rfl, rfl, g4, g5⟩
      · rw [if_neg q2, if_neg (show ¬ (tbl1 j ≤ v ∧ v ≤ tbl2 j) from fun z => q2 z.2), if_pos rfl]
        exact ⟨_, _, kn, _, _, _, _, _, _, _, _, hk, rfl, rfl, hP, hH⟩
theorem e_drives {kn w h : Nat} (hk : kn ≤ 6) {pW pH : Nat → Int32} {pN pF pG : Nat → Nat → Int32} {nu fi gr sv bf : Nat → Int32} (had : Nat → Nat) (hH : HI kn pW pH pN pF pG bf) (hP : PW w h nu fi gr sv) (x y : Int32) :
    ∃ r nu' k' had' pW' pH' pN' pF' pG' sv' b', k' ≤ 6 ∧ f_X7_drives (nI w) (nI h) nu fi gr (nI kn) had pW pH pN pF pG x y = some (r, nu', nI k', had', pW', pH', pN', pF', pG') ∧ f_X8_drives (nI kn) sv bf x y = some (r, nI k', sv', b') ∧ PW w h nu' fi gr sv' ∧ HI k' pW' pH' pN' pF' pG' b' := by
  obtain ⟨⟨a1, a2, a3, a4⟩, ⟨b1, b2⟩, _⟩ := id hP
  unfold f_X7_drives f_X8_drives f_X7_drives_25 f_X8_drives_29
  rcases cell_cases b1 b2 (by omega) a2 (by omega) a4 x y with ⟨i, j, hi, hj, rfl, rfl, c1, c2⟩ | ⟨c1, c2⟩
  · have hc := cellN_lt hi hj
    have h36 := mul36 a2 a4
    obtain ⟨r, nu', k', had', pW', pH', pN', pF', pG', sv', b', g1, g2, g3, g4, g5⟩ := e_change hk had hH hP (j := 6) (v := nI (w * j + i)) (by omega) (NR_dr hP.2.2.2.1 hc)
    rw [c1, c2, ob1_s, ob1_s, if_pos (show (0 : Int32) ≤ nI (w * j + i) from nI_le (a := 0) (Nat.zero_le _) (by omega)), if_neg (show ¬ (1 : Int32) = 0 by decide), show (6 : Int32) = nI 6 by decide, g2, ob9_s, b1, nI_cell, show (8 : Int32) = nI (2 + 6) by decide, g3, ob4_s]
    exact ⟨_, _, k', _, _, _, _, _, _, _, _, g1, rfl, rfl, g4, g5⟩
  · rw [c1, c2, ob1_s, ob1_s, if_neg (show ¬ (0 : Int32) ≤ -1 by decide), if_pos rfl]
    exact ⟨_, _, kn, _, _, _, _, _, _, _, _, hk, rfl, rfl, hP, hH⟩
