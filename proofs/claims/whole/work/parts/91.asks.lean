/-! letters, what was seen, small questions -/
def TXR (L : Int32) (lt : Nat → Int32) (L8 : Int32) (tx : Nat → Int32) : Prop := ∃ n, n ≤ 120 ∧ L = nI n ∧ L8 = nI n ∧ ∀ k, k < n → ∃ c, c < 256 ∧ lt k = nI c ∧ tx k = nI c
def SER (m : Int32) (cs ws : Nat → Int32) (m8 : Int32) (c8 i8 : Nat → Int32) : Prop := ∃ j, j ≤ 6 ∧ m = nI j ∧ m8 = nI j ∧ ∀ k, k < j → (∃ c, c < 36 ∧ cs k = nI c) ∧ c8 k = cs k ∧ i8 k = ws k
theorem e_type {L L8 : Int32} {lt tx : Nat → Int32} (hT : TXR L lt L8 tx) (x : Int32) : ∃ r L' lt' L8' tx', f_X7_type L lt x = some (r, L', lt') ∧ f_X8_type L8 tx x = some (r, L8', tx') ∧ TXR L' lt' L8' tx' := by
  obtain ⟨n, hn, rfl, rfl, hc⟩ := id hT
  unfold f_X7_type f_X8_type f_X7_type_11 f_X7_type_42 f_X6_add
  rw [show (0 : Int64) = (0 : Int32).toInt64 by decide, show (255 : Int64) = (255 : Int32).toInt64 by decide, e8_inI, ob1_s]
  by_cases hx : 0 ≤ x ∧ x ≤ 255
  · obtain ⟨m, _, m2, rfl⟩ := rng (a := 0) (b := 255) (by omega) (by omega) (show nI 0 ≤ x from hx.1) (show x ≤ nI 255 from hx.2)
    rw [if_pos hx, if_neg (show ¬ (1 : Int32) = 0 by decide), if_neg (i_nlt hx.1), if_pos hx.2]
    by_cases q : n = 120
    · subst q
      rw [if_neg (show ¬ nI 120 < 120 by decide), ob3_s, if_pos rfl, if_pos (show nI 120 = 120 by decide)]
      exact ⟨_, _, _, _, _, rfl, rfl, hT⟩
    · rw [if_pos (show nI n < 120 from nI_lt (a := n) (b := 120) (by omega) (by omega)), if_pos (inb_nI (show n < 120 by omega) (by decide)), ob3_s, if_neg (show ¬ (1 : Int32) = 0 by decide), if_neg (show ¬ nI n = 120 from fun z => q ((nI_eq (a := n) (b := 120) (by omega) (by omega)).mp z)), if_pos (inb_nI (show n < 120 by omega) (by decide)), nI_clamp (by omega), nI_1]
      refine ⟨_, _, _, _, _, rfl, rfl, n + 1, by omega, rfl, rfl, fun k hk => ?_⟩
      by_cases e : k = n
      · exact ⟨m, by omega, by rw [e, pk_us], by rw [e, pk_us]⟩
      · obtain ⟨c, c1, c2, c3⟩ := hc k (by omega)
        exact ⟨c, c1, by rw [pk_un e, c2], by rw [pk_un e, c3]⟩
  · rw [if_neg hx, if_pos rfl]
    by_cases z : x < 0
    · rw [if_pos z]
      exact ⟨_, _, _, _, _, rfl, rfl, hT⟩
    · rw [if_neg z, if_neg (fun y => hx ⟨i_le_of z, y⟩)]
      exact ⟨_, _, _, _, _, rfl, rfl, hT⟩
theorem i36 {x : Int32} (h : ¬ 36 ≤ x) : x ≤ 35 := Int32.le_iff_toInt_le.mpr (by
  have : ¬ (36 : Int32).toInt ≤ x.toInt := fun q => h (Int32.le_iff_toInt_le.mpr q)
  have a : (36 : Int32).toInt = 36 := by decide
  have b : (35 : Int32).toInt = 35 := by decide
  omega)
theorem i35 {x : Int32} (h : x ≤ 35) : ¬ 36 ≤ x := fun q => by
  have := Int32.le_iff_toInt_le.mp h
  have := Int32.le_iff_toInt_le.mp q
  have a : (36 : Int32).toInt = 36 := by decide
  have b : (35 : Int32).toInt = 35 := by decide
  omega
theorem e_sees {m m8 : Int32} {cs ws c8 i8 : Nat → Int32} (hS : SER m cs ws m8 c8 i8) (x y : Int32) : ∃ r m' cs' ws' m8' c8' i8', f_X7_sees m cs ws x y = some (r, m', cs', ws') ∧ f_X8_sees m8 c8 i8 x y = some (r, m8', c8', i8') ∧ SER m' cs' ws' m8' c8' i8' := by
  obtain ⟨n, hn, rfl, rfl, hc⟩ := id hS
  unfold f_X7_sees f_X8_sees f_X7_sees_19 f_X7_sees_45 f_X8_sees_22 f_X4_add
  rw [show (0 : Int64) = (0 : Int32).toInt64 by decide, show (35 : Int64) = (35 : Int32).toInt64 by decide, show (1 : Int64) = (1 : Int32).toInt64 by decide, e8_inI, e8_inI, ob1_s, ob1_s]
  by_cases hx : 0 ≤ x ∧ x ≤ 35
  · obtain ⟨c, _, m2, rfl⟩ := rng (a := 0) (b := 35) (by omega) (by omega) (show nI 0 ≤ x from hx.1) (show x ≤ nI 35 from hx.2)
    rw [if_pos hx, if_neg (show ¬ (1 : Int32) = 0 by decide), if_neg (i_nlt hx.1), if_neg (i35 hx.2)]
    by_cases hy : 0 ≤ y ∧ y ≤ 1
    · rw [if_pos hy, if_neg (show ¬ (1 : Int32) = 0 by decide), if_neg (i_nlt hy.1), if_pos hy.2]
      by_cases q : n = 6
      · subst q
        rw [if_neg (show ¬ nI 6 < 6 by decide), ob4_s, if_pos rfl, if_pos (show nI 6 = 6 by decide)]
        exact ⟨_, _, _, _, _, _, _, rfl, rfl, hS⟩
      · rw [if_pos (show nI n < 6 from nI_lt (a := n) (b := 6) (by omega) (by omega)), if_pos (inb_nI (show n < 6 by omega) (by decide)), if_pos (inb_nI (show n < 6 by omega) (by decide)), ob4_s, if_neg (show ¬ (1 : Int32) = 0 by decide), if_neg (show ¬ nI n = 6 from fun z => q ((nI_eq (a := n) (b := 6) (by omega) (by omega)).mp z)), if_pos (inb_nI (show n < 6 by omega) (by decide)), if_pos (inb_nI (show n < 6 by omega) (by decide)), nI_clamp (by omega), nI_1]
        refine ⟨_, _, _, _, _, _, _, rfl, rfl, n + 1, by omega, rfl, rfl, fun k hk => ?_⟩
        by_cases e : k = n
        · rw [e, pk_us, pk_us, pk_us, pk_us]
          exact ⟨⟨c, by omega, rfl⟩, rfl, rfl⟩
        · rw [pk_un e, pk_un e, pk_un e, pk_un e]
          exact hc k (by omega)
    · rw [if_neg hy, if_pos rfl]
      by_cases z : y < 0
      · rw [if_pos z]
        exact ⟨_, _, _, _, _, _, _, rfl, rfl, hS⟩
      · rw [if_neg z, if_neg (fun u => hy ⟨i_le_of z, u⟩)]
        exact ⟨_, _, _, _, _, _, _, rfl, rfl, hS⟩
  · rw [if_neg hx, if_pos rfl]
    by_cases z : x < 0
    · rw [if_pos z]
      exact ⟨_, _, _, _, _, _, _, rfl, rfl, hS⟩
    · rw [if_neg z, if_pos (show 36 ≤ x from Classical.byContradiction (fun u => hx ⟨i_le_of z, i36 u⟩))]
      exact ⟨_, _, _, _, _, _, _, rfl, rfl, hS⟩
theorem ne_neg {x : Int32} {j : Nat} (hj : j < 2 ^ 31) (h : x < 0) : ¬ x = nI j := fun e => nI_pos hj (by rw [← e]; exact h)
theorem ne_big {x : Int32} {n j : Nat} (hj : j < n) (hn : n < 2 ^ 31) (h : nI n ≤ x) : ¬ x = nI j := fun e => nI_ge hj hn (by rw [← e]; exact h)
theorem e_setting {w h : Nat} {nu fi gr sv : Nat → Int32} (hP : PW w h nu fi gr sv) (x : Int32) : ∃ r, f_X7_setting nu x = some r ∧ f_X8_setting sv x = some r := by
  unfold f_X7_setting f_X8_setting f_X7_setting_10 f_X7_setting_23 f_X8_setting_24
  rw [show (6 : Int64) = (nI 7 - 1).toInt64 by decide]
  rcases pk_ix x (n := 7) (by omega) with q | q | ⟨j, hj, rfl⟩
  · rw [if_pos q, in_no1 _ q, ob1_s, if_pos rfl]
    exact ⟨_, rfl, rfl⟩
  · rw [if_neg (ge_nn (by omega) q), if_neg (show ¬ x < 7 from i_nlt q), in_no2 (by omega) (by omega) q, ob1_s, if_pos rfl]
    exact ⟨_, rfl, rfl⟩
  · rw [if_neg (nI_pos (n := j) (by omega)), if_pos (show nI j < 7 from nI_lt (a := j) (b := 7) hj (by omega)), if_pos (inb_nI hj (by decide)), in_yes hj (by omega), ob1_s, if_neg (show ¬ (1 : Int32) = 0 by decide), show (2 : Int32) + nI j = nI (2 + j) from nI_add 2 j, if_pos (inb_nI (show 2 + j < 81 by omega) (by decide)), nI_clamp (show j < 2 ^ 31 by omega), nI_clamp (show 2 + j < 2 ^ 31 by omega), hP.2.2.1 j hj]
    exact ⟨_, rfl, rfl⟩
theorem sL_eq {lim : Int32} {mo mp : Nat → Int32} {c : Nat} (e : mo c = mp c) : sL_ lim mo c = sL_ lim mp c := by
  unfold sL_; rw [e]
theorem e_cell {w h : Nat} {nu fi gr sv nk kn : Nat → Int32} {mo : Nat → Nat → Int32} {C R : Int32} (hP : PW w h nu fi gr sv) (hcv : CV C R nk kn mo) (a b lw a8 b8 t8 l8 m8 : Nat → Int32) (x y z : Int32) :
    ∃ r C' R' H V L kn' nk' mo' H8 V8 T8 L8 M8, f_X7_cell (nI w) (nI h) nu fi gr C R a b lw kn nk mo x y z = some (r, C', R', H, V, L, kn', nk', mo') ∧ f_X8_cell sv a8 b8 t8 l8 m8 x y z = some (r, H8, V8, T8, L8, M8) ∧ CV C' R' nk' kn' mo' := by
  obtain ⟨⟨a1, a2, a3, a4⟩, ⟨b1, b2⟩, b3, b4, d1, d2, d3⟩ := id hP
  have h36 := mul36 a2 a4
  unfold f_X7_cell f_X8_cell f_X7_cell_77 f_X8_cell_21 f_X8_cell_110
  rcases cell_cases b1 b2 (by omega) a2 (by omega) a4 x y with ⟨i, j, hi, hj, rfl, rfl, c1, c2⟩ | ⟨c1, c2⟩
  · have hc := cellN_lt hi hj
    obtain ⟨p, C', R', H, V, L, kn', nk', mo', H8, V8, T8, L8, M8, e0, e1, e2, e3, e4⟩ := now_both hP hcv a b lw a8 b8 t8 l8 m8
    rw [c1, c2, ob1_s, ob1_s, if_pos (show (0 : Int32) ≤ nI (w * j + i) from nI_pos' (by omega)), if_neg (show ¬ (1 : Int32) = 0 by decide), show (3 : Int64) = (nI 4 - 1).toInt64 by decide]
    rcases pk_ix z (n := 4) (by omega) with q | q | ⟨v, hv, rfl⟩
    · rw [in_no1 _ q, ob1_s, if_pos (show (0 : Int32) = 0 from rfl), if_neg (show ¬ z = 0 from ne_neg (j := 0) (by omega) q), if_neg (show ¬ z = 1 from ne_neg (j := 1) (by omega) q), if_neg (show ¬ z = 2 from ne_neg (j := 2) (by omega) q), if_neg (show ¬ z = 3 from ne_neg (j := 3) (by omega) q)]
      exact ⟨_, _, _, _, _, _, _, _, _, _, _, _, _, _, rfl, rfl, hcv⟩
    · rw [in_no2 (by omega) (by omega) q, ob1_s, if_pos (show (0 : Int32) = 0 from rfl), if_neg (show ¬ z = 0 from ne_big (j := 0) (n := 4) (by omega) (by omega) q), if_neg (show ¬ z = 1 from ne_big (j := 1) (n := 4) (by omega) (by omega) q), if_neg (show ¬ z = 2 from ne_big (j := 2) (n := 4) (by omega) (by omega) q), if_neg (show ¬ z = 3 from ne_big (j := 3) (n := 4) (by omega) (by omega) q)]
      exact ⟨_, _, _, _, _, _, _, _, _, _, _, _, _, _, rfl, rfl, hcv⟩
    · rw [in_yes hv (by omega), ob1_s, if_neg (show ¬ (1 : Int32) = 0 by decide), e3, ob5_s, b1, nI_cell]
      rcases (show v = 0 ∨ v = 1 ∨ v = 2 ∨ v = 3 by omega) with e | e | e | e <;> subst e
      · rw [if_pos (show nI 0 = 0 by decide), if_pos (show nI 0 = 0 by decide), e1, ob9_s, if_pos (inb_nI e0 (by decide)), if_pos (inb_nI (show w * j + i < 36 by omega) (by decide)), if_pos (inb_nI (show w * j + i < 36 by omega) (by decide)), nI_clamp (show p < 2 ^ 31 by omega), nI_clamp (show w * j + i < 2 ^ 31 by omega), e4 _ hc]
        exact ⟨_, _, _, _, _, _, _, _, _, _, _, _, _, _, rfl, rfl, e2⟩
      · rw [if_neg (show ¬ nI 1 = 0 by decide), if_neg (show ¬ nI 1 = 0 by decide), if_pos (show nI 1 = 1 by decide), if_pos (show nI 1 = 1 by decide), e1, ob9_s, if_pos (inb_nI e0 (by decide)), nI_clamp (show p < 2 ^ 31 by omega), e_isStill _ _ (show w * j + i < 36 by omega), ob1_s, e8_isStill _ _ (show w * j + i < 36 by omega), ob1_s, stB_L, sL_eq (e4 _ hc), show sv 7 = nu 5 from b3 5 (by omega)]
        by_cases u : sL_ (nu 5) M8 (w * j + i) = 0
        · rw [if_pos u, if_pos u]
          exact ⟨_, _, _, _, _, _, _, _, _, _, _, _, _, _, rfl, rfl, e2⟩
        · rw [if_neg u, if_neg u]
          exact ⟨_, _, _, _, _, _, _, _, _, _, _, _, _, _, rfl, rfl, e2⟩
      · rw [if_neg (show ¬ nI 2 = 0 by decide), if_neg (show ¬ nI 2 = 0 by decide), if_neg (show ¬ nI 2 = 1 by decide), if_neg (show ¬ nI 2 = 1 by decide), if_pos (show nI 2 = 2 by decide), if_pos (show nI 2 = 2 by decide), show (45 : Int32) + nI (w * j + i) = nI (45 + (w * j + i)) from nI_add 45 _, if_pos (inb_nI (show w * j + i < 36 by omega) (by decide)), if_pos (inb_nI (show 45 + (w * j + i) < 81 by omega) (by decide)), nI_clamp (show w * j + i < 2 ^ 31 by omega), nI_clamp (show 45 + (w * j + i) < 2 ^ 31 by omega), d2 _ hc]
        exact ⟨_, _, _, _, _, _, _, _, _, _, _, _, _, _, rfl, rfl, hcv⟩
      · rw [if_neg (show ¬ nI 3 = 0 by decide), if_neg (show ¬ nI 3 = 0 by decide), if_neg (show ¬ nI 3 = 1 by decide), if_neg (show ¬ nI 3 = 1 by decide), if_neg (show ¬ nI 3 = 2 by decide), if_neg (show ¬ nI 3 = 2 by decide), if_pos (show nI 3 = 3 by decide), show (9 : Int32) + nI (w * j + i) = nI (9 + (w * j + i)) from nI_add 9 _, if_pos (inb_nI (show w * j + i < 36 by omega) (by decide)), if_pos (inb_nI (show 9 + (w * j + i) < 81 by omega) (by decide)), nI_clamp (show w * j + i < 2 ^ 31 by omega), nI_clamp (show 9 + (w * j + i) < 2 ^ 31 by omega), (d1 (w * j + i) (by omega)).1]
        exact ⟨_, _, _, _, _, _, _, _, _, _, _, _, _, _, rfl, rfl, hcv⟩
  · rw [c1, c2, ob1_s, ob1_s, if_neg (show ¬ (0 : Int32) ≤ -1 by decide), if_pos rfl]
    exact ⟨_, _, _, _, _, _, _, _, _, _, _, _, _, _, rfl, rfl, hcv⟩
theorem e_still {w h : Nat} {nu fi gr sv nk kn : Nat → Int32} {mo : Nat → Nat → Int32} {C R : Int32} (hP : PW w h nu fi gr sv) (hcv : CV C R nk kn mo) (a b lw a8 b8 t8 l8 m8 : Nat → Int32) (x : Int32) :
    ∃ r C' R' H V L kn' nk' mo' H8 V8 T8 L8 M8, f_X7_still (nI w) (nI h) nu fi C R a b lw kn nk mo x = some (r, C', R', H, V, L, kn', nk', mo') ∧ f_X8_still sv a8 b8 t8 l8 m8 x = some (r, H8, V8, T8, L8, M8) ∧ CV C' R' nk' kn' mo' := by
  obtain ⟨⟨a1, a2, a3, a4⟩, ⟨b1, b2⟩, b3, b4, d1, d2, d3⟩ := id hP
  have h36 := mul36 a2 a4
  have h7 : sv 7 = nu 5 := b3 5 (by omega)
  obtain ⟨p, C', R', H, V, L, kn', nk', mo', H8, V8, T8, L8, M8, e0, e1, e2, e3, e4⟩ := now_both hP hcv a b lw a8 b8 t8 l8 m8
  have hs : ∀ k, k < w * h → stB_ nu (mo' p) k = sL_ (sv 7) M8 k := fun k hk => by rw [h7, stB_L, sL_eq (e4 k hk)]
  have hf : ∀ k, k < w * h → fi k = (fun c => sv (9 + c)) k := fun k hk => ((d1 k (by omega)).1).symm
  unfold f_X7_still f_X8_still f_X8_still_52
  rw [show (2 : Int64) = (nI 3 - 1).toInt64 by decide]
  rcases pk_ix x (n := 3) (by omega) with q | q | ⟨v, hv, rfl⟩
  · rw [in_no1 _ q, ob1_s, if_pos (show (0 : Int32) = 0 from rfl), if_neg (show ¬ x = 0 from ne_neg (j := 0) (by omega) q), if_neg (show ¬ x = 1 from ne_neg (j := 1) (by omega) q), if_neg (show ¬ x = 2 from ne_neg (j := 2) (by omega) q)]
    exact ⟨_, _, _, _, _, _, _, _, _, _, _, _, _, _, rfl, rfl, hcv⟩
  · rw [in_no2 (by omega) (by omega) q, ob1_s, if_pos (show (0 : Int32) = 0 from rfl), if_neg (show ¬ x = 0 from ne_big (j := 0) (n := 3) (by omega) (by omega) q), if_neg (show ¬ x = 1 from ne_big (j := 1) (n := 3) (by omega) (by omega) q), if_neg (show ¬ x = 2 from ne_big (j := 2) (n := 3) (by omega) (by omega) q)]
    exact ⟨_, _, _, _, _, _, _, _, _, _, _, _, _, _, rfl, rfl, hcv⟩
  · rw [in_yes hv (by omega), ob1_s, if_neg (show ¬ (1 : Int32) = 0 by decide), e3, ob5_s]
    rcases (show v = 0 ∨ v = 1 ∨ v = 2 by omega) with e | e | e <;> subst e
    · rw [if_pos (show nI 0 = 0 by decide), if_pos (show nI 0 = 0 by decide), e1, ob9_s, if_pos (inb_nI e0 (by decide)), nI_clamp (show p < 2 ^ 31 by omega), e_stillCells h36, ob1_s, e8_stillMany b1 b2 h36, ob1_s, sumN_congr _ hs]
      exact ⟨_, _, _, _, _, _, _, _, _, _, _, _, _, _, rfl, rfl, e2⟩
    · have hl : sumN (lkS nu fi (mo' p)) (w * h) = sumN (lkL (sv 7) (fun c => sv (9 + c)) M8) (w * h) := sumN_congr _ (fun k hk => by unfold lkS lkL; rw [hs k hk, hf k hk])
      rw [if_neg (show ¬ nI 1 = 0 by decide), if_neg (show ¬ nI 1 = 0 by decide), if_pos (show nI 1 = 1 by decide), if_pos (show nI 1 = 1 by decide), e1, ob9_s, if_pos (inb_nI e0 (by decide)), nI_clamp (show p < 2 ^ 31 by omega), e_likeness h36, ob1_s, e8_likeness b1 b2 h36, ob1_s, hl]
      exact ⟨_, _, _, _, _, _, _, _, _, _, _, _, _, _, rfl, rfl, e2⟩
    · have hl := ap_same (fi := fi) (fj := fun c => sv (9 + c)) (st := stB_ nu (mo' p)) (su := sL_ (sv 7) M8) a1 a2 a4 hf hs (fun k hk => (d1 k (by omega)).2) (fun k _ => stB_01 _ _ k)
      rw [if_neg (show ¬ nI 2 = 0 by decide), if_neg (show ¬ nI 2 = 0 by decide), if_neg (show ¬ nI 2 = 1 by decide), if_neg (show ¬ nI 2 = 1 by decide), if_pos (show nI 2 = 2 by decide), e1, ob9_s, if_pos (inb_nI e0 (by decide)), nI_clamp (show p < 2 ^ 31 by omega), e_apart a2 a4, ob1_s, e8_apart b1 b2 a1 a2 a4, ob1_s, hl]
      exact ⟨_, _, _, _, _, _, _, _, _, _, _, _, _, _, rfl, rfl, e2⟩
theorem e8_count7 {sv : Nat → Int32} {w h : Nat} (h0 : sv 0 = nI w) (hh : sv 1 = nI h) (h36 : w * h ≤ 36) (l u s x : Int32) : f_X8_count l u s sv x = f_X8_count_72 l u s sv x (mostS (fun c => sv (45 + c)) (w * h)) (sumN (fun c => if sv (45 + c) = 0 then 1 else 0) (w * h)) := by
  unfold f_X8_count f_X8_count_7
  refine (ox_for (r := (mostS (fun c => sv (45 + c)) (w * h), sumN (fun c => if sv (45 + c) = 0 then 1 else 0) (w * h))) (fun i => (mostS (fun c => sv (45 + c)) i, sumN (fun c => if sv (45 + c) = 0 then 1 else 0) i, nI i)) (w * h) rfl (by omega) ?_ ?_).trans ?_
  · intro i hi k
    show f_X8_count_7b l u s sv x (mostS (fun c => sv (45 + c)) i) (sumN (fun c => if sv (45 + c) = 0 then 1 else 0) i) (nI i) k = k ((if mostS (fun c => sv (45 + c)) i < sv (45 + i) then sv (45 + i) else mostS (fun c => sv (45 + c)) i), sumN (fun c => if sv (45 + c) = 0 then 1 else 0) i + (if sv (45 + i) = 0 then 1 else 0), nI (i + 1))
    unfold f_X8_count_7b f_X8_count_44 f_X8_count_64
    rw [e8_cells h0 hh, ob1_s, if_neg (nI_ge hi (by omega)), show (45 : Int32) + nI i = nI (45 + i) from nI_add 45 i, nI_clamp (show 45 + i < 2 ^ 31 by omega), nI_1]
    simp only [inb_nI (show 45 + i < 81 by omega) (show 81 < 2 ^ 31 by decide), if_true]
    rw [← le_lt_if]
    by_cases q : sv (45 + i) ≤ mostS (fun c => sv (45 + c)) i
    · rw [if_pos q, if_pos q]
      by_cases z : sv (45 + i) = 0
      · rw [if_pos z, if_pos z]
      · rw [if_neg z, if_neg z]
    · rw [if_neg q, if_neg q]
      by_cases z : sv (45 + i) = 0
      · rw [if_pos z, if_pos z]
      · rw [if_neg z, if_neg z]
  · intro k
    show f_X8_count_7b l u s sv x _ _ (nI (w * h)) k = _
    unfold f_X8_count_7b
    rw [e8_cells h0 hh, ob1_s, if_pos (nI_le (Nat.le_refl _) (by omega))]
  · rfl
theorem e_count {w h : Nat} {nu fi gr sv : Nat → Int32} (hP : PW w h nu fi gr sv) (l u s x : Int32) : ∃ r, f_X7_count (nI w) (nI h) fi gr u l s x = some r ∧ f_X8_count l u s sv x = some r := by
  obtain ⟨⟨a1, a2, a3, a4⟩, ⟨b1, b2⟩, b3, b4, d1, d2, d3⟩ := id hP
  have h36 := mul36 a2 a4
  have z0 : (0 : Int32).toNatClampNeg = 0 := by decide
  have z1 : (1 : Int32).toNatClampNeg = 1 := by decide
  have m : mostS (fun c => sv (45 + c)) (w * h) = mostS gr (w * h) := itN_congr _ (fun k hk t => by
    show (if t < sv (45 + k) then sv (45 + k) else t) = (if t < gr k then gr k else t)
    rw [d2 k hk])
  have n : sumN (fun c => if sv (45 + c) = 0 then (1 : Int32) else 0) (w * h) = sumN (fun c => if gr c = 0 then 1 else 0) (w * h) := sumN_congr _ (fun k hk => by rw [d2 k hk])
  rw [e8_count7 b1 b2 h36, m, n]
  unfold f_X7_count f_X8_count_72 f_X8_count_120
  rw [e_cellsOfFigure h36, ob1_s, e_mostGrains h36, ob1_s, e_cellsWithGrains h36, ob1_s, e8_figure b1 b2 h36, ob1_s, PW_figs hP]
  by_cases q0 : x = 0
  · rw [if_pos q0, if_pos q0, q0, if_pos (show inb 0 81 = true by decide), z0, b1]
    exact ⟨_, rfl, rfl⟩
  · rw [if_neg q0, if_neg q0]
    by_cases q1 : x = 1
    · rw [if_pos q1, if_pos q1, q1, if_pos (show inb 1 81 = true by decide), z1, b2]
      exact ⟨_, rfl, rfl⟩
    · rw [if_neg q1, if_neg q1]
      by_cases q2 : x = 2
      · rw [if_pos q2]; exact ⟨_, rfl, rfl⟩
      · rw [if_neg q2]
        by_cases q3 : x = 3
        · rw [if_pos q3]; exact ⟨_, rfl, rfl⟩
        · rw [if_neg q3]
          by_cases q4 : x = 4
          · rw [if_pos q4]; exact ⟨_, rfl, rfl⟩
          · rw [if_neg q4]
            by_cases q5 : x = 5
            · rw [if_pos q5]; exact ⟨_, rfl, rfl⟩
            · rw [if_neg q5]
              by_cases q6 : x = 6
              · rw [if_pos q6]; exact ⟨_, rfl, rfl⟩
              · rw [if_neg q6]
                by_cases q7 : x = 7
                · rw [if_pos q7]; exact ⟨_, rfl, rfl⟩
                · rw [if_neg q7]; exact ⟨_, rfl, rfl⟩
