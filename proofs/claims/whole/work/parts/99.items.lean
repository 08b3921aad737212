/-! items on both sides -/
def PRS (w h j : Nat) (fx pl dv : Int32) (nu fi rd : Nat → Int32) : Prop := (2 ≤ w ∧ w ≤ 6 ∧ 2 ≤ h ∧ h ≤ 6 ∧ j ≤ h) ∧ ((fx = 0 ∧ pl = 0 ∧ dv = 0 ∧ j = 0 ∧ nu 6 = nI 0) ∨ (fx = 1 ∧ (pl = 0 ∨ pl = 1) ∧ (dv = 0 ∨ dv = 1) ∧ ¬ (pl = 0 ∧ dv = 0 ∧ j = 0))) ∧ (rd 0 = nI w ∧ rd 1 = nI h) ∧ (∀ k, k < 7 → rd (2 + k) = nu k) ∧ NR w h nu ∧ (∀ k, k < 36 → rd (9 + k) = fi k ∧ (fi k = 0 ∨ fi k = 1)) ∧ (∀ k, k < 36 → rd (45 + k) = 1)
def OUT (n e0 : Nat) (A : Option (Int32 × Int32 × Int32 × Int32 × Int32 × Int32 × Int32 × Int32 × (Nat → Int32) × (Nat → Int32))) (B : Option (Int32 × Int32 × Int32 × Int32 × Int64 × Int32 × Int32 × Int32 × Int32 × Int32 × (Nat → Int32))) : Prop :=
  (∃ w h j fx pl dv nu fi rd K b e LT FG VL, PRS w h j fx pl dv nu fi rd ∧ e0 ≤ e ∧ e ≤ n ∧ A = some (1, fx, nI j, K, nI b, nI e, nI w, nI h, nu, fi) ∧ B = some (1, nI e, K, nI b, LT, FG, VL, pl, dv, nI j, rd)) ∨
  (∃ b fx rt K fin W H nu fi sp K8 LT FG VL pl dv ro rd, b ≤ n ∧ A = some (0, fx, rt, K, nI b, fin, W, H, nu, fi) ∧ B = some (0, sp, K8, nI b, LT, FG, VL, pl, dv, ro, rd))
theorem r01_0 {α : Type} {x y : α} : (if (0 : Int32) = 0 ∨ (0 : Int32) = 1 then x else y) = x := if_pos (Or.inl rfl)
theorem r01_1 {α : Type} {x y : α} : (if (1 : Int32) = 0 ∨ (1 : Int32) = 1 then x else y) = x := if_pos (Or.inr rfl)
theorem PRS_num {w h j z : Nat} {fx pl dv v : Int32} {nu fi rd : Nat → Int32} (q : PRS w h j fx pl dv nu fi rd) (hz : z < 6) (hv : tbl1 z ≤ v ∧ v ≤ tbl2 z) : PRS w h j fx pl dv (upd nu z v) fi (upd rd (2 + z) v) := by
  obtain ⟨a, b, ⟨c1, c2⟩, d, e, f, g⟩ := q
  refine ⟨a, ?_, ⟨by rw [pk_un (by omega), c1], by rw [pk_un (by omega), c2]⟩, fun k hk => ?_, NR_sets e hz hv, fun k hk => by rw [pk_un (by omega)]; exact f k hk, fun k hk => by rw [pk_un (by omega)]; exact g k hk⟩
  · rcases b with ⟨b1, b2, b3, b4, b5⟩ | b
    · exact Or.inl ⟨b1, b2, b3, b4, by rw [pk_un (by omega), b5]⟩
    · exact Or.inr b
  · by_cases y : k = z
    · rw [y, pk_us, pk_us]
    · rw [pk_un (show 2 + k ≠ 2 + z by omega), pk_un y, d k hk]
theorem tb1_n : ∀ z : Nat, z < 6 → tbl1 z = nI (tbl1 z).toNatClampNeg ∧ (tbl1 z).toNatClampNeg < 2 ^ 31 := by decide +kernel
theorem it_set {ch : Nat → Nat} {n e w h j z : Nat} {fx pl dv K0 B0 : Int32} {lt tx nu fi rd : Nat → Int32} (hC : CHR ch n lt tx) (he : e ≤ n) (hz : z < 6) (hP : PRS w h j fx pl dv nu fi rd) :
    OUT n e (f_X5_readTold_73 fx (nI j) (nI n) K0 B0 (nI e) lt (nI w) (nI h) nu fi (nI z)) (ob8 (f_X8_number (nI n) (nI e) tx rd (nI (2 + z)) (tbl1 z) (tbl2 z)) (fun r s k b l f v rd' => if r = 0 ∨ r = 1 then some (r, s, k, b, l, f, v, pl, dv, nI j, rd') else none)) := by
  obtain ⟨q1, q2⟩ := tb1_n z hz
  obtain ⟨K, b, e', LT, FG, VL, t1, t2, t3, hN⟩ := num_both (to := 2 + z) (lo := (tbl1 z).toNatClampNeg) (hi := tbl2 z) hC he (by omega) q2 rd
  rw [← q1] at hN
  unfold f_X5_readTold_73 f_X5_readSetting
  rw [if_neg (nI_pos (n := z) (by omega)), if_pos (show nI z < 6 from nI_lt (a := z) (b := 6) hz (by omega)), if_pos (inb_nI hz (by decide)), if_pos (inb_nI hz (by decide)), nI_clamp (by omega)]
  rcases hN with ⟨v, v1, v2, v3, f1, f2⟩ | ⟨f1, rd', f2⟩
  · rw [f1, f2, ob4_s, ob8_s, if_pos (nI_pos' (by omega)), if_pos (inb_nI (show z < 7 by omega) (by decide)), ob5_s, r01_1, r01_1]
    exact Or.inl ⟨w, h, j, fx, pl, dv, upd nu z (nI v), fi, upd rd (2 + z) (nI v), K, b, e', LT, FG, VL, PRS_num hP hz ⟨v2, v3⟩, by omega, t3, rfl, rfl⟩
  · rw [f1, f2, ob4_s, ob8_s, if_neg (show ¬ (0 : Int32) ≤ -1 by decide), ob5_s, r01_0, r01_0]
    exact Or.inr ⟨b, _, _, _, _, _, _, _, _, _, _, _, _, _, _, _, _, _, by omega, rfl, rfl⟩
theorem it_plate {ch : Nat → Nat} {n e w h j b0 : Nat} {fx pl dv K0 K8 FG0 VL0 : Int32} {LT0 : Int64} {lt tx nu fi rd : Nat → Int32} (hC : CHR ch n lt tx) (he : e ≤ n) (hb0 : b0 ≤ n) (hP : PRS w h j fx pl dv nu fi rd) :
    OUT n e (ob7 (f_X5_readPlate fx (nI n) K0 (nI b0) (nI e) lt (nI w) (nI h)) (fun r_16 isPlateFixed_17 text_kind_18 text_first_19 text_fin_20 plate_columns_21 plate_rows_22 => if r_16 = 0 ∨ r_16 = 1 then some (r_16, isPlateFixed_17, (nI j), text_kind_18, text_first_19, text_fin_20, plate_columns_21, plate_rows_22, nu, fi) else none))
      (if pl = 0 then (if dv = 0 then (if nI j ≤ 0 then (ob8 (f_X8_number (nI n) (nI e) tx rd 0 2 6) (fun r_114 spot_115 kind_116 begin_117 letters_118 figures_119 value_120 read_121 => if r_114 = 0 then (f_X8_item_85 spot_115 kind_116 begin_117 letters_118 figures_119 value_120 1 dv (nI j) read_121) else (ob8 (f_X8_number (nI n) spot_115 tx read_121 1 2 6) (fun r_124 spot_125 kind_126 begin_127 letters_128 figures_129 value_130 read_131 => if r_124 = 0 then (f_X8_item_85 spot_125 kind_126 begin_127 letters_128 figures_129 value_130 1 dv (nI j) read_131) else (f_X8_item_86 spot_125 kind_126 begin_127 letters_128 figures_129 value_130 1 dv (nI j) read_131 1))))) else (f_X8_item_52 (nI e) K8 (nI b0) LT0 FG0 VL0 pl dv (nI j) rd)) else (f_X8_item_52 (nI e) K8 (nI b0) LT0 FG0 VL0 pl dv (nI j) rd)) else (f_X8_item_52 (nI e) K8 (nI b0) LT0 FG0 VL0 pl dv (nI j) rd)) := by
  obtain ⟨⟨a1, a2, a3, a4, a5⟩, hb, ⟨c1, c2⟩, d, ⟨lo, pe, dr, n1, n2, n3, n4, n5, n6, n7, n8⟩, f, g⟩ := id hP
  unfold f_X5_readPlate f_X8_item_85 f_X8_item_86 f_X8_item_52
  rcases hb with ⟨b1, b2, b3, b4, b5⟩ | ⟨b1, b2, b3, b4⟩
  · subst b1 b2 b3 b4
    obtain ⟨K, b, e', LT, FG, VL, t1, t2, t3, hN⟩ := num_both (to := 0) (lo := 2) (hi := 6) hC he (by omega) (by omega) rd
    have hN : (∃ v, v ≤ 99 ∧ nI 2 ≤ nI v ∧ nI v ≤ 6 ∧ f_X5_readNumber (nI n) (nI e) lt 2 6 = some (nI v, K, nI b, nI e') ∧ f_X8_number (nI n) (nI e) tx rd 0 2 6 = some (1, nI e', K, nI b, LT, FG, VL, upd rd 0 (nI v))) ∨ (f_X5_readNumber (nI n) (nI e) lt 2 6 = some (-1, K, nI b, nI e') ∧ ∃ rd', f_X8_number (nI n) (nI e) tx rd 0 2 6 = some (0, nI e', K, nI b, LT, FG, VL, rd')) := hN
    rw [if_pos (show (0 : Int32) = 0 from rfl), if_pos (show (0 : Int32) = 0 from rfl), if_pos (show (0 : Int32) = 0 from rfl), if_pos (show nI 0 ≤ 0 by decide)]
    rcases hN with ⟨v, v1, v2, v3, f1, f2⟩ | ⟨f1, rd', f2⟩
    · rw [f1, f2, ob4_s, ob8_s, if_pos (nI_pos' (by omega)), if_neg (show ¬ (1 : Int32) = 0 by decide)]
      obtain ⟨K2, b2, e2, LT2, FG2, VL2, s1, s2, s3, hM⟩ := num_both (to := 1) (lo := 2) (hi := 6) hC t3 (by omega) (by omega) (upd rd 0 (nI v))
      have hM : (∃ u, u ≤ 99 ∧ nI 2 ≤ nI u ∧ nI u ≤ 6 ∧ f_X5_readNumber (nI n) (nI e') lt 2 6 = some (nI u, K2, nI b2, nI e2) ∧ f_X8_number (nI n) (nI e') tx (upd rd 0 (nI v)) 1 2 6 = some (1, nI e2, K2, nI b2, LT2, FG2, VL2, upd (upd rd 0 (nI v)) 1 (nI u))) ∨ (f_X5_readNumber (nI n) (nI e') lt 2 6 = some (-1, K2, nI b2, nI e2) ∧ ∃ rd', f_X8_number (nI n) (nI e') tx (upd rd 0 (nI v)) 1 2 6 = some (0, nI e2, K2, nI b2, LT2, FG2, VL2, rd')) := hM
      rcases hM with ⟨u, u1, u2, u3, g1, g2⟩ | ⟨g1, rd', g2⟩
      · have v2 := (nI_leI (a := 2) (b := v) (by omega) (by omega)).mp v2
        have v3 := (nI_leI (a := v) (b := 6) (by omega) (by omega)).mp v3
        have u2 := (nI_leI (a := 2) (b := u) (by omega) (by omega)).mp u2
        have u3 := (nI_leI (a := u) (b := 6) (by omega) (by omega)).mp u3
        rw [g1, g2, ob4_s, ob8_s, if_pos (nI_pos' (by omega)), if_neg (show ¬ (1 : Int32) = 0 by decide), ob7_s, r01_1, r01_1]
        refine Or.inl ⟨v, u, 0, 1, 1, 0, nu, fi, upd (upd rd 0 (nI v)) 1 (nI u), K2, b2, e2, LT2, FG2, VL2, ⟨⟨v2, v3, u2, u3, by omega⟩, Or.inr ⟨rfl, Or.inr rfl, Or.inl rfl, fun y => absurd y.1 (by decide)⟩, ⟨by rw [pk_un (by omega), pk_us], by rw [pk_us]⟩, fun k hk => by rw [pk_un (by omega), pk_un (by omega)]; exact d k hk, ⟨lo, pe, 0, n1, n2, n3, n4, n5, n6, b5, ?_⟩, fun k hk => by rw [pk_un (by omega), pk_un (by omega)]; exact f k hk, fun k hk => by rw [pk_un (by omega), pk_un (by omega)]; exact g k hk⟩, by omega, s3, rfl, rfl⟩
        exact Nat.mul_pos (by omega) (by omega)
      · rw [g1, g2, ob4_s, ob8_s, if_neg (show ¬ (0 : Int32) ≤ -1 by decide), if_pos (show (0 : Int32) = 0 from rfl), ob7_s, r01_0, r01_0]
        exact Or.inr ⟨b2, _, _, _, _, _, _, _, _, _, _, _, _, _, _, _, _, _, by omega, rfl, rfl⟩
    · rw [f1, f2, ob4_s, ob8_s, if_neg (show ¬ (0 : Int32) ≤ -1 by decide), if_pos (show (0 : Int32) = 0 from rfl), ob7_s, r01_0, r01_0]
      exact Or.inr ⟨b, _, _, _, _, _, _, _, _, _, _, _, _, _, _, _, _, _, by omega, rfl, rfl⟩
  · subst b1
    rw [if_neg (show ¬ (1 : Int32) = 0 by decide), ob7_s, r01_0]
    have hz : ∀ X : Option (Int32 × Int32 × Int32 × Int32 × Int64 × Int32 × Int32 × Int32 × Int32 × Int32 × (Nat → Int32)), ∀ Y, (if pl = 0 then (if dv = 0 then (if nI j ≤ 0 then X else Y) else Y) else Y) = Y := fun X Y => by
      by_cases p0 : pl = 0
      · rw [if_pos p0]
        by_cases d0 : dv = 0
        · rw [if_pos d0, if_neg (show ¬ nI j ≤ 0 from nI_ge (a := 0) (b := j) (Nat.pos_of_ne_zero (fun y => b4 ⟨p0, d0, y⟩)) (by omega))]
        · rw [if_neg d0]
      · rw [if_neg p0]
    rw [hz]
    exact Or.inr ⟨b0, _, _, _, _, _, _, _, _, _, _, _, _, _, _, _, _, _, hb0, rfl, rfl⟩
theorem lt_of_pred {v w : Nat} (hw : 0 < w) (hw6 : w ≤ 6) (hv : v ≤ 99) (h : nI v ≤ nI w - 1) : v < w := by
  rw [show nI w - 1 = nI (w - 1) from pk_sub (a := w) (b := 1) hw] at h
  have := (nI_leI (a := v) (b := w - 1) (by omega) (by omega)).mp h
  omega
theorem it_drive {ch : Nat → Nat} {n e w h j : Nat} {fx pl dv : Int32} {lt tx nu fi rd : Nat → Int32} (hC : CHR ch n lt tx) (he : e ≤ n) (hP : PRS w h j fx pl dv nu fi rd) :
    OUT n e (ob6 (f_X5_readDrive (nI n) (nI e) lt (nI w) (nI h) nu) (fun r_26 isPlateFixed_27 text_kind_28 text_first_29 text_fin_30 plate_numbers_31 => if r_26 = 0 ∨ r_26 = 1 then some (r_26, isPlateFixed_27, (nI j), text_kind_28, text_first_29, text_fin_30, (nI w), (nI h), plate_numbers_31, fi) else none))
      (ob9 (f_X8_driveItem (nI n) (nI e) tx rd) (fun r_40 spot_41 kind_42 begin_43 letters_44 figures_45 value_46 driven_47 read_48 => if r_40 = 0 ∨ r_40 = 1 then some (r_40, spot_41, kind_42, begin_43, letters_44, figures_45, value_46, pl, driven_47, (nI j), read_48) else none)) := by
  obtain ⟨⟨a1, a2, a3, a4, a5⟩, hb, ⟨c1, c2⟩, d, nr, f, g⟩ := id hP
  unfold f_X5_readDrive f_X8_driveItem
  rw [c1]
  obtain ⟨K, b, e', LT, FG, VL, t1, t2, t3, hN⟩ := num_both (to := 8) (lo := 0) (hi := nI w - 1) hC he (by omega) (by omega) rd
  have hN : (∃ v, v ≤ 99 ∧ nI 0 ≤ nI v ∧ nI v ≤ nI w - 1 ∧ f_X5_readNumber (nI n) (nI e) lt 0 (nI w - 1) = some (nI v, K, nI b, nI e') ∧ f_X8_number (nI n) (nI e) tx rd 8 0 (nI w - 1) = some (1, nI e', K, nI b, LT, FG, VL, upd rd 8 (nI v))) ∨ (f_X5_readNumber (nI n) (nI e) lt 0 (nI w - 1) = some (-1, K, nI b, nI e') ∧ ∃ rd', f_X8_number (nI n) (nI e) tx rd 8 0 (nI w - 1) = some (0, nI e', K, nI b, LT, FG, VL, rd')) := hN
  rcases hN with ⟨x, x1, _, x3, f1, f2⟩ | ⟨f1, rd', f2⟩
  · have hx := lt_of_pred (by omega) a2 x1 x3
    rw [f1, f2, ob4_s, ob8_s, if_pos (nI_pos' (by omega)), if_neg (show ¬ (1 : Int32) = 0 by decide), show upd rd 8 (nI x) 1 = nI h by rw [pk_un (by omega), c2]]
    obtain ⟨K2, b2, e2, LT2, FG2, VL2, s1, s2, s3, hM⟩ := num_both (to := 8) (lo := 0) (hi := nI h - 1) hC t3 (by omega) (by omega) (upd rd 8 (nI x))
    have hM : (∃ u, u ≤ 99 ∧ nI 0 ≤ nI u ∧ nI u ≤ nI h - 1 ∧ f_X5_readNumber (nI n) (nI e') lt 0 (nI h - 1) = some (nI u, K2, nI b2, nI e2) ∧ f_X8_number (nI n) (nI e') tx (upd rd 8 (nI x)) 8 0 (nI h - 1) = some (1, nI e2, K2, nI b2, LT2, FG2, VL2, upd (upd rd 8 (nI x)) 8 (nI u))) ∨ (f_X5_readNumber (nI n) (nI e') lt 0 (nI h - 1) = some (-1, K2, nI b2, nI e2) ∧ ∃ rd', f_X8_number (nI n) (nI e') tx (upd rd 8 (nI x)) 8 0 (nI h - 1) = some (0, nI e2, K2, nI b2, LT2, FG2, VL2, rd')) := hM
    rcases hM with ⟨y, y1, _, y3, g1, g2⟩ | ⟨g1, rd', g2⟩
    · have hy := lt_of_pred (by omega) a4 y1 y3
      have hcell := cellN_lt hx hy
      rw [g1, g2, ob4_s, ob8_s, if_pos (nI_pos' (by omega)), if_neg (show ¬ (1 : Int32) = 0 by decide), ob6_s, ob9_s, r01_1, r01_1, show upd (upd rd 8 (nI x)) 8 (nI y) 0 = nI w by rw [pk_un (by omega), pk_un (by omega), c1], show upd (upd rd 8 (nI x)) 8 (nI y) 8 = nI y from pk_us, show upd rd 8 (nI x) 8 = nI x from pk_us, nI_cell]
      refine Or.inl ⟨w, h, j, 1, pl, 1, upd nu 6 (nI (w * y + x)), fi, upd (upd (upd rd 8 (nI x)) 8 (nI y)) 8 (nI (w * y + x)), K2, b2, e2, LT2, FG2, VL2, ⟨⟨a1, a2, a3, a4, a5⟩, Or.inr ⟨rfl, ?_, Or.inr rfl, fun z => absurd z.2.1 (by decide)⟩, ⟨by rw [pk_un (by omega), pk_un (by omega), pk_un (by omega), c1], by rw [pk_un (by omega), pk_un (by omega), pk_un (by omega), c2]⟩, fun k hk => ?_, NR_dr nr hcell, fun k hk => by rw [pk_un (by omega), pk_un (by omega), pk_un (by omega)]; exact f k hk, fun k hk => by rw [pk_un (by omega), pk_un (by omega), pk_un (by omega)]; exact g k hk⟩, by omega, s3, rfl, rfl⟩
      · rcases hb with ⟨_, z, _⟩ | ⟨_, z, _⟩
        · exact Or.inl z
        · exact z
      · by_cases z : k = 6
        · rw [z]; exact (pk_us (k := 8)).trans (pk_us (k := 6)).symm
        · rw [pk_un (by omega), pk_un (by omega), pk_un (by omega), pk_un z, d k hk]
    · rw [g1, g2, ob4_s, ob8_s, if_neg (show ¬ (0 : Int32) ≤ -1 by decide), if_pos (show (0 : Int32) = 0 from rfl), ob6_s, ob9_s, r01_0, r01_0]
      exact Or.inr ⟨b2, _, _, _, _, _, _, _, _, _, _, _, _, _, _, _, _, _, by omega, rfl, rfl⟩
  · rw [f1, f2, ob4_s, ob8_s, if_neg (show ¬ (0 : Int32) ≤ -1 by decide), if_pos (show (0 : Int32) = 0 from rfl), ob6_s, ob9_s, r01_0, r01_0]
    exact Or.inr ⟨b, _, _, _, _, _, _, _, _, _, _, _, _, _, _, _, _, _, by omega, rfl, rfl⟩
