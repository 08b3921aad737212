/-! a row of the figure; an item by its word -/
theorem row_cls {ch : Nat → Nat} {n w j b : Nat} {lt tx : Nat → Int32} (hC : CHR ch n lt tx) (hw : w ≤ 6) (hb : b + w ≤ n) (h36 : w * j + w ≤ 36) (hd : ∀ i, i < w → 48 ≤ ch (b + i) ∧ ch (b + i) ≤ 57) {m : Nat} (hm : m ≤ w) (hok : ∀ i, i < m → ch (b + i) < 50) (hend : m < w → 50 ≤ ch (b + m)) (fx K e : Int32) (fi : Nat → Int32) :
    ∃ fi', f_X5_readRow_68 fx (nI j) K (nI b) e lt (nI w) fi 0 = (if m = w then f_X5_readRow_136 fx (nI j) K (nI b) e (fun c => if w * j ≤ c ∧ c < w * j + w then nI (ch (b + (c - w * j)) - 48) else fi c) else f_X5_readRow_105 fx (nI j) K (nI b) e fi') := by
  obtain ⟨hn, hc, _⟩ := hC
  have hs : ∀ i, i < w → ∀ g k, f_X5_readRow_68b fx (nI j) K (nI b) e lt (nI w) g (nI i) k = if ch (b + i) < 50 then k (upd g (w * j + i) (nI (ch (b + i) - 48)), nI (i + 1)) else some (Sum.inr g) := by
    intro i hi g k
    have hq := hd i hi
    unfold f_X5_readRow_68b
    rw [if_neg (nI_ge hi (by omega)), nI_add, if_pos (inb_nI (show b + i < 120 by omega) (by decide)), nI_cell, if_pos (inb_nI (show w * j + i < 36 by omega) (by decide)), nI_clamp (show b + i < 2 ^ 31 by omega), nI_clamp (show w * j + i < 2 ^ 31 by omega), (hc (b + i) (by omega)).1, dig_sub hq.1, nI_1]
    by_cases y : ch (b + i) < 50
    · rw [if_pos y, if_pos (show nI (ch (b + i) - 48) ≤ 1 from nI_le (a := ch (b + i) - 48) (b := 1) (by omega) (by omega))]
    · rw [if_neg y, if_neg (show ¬ nI (ch (b + i) - 48) ≤ 1 from nI_ge (a := 1) (b := ch (b + i) - 48) (by omega) (by omega))]
  unfold f_X5_readRow_68
  by_cases y : m = w
  · subst y
    refine ⟨fi, ?_⟩
    rw [if_pos rfl]
    refine (ox_for (r := Sum.inl (fun c => if m * j ≤ c ∧ c < m * j + m then nI (ch (b + (c - m * j)) - 48) else fi c)) (fun i => ((fun c => if m * j ≤ c ∧ c < m * j + i then nI (ch (b + (c - m * j)) - 48) else fi c), nI i)) m (by rw [seg0 (fun c => nI (ch (b + c) - 48)) fi (m * j)]; rfl) (by omega) ?_ ?_).trans ?_
    · intro i hi k
      show f_X5_readRow_68b fx (nI j) K (nI b) e lt (nI m) _ (nI i) k = _
      rw [hs i hi, if_pos (hok i hi), upd_seg (g := fun c => nI (ch (b + c) - 48)) rfl]
    · intro k
      show f_X5_readRow_68b fx (nI j) K (nI b) e lt (nI m) _ (nI m) k = _
      unfold f_X5_readRow_68b
      rw [if_pos (nI_le (Nat.le_refl _) (by omega))]
    · exact Eq.refl _
  · refine ⟨fun c => if w * j ≤ c ∧ c < w * j + m then nI (ch (b + (c - w * j)) - 48) else fi c, ?_⟩
    rw [if_neg y]
    refine (ox_for (r := Sum.inr (fun c => if w * j ≤ c ∧ c < w * j + m then nI (ch (b + (c - w * j)) - 48) else fi c)) (fun i => ((fun c => if w * j ≤ c ∧ c < w * j + i then nI (ch (b + (c - w * j)) - 48) else fi c), nI i)) m (by rw [seg0 (fun c => nI (ch (b + c) - 48)) fi (w * j)]; rfl) (by omega) ?_ ?_).trans ?_
    · intro i hi k
      show f_X5_readRow_68b fx (nI j) K (nI b) e lt (nI w) _ (nI i) k = _
      rw [hs i (by omega), if_pos (hok i hi), upd_seg (g := fun c => nI (ch (b + c) - 48)) rfl]
    · intro k
      show f_X5_readRow_68b fx (nI j) K (nI b) e lt (nI w) _ (nI m) k = _
      rw [hs m (by omega), if_neg (by have := hend (by omega); omega)]
    · exact Eq.refl _
theorem row_mod {ch : Nat → Nat} {n w j b : Nat} {lt tx rd : Nat → Int32} (hC : CHR ch n lt tx) (h0 : rd 0 = nI w) (hw : w ≤ 6) (hb : b + w ≤ n) (h36 : w * j + w ≤ 36) (hd : ∀ i, i < w → 48 ≤ ch (b + i) ∧ ch (b + i) ≤ 57) {m : Nat} (hm : m ≤ w) (hok : ∀ i, i < m → ch (b + i) < 50) (hend : m < w → 50 ≤ ch (b + m)) (sp K VL : Int32) (LT : Int64) :
    ∃ rd', f_X8_rowItem_48 sp K (nI b) LT (nI w) VL (nI j) tx rd 1 0 = f_X8_rowItem_123 sp K (nI b) LT (nI w) VL (nI j) rd' (if m = w then 1 else 0) ∧ (m = w → rd' = fun c => if 9 + w * j ≤ c ∧ c < 9 + w * j + w then nI (ch (b + (c - (9 + w * j))) - 48) else rd c) := by
  obtain ⟨hn, _, hc⟩ := hC
  have hs : ∀ i, i < w → ∀ g, g 0 = nI w → ∀ k, f_X8_rowItem_48b sp K (nI b) LT (nI w) VL (nI j) tx g 1 (nI i) k = k (upd g (9 + w * j + i) (nI (ch (b + i) - 48)), (if ch (b + i) < 50 then 1 else 0), nI (i + 1)) := by
    intro i hi g hg k
    have hq := hd i hi
    unfold f_X8_rowItem_48b f_X8_rowItem_116
    rw [if_neg (nI_ge hi (by omega)), if_neg (show ¬ (1 : Int32) = 0 by decide), hg, nI_add, pk_mul, show (9 : Int32) + nI (w * j) = nI (9 + w * j) from nI_add 9 _, nI_add]
    simp only [inb_nI (show b + i < 120 by omega) (show 120 < 2 ^ 31 by decide), inb_nI (show 9 + w * j + i < 81 by omega) (show 81 < 2 ^ 31 by decide), if_true]
    rw [nI_clamp (show b + i < 2 ^ 31 by omega), nI_clamp (show 9 + w * j + i < 2 ^ 31 by omega), (hc (b + i) (by omega)).1, dig_sub hq.1, nI_1]
    by_cases y : ch (b + i) < 50
    · rw [if_pos y, if_neg (show ¬ (50 : Int32) ≤ nI (ch (b + i)) from nI_ge (a := ch (b + i)) (b := 50) y (by omega))]
    · rw [if_neg y, if_pos (show (50 : Int32) ≤ nI (ch (b + i)) from nI_le (a := 50) (by omega) (by omega))]
  have hg0 : ∀ i, (fun c => if 9 + w * j ≤ c ∧ c < 9 + w * j + i then nI (ch (b + (c - (9 + w * j))) - 48) else rd c) 0 = nI w := fun i => by
    show (if 9 + w * j ≤ 0 ∧ 0 < 9 + w * j + i then _ else rd 0) = _
    rw [if_neg (by omega), h0]
  unfold f_X8_rowItem_48
  by_cases y : m = w
  · subst y
    refine ⟨fun c => if 9 + m * j ≤ c ∧ c < 9 + m * j + m then nI (ch (b + (c - (9 + m * j))) - 48) else rd c, ?_, fun _ => rfl⟩
    rw [if_pos rfl]
    refine (ox_for (r := ((fun c => if 9 + m * j ≤ c ∧ c < 9 + m * j + m then nI (ch (b + (c - (9 + m * j))) - 48) else rd c), (1 : Int32))) (fun i => ((fun c => if 9 + m * j ≤ c ∧ c < 9 + m * j + i then nI (ch (b + (c - (9 + m * j))) - 48) else rd c), (1 : Int32), nI i)) m (by rw [seg0 (fun c => nI (ch (b + c) - 48)) rd (9 + m * j)]; rfl) (by omega) ?_ ?_).trans ?_
    · intro i hi k
      show f_X8_rowItem_48b sp K (nI b) LT (nI m) VL (nI j) tx _ 1 (nI i) k = _
      rw [hs i hi _ (hg0 i), if_pos (hok i hi), upd_seg (g := fun c => nI (ch (b + c) - 48)) rfl]
    · intro k
      show f_X8_rowItem_48b sp K (nI b) LT (nI m) VL (nI j) tx _ 1 (nI m) k = _
      unfold f_X8_rowItem_48b
      rw [if_pos (nI_le (Nat.le_refl _) (by omega))]
    · exact Eq.refl _
  · refine ⟨fun c => if 9 + w * j ≤ c ∧ c < 9 + w * j + (m + 1) then nI (ch (b + (c - (9 + w * j))) - 48) else rd c, ?_, fun z => absurd z y⟩
    rw [if_neg y]
    refine (ox_for (r := ((fun c => if 9 + w * j ≤ c ∧ c < 9 + w * j + (m + 1) then nI (ch (b + (c - (9 + w * j))) - 48) else rd c), (0 : Int32))) (fun i => ((fun c => if 9 + w * j ≤ c ∧ c < 9 + w * j + i then nI (ch (b + (c - (9 + w * j))) - 48) else rd c), (if i ≤ m then (1 : Int32) else 0), nI i)) (m + 1) (by rw [seg0 (fun c => nI (ch (b + c) - 48)) rd (9 + w * j), if_pos (Nat.zero_le _)]; rfl) (by omega) ?_ ?_).trans ?_
    · intro i hi k
      show f_X8_rowItem_48b sp K (nI b) LT (nI w) VL (nI j) tx _ (if i ≤ m then (1 : Int32) else 0) (nI i) k = k (_, (if i + 1 ≤ m then (1 : Int32) else 0), nI (i + 1))
      rw [if_pos (show i ≤ m by omega), hs i (by omega) _ (hg0 i), upd_seg (g := fun c => nI (ch (b + c) - 48)) rfl]
      by_cases z : i = m
      · rw [if_neg (by rw [z]; have := hend (by omega); omega), if_neg (by omega)]
      · rw [if_pos (hok i (by omega)), if_pos (by omega)]
    · intro k
      show f_X8_rowItem_48b sp K (nI b) LT (nI w) VL (nI j) tx _ (if m + 1 ≤ m then (1 : Int32) else 0) (nI (m + 1)) k = _
      rw [if_neg (show ¬ m + 1 ≤ m by omega)]
      unfold f_X8_rowItem_48b
      by_cases z : nI w ≤ nI (m + 1)
      · rw [if_pos z]
      · rw [if_neg z, if_pos rfl]
    · exact Eq.refl _
theorem row_no (sp K b : Int32) (LT : Int64) (FG VL ro : Int32) (tx rd : Nat → Int32) : f_X8_rowItem_48 sp K b LT FG VL ro tx rd 0 0 = f_X8_rowItem_123 sp K b LT FG VL ro rd 0 := by
  unfold f_X8_rowItem_48
  refine (ox_for (r := (rd, (0 : Int32))) (fun _ => (rd, (0 : Int32), (0 : Int32))) 0 rfl (by omega) (fun i hi => absurd hi (by omega)) ?_).trans ?_
  · intro k
    show f_X8_rowItem_48b sp K b LT FG VL ro tx rd 0 0 k = _
    unfold f_X8_rowItem_48b
    by_cases z : FG ≤ 0
    · rw [if_pos z]
    · rw [if_neg z, if_pos rfl]
  · exact Eq.refl _
theorem it_row {ch : Nat → Nat} {n e w h j b0 : Nat} {fx pl dv K0 K8 FG0 VL0 : Int32} {LT0 : Int64} {lt tx nu fi rd : Nat → Int32} (hC : CHR ch n lt tx) (he : e ≤ n) (hb0 : b0 ≤ n) (hP : PRS w h j fx pl dv nu fi rd) :
    OUT n e (ob7 (f_X5_readRow fx (nI j) (nI n) K0 (nI b0) (nI e) lt (nI w) (nI h) fi) (fun r_35 isPlateFixed_36 rowsTold_37 text_kind_38 text_first_39 text_fin_40 plate_figure_41 => if r_35 = 0 ∨ r_35 = 1 then some (r_35, isPlateFixed_36, rowsTold_37, text_kind_38, text_first_39, text_fin_40, (nI w), (nI h), nu, plate_figure_41) else none))
      (ob9 (f_X8_rowItem (nI n) (nI e) K8 (nI b0) LT0 FG0 VL0 (nI j) tx rd) (fun r_29 spot_30 kind_31 begin_32 letters_33 figures_34 value_35 rows_36 read_37 => if r_29 = 0 then (f_X8_item_320 spot_30 kind_31 begin_32 letters_33 figures_34 value_35 pl dv rows_36 read_37) else (f_X8_item_321 spot_30 kind_31 begin_32 letters_33 figures_34 value_35 pl dv rows_36 read_37 1))) := by
  obtain ⟨⟨a1, a2, a3, a4, a5⟩, hb, ⟨c1, c2⟩, d, nr, f, g⟩ := id hP
  have h36 := mul36 a2 a4
  unfold f_X5_readRow f_X8_rowItem f_X8_item_320 f_X8_item_321 f_X8_rowItem_44 f_X8_rowItem_45 f_X5_readRow_64
  rw [c1, c2]
  by_cases q : j = h
  · subst q
    rw [if_neg (nI_nlt (Nat.le_refl _) (by omega)), if_pos rfl, ob7_s, ob9_s, if_pos (show (0 : Int32) = 0 from rfl), r01_0, r01_0]
    exact Or.inr ⟨b0, _, _, _, _, _, _, _, _, _, _, _, _, _, _, _, _, _, hb0, rfl, rfl⟩
  · obtain ⟨K, b, e', hT⟩ := tok_ex ch he
    obtain ⟨t1, t2, t3, t4, t5⟩ := tok_b hT
    have hn := hC.1
    rw [if_pos (nI_lt (show j < h by omega) (by omega)), if_neg (fun z => q ((nI_eq (by omega) (by omega)).mp z)), e_adv hC.1 hC.2.1 hT, ob3_s, e8_takes hC.1 hC.2.2 hT, ob6_s, pk_sub t2]
    have bad : OUT n e (ob7 (some ((0 : Int32), (1 : Int32), nI j, nI K, nI b, nI e', fi)) (fun r_35 isPlateFixed_36 rowsTold_37 text_kind_38 text_first_39 text_fin_40 plate_figure_41 => if r_35 = 0 ∨ r_35 = 1 then some (r_35, isPlateFixed_36, rowsTold_37, text_kind_38, text_first_39, text_fin_40, (nI w), (nI h), nu, plate_figure_41) else none)) (ob9 (f_X8_rowItem_48 (nI e') (nI K) (nI b) (LTK ch K b e') (FGK K b e') (VLK ch K b e') (nI j) tx rd 0 0) (fun r_29 spot_30 kind_31 begin_32 letters_33 figures_34 value_35 rows_36 read_37 => if r_29 = 0 then (if (0 : Int32) = 0 ∨ (0 : Int32) = 1 then some (0, spot_30, kind_31, begin_32, letters_33, figures_34, value_35, pl, dv, rows_36, read_37) else none) else (if (1 : Int32) = 0 ∨ (1 : Int32) = 1 then some (1, spot_30, kind_31, begin_32, letters_33, figures_34, value_35, pl, dv, rows_36, read_37) else none))) := by
      rw [row_no]
      unfold f_X8_rowItem_123
      rw [ob7_s, r01_0, r01_0, ob9_s, if_pos (show (0 : Int32) = 0 from rfl), r01_0]
      exact Or.inr ⟨b, _, _, _, _, _, _, _, _, _, _, _, _, _, _, _, _, _, by omega, rfl, rfl⟩
    by_cases k2 : K = 2
    · subst k2
      rw [if_pos (show nI 2 = 2 by decide), if_pos (show nI 2 = 2 by decide), show FGK 2 b e' = nI (e' - b) from if_pos rfl]
      rw [show FGK 2 b e' = nI (e' - b) from if_pos rfl] at bad
      by_cases wl : e' - b = w
      · rw [if_pos (by rw [wl]), if_pos (by rw [wl]), wl]
        have hd : ∀ i, i < w → 48 ≤ ch (b + i) ∧ ch (b + i) ≤ 57 := fun i hi => by
          obtain ⟨_, _, _, _, ⟨_, r2, _⟩ | ⟨r1, r2, r3, r4, ⟨_, s1, s2⟩ | ⟨y, _⟩⟩⟩ := hT
          · omega
          · have := s1 (b + i) (by omega) (by omega)
            rcases kd_cases (ch (b + i)) with ⟨y, _⟩ | ⟨_, y⟩ | ⟨y, _⟩ | ⟨y, _⟩
            · omega
            · exact y
            · omega
            · omega
          · omega
        have hwj : w * j + w ≤ w * h := by
          have : w * (j + 1) ≤ w * h := Nat.mul_le_mul_left w (by omega)
          rw [Nat.mul_succ] at this
          exact this
        obtain ⟨m, m1, m2, m3⟩ := li_ex (fun i => 50 ≤ ch (b + i)) w
        have m2 : ∀ i, i < m → ch (b + i) < 50 := fun i hi => by
          have : ¬ 50 ≤ ch (b + i) := m2 i hi
          omega
        obtain ⟨fi', g1⟩ := row_cls (j := j) hC a2 (by omega) (by omega) hd m1 m2 m3 1 (nI 2) (nI e') fi
        obtain ⟨rd', g2, g3⟩ := row_mod (j := j) hC c1 a2 (by omega) (by omega) hd m1 m2 m3 (nI e') (nI 2) (VLK ch 2 b e') (LTK ch 2 b e')
        rw [g1, g2]
        unfold f_X5_readRow_136 f_X5_readRow_105 f_X8_rowItem_123
        by_cases y : m = w
        · rw [if_pos y, if_pos y, r01_1, ob7_s, ob9_s, r01_1, if_neg (show ¬ (1 : Int32) = 0 by decide), r01_1, nI_1]
          have g3 := g3 y
          refine Or.inl ⟨w, h, j + 1, 1, pl, dv, nu, _, rd', nI 2, b, e', _, _, _, ⟨⟨a1, a2, a3, a4, by omega⟩, Or.inr ⟨rfl, ?_, ?_, fun z => by omega⟩, ⟨?_, ?_⟩, fun k hk => ?_, nr, fun k hk => ?_, fun k hk => ?_⟩, by omega, t3, rfl, rfl⟩
          · rcases hb with ⟨_, z, _⟩ | ⟨_, z, _⟩
            · exact Or.inl z
            · exact z
          · rcases hb with ⟨_, _, z, _⟩ | ⟨_, _, z, _⟩
            · exact Or.inl z
            · exact z
          · rw [g3]
            show (if 9 + w * j ≤ 0 ∧ 0 < 9 + w * j + w then _ else rd 0) = _
            rw [if_neg (by omega), c1]
          · rw [g3]
            show (if 9 + w * j ≤ 1 ∧ 1 < 9 + w * j + w then _ else rd 1) = _
            rw [if_neg (by omega), c2]
          · rw [g3]
            show (if 9 + w * j ≤ 2 + k ∧ 2 + k < 9 + w * j + w then _ else rd (2 + k)) = _
            rw [if_neg (by omega), d k hk]
          · rw [g3]
            show (if 9 + w * j ≤ 9 + k ∧ 9 + k < 9 + w * j + w then nI (ch (b + (9 + k - (9 + w * j))) - 48) else rd (9 + k)) = (if w * j ≤ k ∧ k < w * j + w then nI (ch (b + (k - w * j)) - 48) else fi k) ∧ ((if w * j ≤ k ∧ k < w * j + w then nI (ch (b + (k - w * j)) - 48) else fi k) = 0 ∨ (if w * j ≤ k ∧ k < w * j + w then nI (ch (b + (k - w * j)) - 48) else fi k) = 1)
            by_cases z : w * j ≤ k ∧ k < w * j + w
            · rw [if_pos (show 9 + w * j ≤ 9 + k ∧ 9 + k < 9 + w * j + w by omega), if_pos z, show 9 + k - (9 + w * j) = k - w * j by omega]
              refine ⟨rfl, ?_⟩
              have u1 := hd (k - w * j) (by omega)
              have u2 := m2 (k - w * j) (by omega)
              rcases (show ch (b + (k - w * j)) - 48 = 0 ∨ ch (b + (k - w * j)) - 48 = 1 by omega) with u | u
              · left; rw [u]; rfl
              · right; rw [u]; rfl
            · rw [if_neg (show ¬ (9 + w * j ≤ 9 + k ∧ 9 + k < 9 + w * j + w) by omega), if_neg z]
              exact f k hk
          · rw [g3]
            show (if 9 + w * j ≤ 45 + k ∧ 45 + k < 9 + w * j + w then _ else rd (45 + k)) = _
            rw [if_neg (by omega), g k hk]
        · rw [if_neg y, if_neg y, r01_0, ob7_s, ob9_s, r01_0, if_pos (show (0 : Int32) = 0 from rfl), r01_0]
          exact Or.inr ⟨b, _, _, _, _, _, _, _, _, _, _, _, _, _, _, _, _, _, by omega, rfl, rfl⟩
      · rw [if_neg (fun z => wl ((nI_eq (by omega) (by omega)).mp z)), if_neg (fun z => wl ((nI_eq (by omega) (by omega)).mp z))]
        exact bad
    · rw [if_neg (show ¬ nI K = 2 from fun u => k2 ((nI_eq (a := K) (b := 2) (by omega) (by omega)).mp u)), if_neg (show ¬ nI K = 2 from fun u => k2 ((nI_eq (a := K) (b := 2) (by omega) (by omega)).mp u))]
      exact bad
theorem it_all {ch : Nat → Nat} {n p K b e w h j : Nat} {fx pl dv : Int32} {lt tx nu fi rd : Nat → Int32} (hC : CHR ch n lt tx) (hT : TOK ch n p K b e) (hP : PRS w h j fx pl dv nu fi rd) :
    ∃ W, f_X5_wordHere (nI K) (nI b) (nI e) lt = some W ∧ OUT n e (f_X5_readTold fx (nI j) (nI n) (nI K) (nI b) (nI e) lt (nI w) (nI h) nu fi W) (f_X8_item (nI n) (nI e) (nI K) (nI b) (LTK ch K b e) (FGK K b e) (VLK ch K b e) pl dv (nI j) tx rd) := by
  obtain ⟨m, m1, m2, m3, m4⟩ := e_word hC hT
  obtain ⟨t1, t2, t3, t4, t5⟩ := tok_b hT
  refine ⟨_, m2, ?_⟩
  unfold f_X8_item
  by_cases k1 : K = 1
  · have hz := m4 k1
    rw [if_pos (show nI K = 1 by rw [k1]; decide), five_6, ob1_s, four_0, ob1_s, five_1, ob1_s, four_2, ob1_s, five_3, ob1_s, five_4, ob1_s, per_4, five_5, ob1_s, five_7, ob1_s, row_8]
    have no : ∀ z, z < 9 → ¬ z = m → ¬ lg_cmp (LTK ch K b e) (wcL z) = 0 := fun z hz9 u v => u ((hz z hz9).mp v)
    unfold f_X5_readTold
    rcases (show m = 0 ∨ m = 1 ∨ m = 2 ∨ m = 3 ∨ m = 4 ∨ m = 5 ∨ m = 6 ∨ m = 7 ∨ m = 8 ∨ m = 9 by omega) with u | u | u | u | u | u | u | u | u | u <;> subst u
    · rw [if_pos (show 0 < 9 by omega), if_neg (no 6 (by omega) (by omega)), if_pos ((hz 0 (by omega)).mpr rfl), if_neg (show ¬ nI 0 = -1 by decide), if_pos (show nI 0 = 0 by decide)]
      exact it_set (z := 0) hC t3 (by omega) hP
    · rw [if_pos (show 1 < 9 by omega), if_neg (no 6 (by omega) (by omega)), if_neg (no 0 (by omega) (by omega)), if_pos ((hz 1 (by omega)).mpr rfl), if_neg (show ¬ nI 1 = -1 by decide), if_neg (show ¬ nI 1 = 0 by decide), if_pos (show nI 1 = 1 by decide)]
      exact it_set (z := 1) hC t3 (by omega) hP
    · rw [if_pos (show 2 < 9 by omega), if_neg (no 6 (by omega) (by omega)), if_neg (no 0 (by omega) (by omega)), if_neg (no 1 (by omega) (by omega)), if_pos ((hz 2 (by omega)).mpr rfl), if_neg (show ¬ nI 2 = -1 by decide), if_neg (show ¬ nI 2 = 0 by decide), if_neg (show ¬ nI 2 = 1 by decide), if_pos (show nI 2 = 2 by decide)]
      exact it_set (z := 2) hC t3 (by omega) hP
    · rw [if_pos (show 3 < 9 by omega), if_neg (no 6 (by omega) (by omega)), if_neg (no 0 (by omega) (by omega)), if_neg (no 1 (by omega) (by omega)), if_neg (no 2 (by omega) (by omega)), if_pos ((hz 3 (by omega)).mpr rfl), if_neg (show ¬ nI 3 = -1 by decide), if_neg (show ¬ nI 3 = 0 by decide), if_neg (show ¬ nI 3 = 1 by decide), if_neg (show ¬ nI 3 = 2 by decide), if_pos (show nI 3 = 3 by decide)]
      exact it_set (z := 3) hC t3 (by omega) hP
    · rw [if_pos (show 4 < 9 by omega), if_neg (no 6 (by omega) (by omega)), if_neg (no 0 (by omega) (by omega)), if_neg (no 1 (by omega) (by omega)), if_neg (no 2 (by omega) (by omega)), if_neg (no 3 (by omega) (by omega)), if_pos ((hz 4 (by omega)).mpr rfl), if_neg (show ¬ nI 4 = -1 by decide), if_neg (show ¬ nI 4 = 0 by decide), if_neg (show ¬ nI 4 = 1 by decide), if_neg (show ¬ nI 4 = 2 by decide), if_neg (show ¬ nI 4 = 3 by decide), if_pos (show nI 4 = 4 by decide)]
      exact it_set (z := 4) hC t3 (by omega) hP
    · rw [if_pos (show 5 < 9 by omega), if_neg (no 6 (by omega) (by omega)), if_neg (no 0 (by omega) (by omega)), if_neg (no 1 (by omega) (by omega)), if_neg (no 2 (by omega) (by omega)), if_neg (no 3 (by omega) (by omega)), if_neg (no 4 (by omega) (by omega)), if_pos ((hz 5 (by omega)).mpr rfl), if_neg (show ¬ nI 5 = -1 by decide), if_neg (show ¬ nI 5 = 0 by decide), if_neg (show ¬ nI 5 = 1 by decide), if_neg (show ¬ nI 5 = 2 by decide), if_neg (show ¬ nI 5 = 3 by decide), if_neg (show ¬ nI 5 = 4 by decide), if_pos (show nI 5 = 5 by decide)]
      exact it_set (z := 5) hC t3 (by omega) hP
    · rw [if_pos (show 6 < 9 by omega), if_pos ((hz 6 (by omega)).mpr rfl), if_neg (show ¬ nI 6 = -1 by decide), if_neg (show ¬ nI 6 = 0 by decide), if_neg (show ¬ nI 6 = 1 by decide), if_neg (show ¬ nI 6 = 2 by decide), if_neg (show ¬ nI 6 = 3 by decide), if_neg (show ¬ nI 6 = 4 by decide), if_neg (show ¬ nI 6 = 5 by decide), if_pos (show nI 6 = 6 by decide)]
      exact it_plate hC t3 (by omega) hP
    · rw [if_pos (show 7 < 9 by omega), if_neg (no 6 (by omega) (by omega)), if_neg (no 0 (by omega) (by omega)), if_neg (no 1 (by omega) (by omega)), if_neg (no 2 (by omega) (by omega)), if_neg (no 3 (by omega) (by omega)), if_neg (no 4 (by omega) (by omega)), if_neg (no 5 (by omega) (by omega)), if_pos ((hz 7 (by omega)).mpr rfl), if_neg (show ¬ nI 7 = -1 by decide), if_neg (show ¬ nI 7 = 0 by decide), if_neg (show ¬ nI 7 = 1 by decide), if_neg (show ¬ nI 7 = 2 by decide), if_neg (show ¬ nI 7 = 3 by decide), if_neg (show ¬ nI 7 = 4 by decide), if_neg (show ¬ nI 7 = 5 by decide), if_neg (show ¬ nI 7 = 6 by decide), if_pos (show nI 7 = 7 by decide)]
      exact it_drive hC t3 hP
    · rw [if_pos (show 8 < 9 by omega), if_neg (no 6 (by omega) (by omega)), if_neg (no 0 (by omega) (by omega)), if_neg (no 1 (by omega) (by omega)), if_neg (no 2 (by omega) (by omega)), if_neg (no 3 (by omega) (by omega)), if_neg (no 4 (by omega) (by omega)), if_neg (no 5 (by omega) (by omega)), if_neg (no 7 (by omega) (by omega)), if_pos ((hz 8 (by omega)).mpr rfl), if_neg (show ¬ nI 8 = -1 by decide), if_neg (show ¬ nI 8 = 0 by decide), if_neg (show ¬ nI 8 = 1 by decide), if_neg (show ¬ nI 8 = 2 by decide), if_neg (show ¬ nI 8 = 3 by decide), if_neg (show ¬ nI 8 = 4 by decide), if_neg (show ¬ nI 8 = 5 by decide), if_neg (show ¬ nI 8 = 6 by decide), if_neg (show ¬ nI 8 = 7 by decide), if_pos (show nI 8 = 8 by decide)]
      exact it_row hC t3 (by omega) hP
    · rw [if_neg (show ¬ 9 < 9 by omega), if_neg (no 6 (by omega) (by omega)), if_neg (no 0 (by omega) (by omega)), if_neg (no 1 (by omega) (by omega)), if_neg (no 2 (by omega) (by omega)), if_neg (no 3 (by omega) (by omega)), if_neg (no 4 (by omega) (by omega)), if_neg (no 5 (by omega) (by omega)), if_neg (no 7 (by omega) (by omega)), if_neg (no 8 (by omega) (by omega)), if_pos (show (-1 : Int32) = -1 from rfl)]
      unfold f_X8_item_320 f_X8_item_321
      rw [r01_0]
      exact Or.inr ⟨b, _, _, _, _, _, _, _, _, _, _, _, _, _, _, _, _, _, by omega, rfl, rfl⟩
  · have h9 : ¬ m < 9 := fun u => k1 (m3 u)
    rw [if_neg h9, if_neg (show ¬ nI K = 1 from fun u => k1 ((nI_eq (a := K) (b := 1) (by omega) (by omega)).mp u))]
    unfold f_X5_readTold
    rw [if_pos (show (-1 : Int32) = -1 from rfl)]
    exact Or.inr ⟨b, _, _, _, _, _, _, _, _, _, _, _, _, _, _, _, _, _, by omega, rfl, rfl⟩
