/-! the whole text on both sides -/
def pl9 (a : Nat → Int32) : Nat → Int32 := upd (upd (upd (upd (upd (upd (upd (upd (upd a 0 3) 1 3) 2 1) 3 4) 4 8) 5 40) 6 8) 7 10) 8 0
def plR (a : Nat → Int32) (i : Nat) : Nat → Int32 := fun c => if 45 ≤ c ∧ c < 45 + i then 1 else if 9 ≤ c ∧ c < 9 + i then 0 else pl9 a c
theorem pl_upd (a : Nat → Int32) {i : Nat} (hi : i < 36) : upd (upd (plR a i) (9 + i) 0) (45 + i) 1 = plR a (i + 1) := by
  funext c
  by_cases q : c = 45 + i
  · rw [q, pk_us]
    exact (if_pos (by omega)).symm
  · rw [pk_un q]
    by_cases z : c = 9 + i
    · rw [z, pk_us]
      exact ((if_neg (by omega)).trans (if_pos (by omega))).symm
    · rw [pk_un z]
      unfold plR
      by_cases y : 45 ≤ c ∧ c < 45 + i
      · rw [if_pos y, if_pos (by omega)]
      · rw [if_neg y, if_neg (show ¬ (45 ≤ c ∧ c < 45 + (i + 1)) by omega)]
        by_cases u : 9 ≤ c ∧ c < 9 + i
        · rw [if_pos u, if_pos (by omega)]
        · rw [if_neg u, if_neg (by omega)]
theorem e8_plain (a : Nat → Int32) : f_X8_plain a = some (plR a 36) := by
  unfold f_X8_plain f_X8_plain_45
  refine (ox_for (r := plR a 36) (fun i => (plR a i, nI i)) 36 ?_ (by omega) ?_ ?_).trans ?_
  · have : plR a 0 = pl9 a := by
      funext c
      exact (if_neg (by omega)).trans (if_neg (by omega))
    rw [this]
    exact Eq.refl _
  · intro i hi k
    show f_X8_plain_45b (plR a i) (nI i) k = _
    unfold f_X8_plain_45b
    rw [if_neg (show ¬ (36 : Int32) ≤ nI i from nI_ge (a := i) (b := 36) hi (by omega)), show (9 : Int32) + nI i = nI (9 + i) from nI_add 9 i, show (45 : Int32) + nI i = nI (45 + i) from nI_add 45 i, if_pos (inb_nI (show 9 + i < 81 by omega) (by decide)), if_pos (inb_nI (show 45 + i < 81 by omega) (by decide)), nI_clamp (show 9 + i < 2 ^ 31 by omega), nI_clamp (show 45 + i < 2 ^ 31 by omega), nI_1, pl_upd a hi]
  · intro k
    show f_X8_plain_45b (plR a 36) (nI 36) k = _
    unfold f_X8_plain_45b
    rw [if_pos (show (36 : Int32) ≤ nI 36 by decide)]
  · exact Eq.refl _
theorem pl_hi (a : Nat → Int32) {c : Nat} (h : c < 9) : plR a 36 c = pl9 a c := (if_neg (by omega)).trans (if_neg (by omega))
theorem pl9_v (a : Nat → Int32) : pl9 a 0 = nI 3 ∧ pl9 a 1 = nI 3 ∧ ∀ k, k < 7 → pl9 a (2 + k) = tbl0 k := by
  refine ⟨rfl, rfl, fun k hk => ?_⟩
  rcases (show k = 0 ∨ k = 1 ∨ k = 2 ∨ k = 3 ∨ k = 4 ∨ k = 5 ∨ k = 6 by omega) with e | e | e | e | e | e | e <;> subst e <;> rfl
theorem NR_first {nu : Nat → Int32} (h : ∀ k, k < 7 → nu k = tbl0 k) : NR 3 3 nu :=
  ⟨8, 8, 0, (h 2 (by omega)).trans rfl, by omega, by omega, (h 4 (by omega)).trans rfl, by omega, by omega, (h 6 (by omega)).trans rfl, by omega⟩
theorem PRS_first (rd nu fi : Nat → Int32) : PRS 3 3 0 0 0 0 (va_cpy tbl0 nu 0 0 7) (fun c => if c < 36 then 0 else fi c) (plR rd 36) := by
  obtain ⟨p1, p2, p3⟩ := pl9_v rd
  refine ⟨⟨by omega, by omega, by omega, by omega, by omega⟩, Or.inl ⟨rfl, rfl, rfl, rfl, ?_⟩, ⟨by rw [pl_hi rd (by omega), p1], by rw [pl_hi rd (by omega), p2]⟩, fun k hk => by rw [pl_hi rd (by omega), p3 k hk, cpy7 hk], NR_first (fun k hk => cpy7 hk), fun k hk => ?_, fun k hk => if_pos (by omega)⟩
  · rw [cpy7 (by omega)]; rfl
  · show (if 45 ≤ 9 + k ∧ 9 + k < 45 + 36 then (1 : Int32) else if 9 ≤ 9 + k ∧ 9 + k < 9 + 36 then 0 else pl9 rd (9 + k)) = (if k < 36 then 0 else fi k) ∧ ((if k < 36 then (0 : Int32) else fi k) = 0 ∨ (if k < 36 then (0 : Int32) else fi k) = 1)
    rw [if_neg (by omega), if_pos (by omega), if_pos hk]
    exact ⟨rfl, Or.inl rfl⟩
theorem st17_0 (s k b : Int32) (l : Int64) (f v : Int32) : f_X8_stops_17 s k b l f v 0 = some (0, s, k, b, l, f, v) := if_pos (Or.inl rfl)
theorem st17_1 (s k b : Int32) (l : Int64) (f v : Int32) : f_X8_stops_17 s k b l f v 1 = some (1, s, k, b, l, f, v) := if_pos (Or.inr rfl)
theorem sc23_0 (k f e : Int32) : f_X5_readSemicolon_23 k f e 0 = some (0, k, f, e) := if_pos (Or.inl rfl)
theorem sc23_1 (k f e : Int32) : f_X5_readSemicolon_23 k f e 1 = some (1, k, f, e) := if_pos (Or.inr rfl)
theorem semi {ch : Nat → Nat} {n p : Nat} {lt tx : Nat → Int32} (hC : CHR ch n lt tx) (hp : p ≤ n) : ∃ r K b e LT FG VL, (r = 0 ∨ r = 1) ∧ p ≤ e ∧ e ≤ n ∧ b ≤ n ∧ f_X5_readSemicolon (nI n) (nI p) lt = some (r, K, nI b, nI e) ∧ f_X8_stops (nI n) (nI p) tx = some (r, nI e, K, nI b, LT, FG, VL) := by
  obtain ⟨K, b, e, hT⟩ := tok_ex ch hp
  obtain ⟨t1, t2, t3, t4, t5⟩ := tok_b hT
  unfold f_X5_readSemicolon f_X8_stops
  rw [e_adv hC.1 hC.2.1 hT, ob3_s, e8_takes hC.1 hC.2.2 hT, ob6_s]
  by_cases q : nI K = 3
  · rw [if_pos q, if_pos q, st17_1, sc23_1]
    exact ⟨1, nI K, b, e, _, _, _, Or.inr rfl, by omega, t3, by omega, rfl, rfl⟩
  · rw [if_neg q, if_neg q, st17_0, sc23_0]
    exact ⟨0, nI K, b, e, _, _, _, Or.inl rfl, by omega, t3, by omega, rfl, rfl⟩
def RD (n : Nat) (A : Option (Int32 × Int32 × Int32 × Int32 × Int32 × Int32 × Int32 × Int32 × (Nat → Int32) × (Nat → Int32) × (Nat → Int32))) (B : Option (Int32 × Int32 × Int32 × Int32 × Int64 × Int32 × Int32 × Int32 × Int32 × Int32 × (Nat → Int32))) (gr : Nat → Int32) : Prop :=
  (∃ i w h j fx pl dv nu fi rd K F E S K8 B8 LT FG VL, i ≤ 120 ∧ PRS w h j fx pl dv nu fi rd ∧ A = some (nI i, fx, nI j, K, F, E, nI w, nI h, nu, fi, gr) ∧ B = some (nI i, S, K8, B8, LT, FG, VL, pl, dv, nI j, rd)) ∨
  (∃ b fx rt K F E W H nu fi S K8 B8 LT FG VL pl dv ro rd, b ≤ n ∧ A = some ((-10) - nI b, fx, rt, K, F, E, W, H, nu, fi, gr) ∧ B = some ((-10) - nI b, S, K8, B8, LT, FG, VL, pl, dv, ro, rd))
theorem reads_both {ch : Nat → Nat} {n p K b e : Nat} {w h j : Nat} {fx pl dv : Int32} {lt tx nu fi rd : Nat → Int32} (hC : CHR ch n lt tx) (hT : TOK ch n p K b e) (hP : PRS w h j fx pl dv nu fi rd) (k0 f0 : Int32) (gr : Nat → Int32) :
    RD n (f_X5_readAll_6 fx (nI j) (nI n) k0 f0 (nI p) lt (nI w) (nI h) nu fi gr 0) (f_X8_reads_33 (nI n) (nI e) (nI K) (nI b) (LTK ch K b e) (FGK K b e) (VLK ch K b e) pl dv (nI j) tx rd 0) gr := by
  have hn := hC.1
  obtain ⟨u, v, hQ, e1, e2⟩ := vm_two (f := f_X5_readAll_6s (nI n) lt gr) (g := f_X8_reads_33s (nI n) tx) (a := (fx, nI j, k0, f0, nI p, nI w, nI h, nu, fi, 0)) (b := (nI e, nI K, nI b, LTK ch K b e, FGK K b e, VLK ch K b e, pl, dv, nI j, rd, 0))
    (fun i s t => ∃ p K b e w h j fx pl dv nu fi rd k0 f0, TOK ch n p K b e ∧ i ≤ p ∧ PRS w h j fx pl dv nu fi rd ∧ s = (fx, nI j, k0, f0, nI p, nI w, nI h, nu, fi, nI i) ∧ t = (nI e, nI K, nI b, LTK ch K b e, FGK K b e, VLK ch K b e, pl, dv, nI j, rd, nI i))
    (fun u v => (∃ i w h j fx pl dv nu fi rd K F E S K8 B8 LT FG VL, i ≤ 120 ∧ PRS w h j fx pl dv nu fi rd ∧ u = Sum.inr (Sum.inl (fx, nI j, K, F, E, nI w, nI h, nu, fi, nI i)) ∧ v = Sum.inl (S, K8, B8, LT, FG, VL, pl, dv, nI j, rd, nI i)) ∨
      (∃ b fx rt K E W H nu fi S K8 LT FG VL pl dv ro rd, b ≤ n ∧ u = Sum.inr (Sum.inr (fx, rt, K, nI b, E, W, H, nu, fi)) ∧ v = Sum.inr (S, K8, nI b, LT, FG, VL, pl, dv, ro, rd))) 120 (by omega) ⟨p, K, b, e, w, h, j, fx, pl, dv, nu, fi, rd, k0, f0, hT, Nat.zero_le _, hP, rfl, rfl⟩ (by
    intro i hi s t hR
    obtain ⟨p, K, b, e, w, h, j, fx, pl, dv, nu, fi, rd, k0, f0, hT, hip, hP, rfl, rfl⟩ := hR
    obtain ⟨t1, t2, t3, t4, t5⟩ := tok_b hT
    have hs : ∀ k, f_X5_readAll_6s (nI n) lt gr (fx, nI j, k0, f0, nI p, nI w, nI h, nu, fi, nI i) k = f_X5_readAll_6b (nI n) lt gr fx (nI j) k0 f0 (nI p) (nI w) (nI h) nu fi (nI i) k := fun k => rfl
    have ht : ∀ k, f_X8_reads_33s (nI n) tx (nI e, nI K, nI b, LTK ch K b e, FGK K b e, VLK ch K b e, pl, dv, nI j, rd, nI i) k = f_X8_reads_33b (nI n) tx (nI e) (nI K) (nI b) (LTK ch K b e) (FGK K b e) (VLK ch K b e) pl dv (nI j) rd (nI i) k := fun k => rfl
    have i120 : ¬ (120 : Int32) < nI i := nI_nlt (a := 120) (b := i) (by omega) (by omega)
    by_cases q : K = 0
    · right
      refine ⟨Sum.inr (Sum.inl (fx, nI j, nI K, nI b, nI e, nI w, nI h, nu, fi, nI i)), Sum.inl (nI e, nI K, nI b, LTK ch K b e, FGK K b e, VLK ch K b e, pl, dv, nI j, rd, nI i), Or.inl ⟨i, w, h, j, fx, pl, dv, nu, fi, rd, _, _, _, _, _, _, _, _, _, hi, hP, rfl, rfl⟩, fun k => ?_, fun k => ?_⟩
      · rw [hs]
        unfold f_X5_readAll_6b
        rw [if_neg i120, e_adv hC.1 hC.2.1 hT, ob3_s, if_pos (show nI K = 0 by rw [q]; rfl)]
      · rw [ht]
        unfold f_X8_reads_33b
        rw [if_pos (show nI K = 0 by rw [q]; rfl)]
    · have hbe := t5 q
      have kn0 : ¬ nI K = 0 := nI_ne0 (by omega) (by omega)
      obtain ⟨W, w1, w2⟩ := it_all hC hT hP
      have hs2 : ∀ k, f_X5_readAll_6s (nI n) lt gr (fx, nI j, k0, f0, nI p, nI w, nI h, nu, fi, nI i) k = ob10 (f_X5_readTold fx (nI j) (nI n) (nI K) (nI b) (nI e) lt (nI w) (nI h) nu fi W) (fun r_9 isPlateFixed_10 rowsTold_11 text_kind_12 text_first_13 text_fin_14 plate_columns_15 plate_rows_16 plate_numbers_17 plate_figure_18 => if r_9 = 0 then (some (Sum.inr (Sum.inr (isPlateFixed_10, rowsTold_11, text_kind_12, text_first_13, text_fin_14, plate_columns_15, plate_rows_16, plate_numbers_17, plate_figure_18)))) else (ob4 (f_X5_readSemicolon (nI n) text_fin_14 lt) (fun r_21 text_kind_22 text_first_23 text_fin_24 => if r_21 = 0 then (some (Sum.inr (Sum.inr (isPlateFixed_10, rowsTold_11, text_kind_22, text_first_23, text_fin_24, plate_columns_15, plate_rows_16, plate_numbers_17, plate_figure_18)))) else (k (isPlateFixed_10, rowsTold_11, text_kind_22, text_first_23, text_fin_24, plate_columns_15, plate_rows_16, plate_numbers_17, plate_figure_18, (nI i + 1)))))) := fun k => by
        rw [hs]
        unfold f_X5_readAll_6b
        rw [if_neg i120, e_adv hC.1 hC.2.1 hT, ob3_s, if_neg kn0, w1, ob1_s]
      have ht2 : ∀ k, f_X8_reads_33s (nI n) tx (nI e, nI K, nI b, LTK ch K b e, FGK K b e, VLK ch K b e, pl, dv, nI j, rd, nI i) k = ob11 (f_X8_item (nI n) (nI e) (nI K) (nI b) (LTK ch K b e) (FGK K b e) (VLK ch K b e) pl dv (nI j) tx rd) (fun r_2 spot_3 kind_4 begin_5 letters_6 figures_7 value_8 plated_9 driven_10 rows_11 read_12 => if r_2 = 0 then (some (Sum.inr (spot_3, kind_4, begin_5, letters_6, figures_7, value_8, plated_9, driven_10, rows_11, read_12))) else (ob7 (f_X8_stops (nI n) spot_3 tx) (fun r_15 spot_16 kind_17 begin_18 letters_19 figures_20 value_21 => if r_15 = 0 then (some (Sum.inr (spot_16, kind_17, begin_18, letters_19, figures_20, value_21, plated_9, driven_10, rows_11, read_12))) else (ob6 (f_X8_takes (nI n) spot_16 tx) (fun spot_24 kind_25 begin_26 letters_27 figures_28 value_29 => k (spot_24, kind_25, begin_26, letters_27, figures_28, value_29, plated_9, driven_10, rows_11, read_12, (nI i + 1))))))) := fun k => by
        rw [ht]
        unfold f_X8_reads_33b
        rw [if_neg kn0]
      rcases w2 with ⟨w', h', j', fx', pl', dv', nu', fi', rd', K', b', e', LT', FG', VL', hP', g1, g2, g3, g4⟩ | ⟨b', fx', rt, K', fin, W', H', nu', fi', sp, K8, LT', FG', VL', pl', dv', ro, rd', g1, g3, g4⟩
      · obtain ⟨r, K2, b2, e2, LT2, FG2, VL2, r01, s1, s2, s3, s4, s5⟩ := semi hC g2
        rcases r01 with r0 | r1
        · right
          subst r0
          refine ⟨Sum.inr (Sum.inr (fx', nI j', K2, nI b2, nI e2, nI w', nI h', nu', fi')), Sum.inr (nI e2, K2, nI b2, LT2, FG2, VL2, pl', dv', nI j', rd'), Or.inr ⟨b2, _, _, _, _, _, _, _, _, _, _, _, _, _, _, _, _, _, s3, rfl, rfl⟩, fun k => ?_, fun k => ?_⟩
          · rw [hs2, g3, ob10_s, if_neg (show ¬ (1 : Int32) = 0 by decide), s4, ob4_s, if_pos rfl]
          · rw [ht2, g4, ob11_s, if_neg (show ¬ (1 : Int32) = 0 by decide), s5, ob7_s, if_pos rfl]
        · left
          subst r1
          obtain ⟨K3, b3, e3, hT3⟩ := tok_ex ch s2
          refine ⟨by omega, (fx', nI j', K2, nI b2, nI e2, nI w', nI h', nu', fi', nI (i + 1)), (nI e3, nI K3, nI b3, LTK ch K3 b3 e3, FGK K3 b3 e3, VLK ch K3 b3 e3, pl', dv', nI j', rd', nI (i + 1)), ⟨e2, K3, b3, e3, w', h', j', fx', pl', dv', nu', fi', rd', K2, nI b2, hT3, by omega, hP', rfl, rfl⟩, fun k => ?_, fun k => ?_⟩
          · rw [hs2, g3, ob10_s, if_neg (show ¬ (1 : Int32) = 0 by decide), s4, ob4_s, if_neg (show ¬ (1 : Int32) = 0 by decide), nI_1]
          · rw [ht2, g4, ob11_s, if_neg (show ¬ (1 : Int32) = 0 by decide), s5, ob7_s, if_neg (show ¬ (1 : Int32) = 0 by decide), e8_takes hC.1 hC.2.2 hT3, ob6_s, nI_1]
      · right
        refine ⟨Sum.inr (Sum.inr (fx', rt, K', nI b', fin, W', H', nu', fi')), Sum.inr (sp, K8, nI b', LT', FG', VL', pl', dv', ro, rd'), Or.inr ⟨b', _, _, _, _, _, _, _, _, _, _, _, _, _, _, _, _, _, g1, rfl, rfl⟩, fun k => ?_, fun k => ?_⟩
        · rw [hs2, g3, ob10_s, if_pos rfl]
        · rw [ht2, g4, ob11_s, if_pos rfl])
  unfold f_X5_readAll_6 f_X8_reads_33
  rw [e1, e2, obx_s, obx_s]
  rcases hQ with ⟨i, w, h, j, fx, pl, dv, nu, fi, rd, K, F, E, S, K8, B8, LT, FG, VL, hi, hP, rfl, rfl⟩ | ⟨b, fx, rt, K, E, W, H, nu, fi, S, K8, LT, FG, VL, pl, dv, ro, rd, hb, rfl, rfl⟩
  · left
    refine ⟨i, w, h, j, fx, pl, dv, nu, fi, rd, K, F, E, S, K8, B8, LT, FG, VL, hi, hP, ?_, ?_⟩
    · show f_X5_readAll_29 fx (nI j) K F E (nI w) (nI h) nu fi gr (nI i) = _
      unfold f_X5_readAll_29
      exact Eq.refl _
    · show f_X8_reads_72 S K8 B8 LT FG VL pl dv (nI j) rd (nI i) = _
      unfold f_X8_reads_72
      exact Eq.refl _
  · right
    refine ⟨b, fx, rt, K, nI b, E, W, H, nu, fi, S, K8, nI b, LT, FG, VL, pl, dv, ro, rd, hb, ?_, ?_⟩
    · show f_X5_readAll_49 fx rt K (nI b) E W H nu fi gr = _
      unfold f_X5_readAll_49
      exact Eq.refl _
    · show f_X8_reads_54 S K8 (nI b) LT FG VL pl dv ro rd = _
      unfold f_X8_reads_54
      exact Eq.refl _
theorem e_readAll {ch : Nat → Nat} {n : Nat} {lt tx : Nat → Int32} (hC : CHR ch n lt tx) (k0 f0 : Int32) (nu fi gr rd : Nat → Int32) :
    RD n (f_X5_readAll (nI n) k0 f0 lt nu fi gr) (f_X8_reads (nI n) tx rd) (fun c => if c < 36 then 1 else gr c) := by
  obtain ⟨K, b, e, hT⟩ := tok_ex ch (Nat.zero_le n)
  have h := reads_both hC hT (PRS_first rd nu fi) k0 f0 (fun c => if c < 36 then 1 else gr c)
  have hz : (0 : Int32) = nI 0 := rfl
  unfold f_X5_readAll f_X5_startAnew f_X6_rewind f_X2_beAsAtFirst f_X2_layGrains f_X8_reads
  rw [e_fill (by decide), ob1_s, e_fill (by decide), ob1_s, ob1_s, ob1_s, ob5_s, ob8_s, e8_plain, ob1_s, show f_X8_takes (nI n) 0 tx = some (nI e, nI K, nI b, LTK ch K b e, FGK K b e, VLK ch K b e) from e8_takes hC.1 hC.2.2 hT, ob6_s]
  exact h
theorem cp17 (u s k b : Int32) (l : Int64) (f v pl dv ro : Int32) (sv rd bf : Nat → Int32) (x : Int32) : f_X8_tells_17 u s k b l f v pl dv ro sv rd bf x 0 = some (x, 0, u, s, k, b, l, f, v, pl, dv, ro, (fun c => if c < 81 then rd c else sv c), rd, bf) := by
  unfold f_X8_tells_17
  refine (ox_for (r := fun c => if c < 81 then rd c else sv c) (fun i => ((fun c => if c < i then rd c else sv c), nI i)) 81 (by rw [← lt0]; rfl) (by omega) ?_ ?_).trans ?_
  · intro i hi k
    show f_X8_tells_17b u s _ b l f v pl dv ro rd bf x _ (nI i) k = _
    unfold f_X8_tells_17b
    rw [if_neg (show ¬ (81 : Int32) ≤ nI i from nI_ge (a := i) (b := 81) hi (by omega)), if_pos (inb_nI hi (by decide)), if_pos (inb_nI hi (by decide)), nI_clamp (by omega), nI_1, upd_lt (g := rd) rfl]
  · intro k
    show f_X8_tells_17b u s _ b l f v pl dv ro rd bf x _ (nI 81) k = _
    unfold f_X8_tells_17b
    rw [if_pos (show (81 : Int32) ≤ nI 81 by decide)]
  · exact Eq.refl _
theorem fault_neg_d : ∀ b : Fin 121, ¬ (0 : Int32) ≤ (-10) - nI b.val := by decide +kernel
theorem fault_neg {b : Nat} (h : b ≤ 120) : ¬ (0 : Int32) ≤ (-10) - nI b := fault_neg_d ⟨b, by omega⟩
theorem e_tells {kh : Nat} (hk : kh ≤ 6) {pW pH : Nat → Int32} {pN pF pG : Nat → Nat → Int32} {W H L L8 : Int32} {nu fi gr sv bf lt tx : Nat → Int32} (had : Nat → Nat) (hH : HI kh pW pH pN pF pG bf) (hP : PR W H nu fi gr sv) (hX : TXR L lt L8 tx) (k0 f0 : Int32) (tn tf tg rd : Nat → Int32) :
    ∃ r W' H' nu' fi' gr' k' had' pW' pH' pN' pF' pG' fx rt L' K F E tW tH tn' tf' tg' L8' s8 k8 b8 l8 f8 v8 p8 d8 r8 sv' rd' b', k' ≤ 6 ∧ f_X7_tells W H nu fi gr (nI kh) had pW pH pN pF pG L k0 f0 lt tn tf tg = some (r, W', H', nu', fi', gr', nI k', had', pW', pH', pN', pF', pG', fx, rt, L', K, F, E, tW, tH, tn', tf', tg') ∧ f_X8_tells L8 (nI kh) tx sv rd bf = some (r, L8', nI k', s8, k8, b8, l8, f8, v8, p8, d8, r8, sv', rd', b') ∧ PR W' H' nu' fi' gr' sv' ∧ HI k' pW' pH' pN' pF' pG' b' ∧ TXR L' lt L8' tx := by
  obtain ⟨n, hn, rfl, rfl, hc⟩ := id hX
  have hC : CHR (fun k => (lt k).toNatClampNeg) n lt tx := by
    have key : ∀ k, k < n → lt k = nI (lt k).toNatClampNeg ∧ tx k = nI (lt k).toNatClampNeg ∧ (lt k).toNatClampNeg < 256 := fun k hk => by
      obtain ⟨c, c1, c2, c3⟩ := hc k hk
      rw [c3, c2, nI_clamp (by omega)]
      exact ⟨rfl, rfl, c1⟩
    exact ⟨hn, fun k hk => ⟨(key k hk).1, (key k hk).2.2⟩, fun k hk => ⟨(key k hk).2.1, (key k hk).2.2⟩⟩
  unfold f_X7_tells f_X8_tells
  rcases e_readAll hC k0 f0 tn tf tg rd with ⟨i, w, h, j, fx, pl, dv, nu', fi', rd', K, F, E, S, K8, B8, LT, FG, VL, hi, hS, g1, g2⟩ | ⟨b, fx, rt, K, F, E, W', H', nu', fi', S, K8, B8, LT, FG, VL, pl, dv, ro, rd', hb, g1, g2⟩
  · obtain ⟨k', had', pW', pH', pN', pF', pG', b', r1, r2, r3, r4⟩ := e_record hk had hH hP
    rw [g1, g2, ob11_s, ob11_s, if_pos (nI_pos' (by omega)), if_pos (nI_pos' (by omega)), r2, ob7_s, r3, ob2_s, e_take, ob5_s, cp17]
    obtain ⟨⟨a1, a2, a3, a4, a5⟩, hb, ⟨c1, c2⟩, d, nr, f, g⟩ := hS
    have h36 := mul36 a2 a4
    have hN : PR (nI w) (nI h) nu' fi' (fun c => if c < 36 then 1 else tg c) rd' := ⟨w, h, rfl, rfl, ⟨a1, a2, a3, a4⟩, ⟨c1, c2⟩, d, nr, f, fun k hk => by rw [g k (by omega)]; exact (if_pos (by omega)).symm, fun _ => 1, fun k hk => if_pos (by omega), nsum_one _⟩
    exact ⟨_, _, _, _, _, _, k', _, _, _, _, _, _, _, _, _, _, _, _, _, _, _, _, _, _, _, _, _, _, _, _, _, _, _, _, _, _, r1, rfl, rfl, PR_take _ _ _ hN (fun k hk => if_pos hk), r4, 0, by omega, rfl, rfl, fun k hk => by omega⟩
  · rw [g1, g2, ob11_s, ob11_s, if_neg (fault_neg (by omega)), if_neg (fault_neg (by omega))]
    exact ⟨_, _, _, _, _, _, kh, _, _, _, _, _, _, _, _, _, _, _, _, _, _, _, _, _, _, _, _, _, _, _, _, _, _, _, _, _, _, hk, rfl, rfl, hP, hH, hX⟩
