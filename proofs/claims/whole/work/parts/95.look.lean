/-! where to look -/
theorem e_csb {w h dr lo j : Nat} {nu nk kn cs ws : Nat → Int32} {mo : Nat → Nat → Int32} {C R : Int32} (h1 : 2 ≤ w) (h2 : w ≤ 6) (h3 : 2 ≤ h) (h4 : h ≤ 6) (hlo : nu 2 = nI lo) (hlo1 : 0 < lo) (hlo2 : lo < 1000) (hdr : nu 6 = nI dr) (hdr2 : dr < w * h) (hj : j ≤ 6) (hc : ∀ k, k < j → ∃ c, c < 36 ∧ cs k = nI c) (hcv : CV C R nk kn mo) (a b lw sb : Nat → Int32) :
    ∃ C' R' H V L kn' nk' mo', CV C' R' nk' kn' mo' ∧ f_X7_countStillBy (nI w) (nI h) nu C R a b lw kn nk (nI j) cs ws sb mo = some (nI (pcN (fqN w h nu cs ws dr j) 19), C', R', H, V, L, kn', nk', sbN w h nu cs ws dr j 19 (fun c => if c < 36 then (0 : Int32) else sb c), mo') := by
  have h36 := mul36 h2 h4
  obtain ⟨o, ho⟩ : ∃ o : Nat → Int32, o = fun c => if c < 36 then (0 : Int32) else sb c := ⟨_, rfl⟩
  obtain ⟨r, hr, e⟩ := vm_rel (step := f_X7_countStillBy_12s (nI w) (nI h) nu (nI j) cs ws) (s := (C, R, a, b, lw, kn, nk, o, mo, 0, 2)) (fun i s => CV s.1 s.2.1 s.2.2.2.2.2.2.1 s.2.2.2.2.2.1 s.2.2.2.2.2.2.2.2.1 ∧ s.2.2.2.2.2.2.2.1 = sbN w h nu cs ws dr j i o ∧ s.2.2.2.2.2.2.2.2.2.1 = nI (pcN (fqN w h nu cs ws dr j) i) ∧ s.2.2.2.2.2.2.2.2.2.2 = nI (2 + i)) (fun s => CV s.1 s.2.1 s.2.2.2.2.2.2.1 s.2.2.2.2.2.1 s.2.2.2.2.2.2.2.2.1 ∧ s.2.2.2.2.2.2.2.1 = sbN w h nu cs ws dr j 19 o ∧ s.2.2.2.2.2.2.2.2.2 = nI (pcN (fqN w h nu cs ws dr j) 19)) 19 (by omega) ⟨hcv, by rw [ho]; exact sb0 w h nu cs ws dr j sb h36, rfl, rfl⟩ (by
    intro i hi s hR
    obtain ⟨y1, y2, y3, y4, y5, y6, y7, y8, y9, y10, y11⟩ := s
    obtain ⟨e1, e2, e3, e4⟩ := hR
    have e1 : CV y1 y2 y7 y6 y9 := e1
    have e2 : y8 = sbN w h nu cs ws dr j i o := e2
    have e3 : y10 = nI (pcN (fqN w h nu cs ws dr j) i) := e3
    have e4 : y11 = nI (2 + i) := e4
    have hs : ∀ k, f_X7_countStillBy_12s (nI w) (nI h) nu (nI j) cs ws (y1, y2, y3, y4, y5, y6, y7, y8, y9, y10, y11) k = f_X7_countStillBy_12b (nI w) (nI h) nu (nI j) cs ws y1 y2 y3 y4 y5 y6 y7 y8 y9 y10 y11 k := fun k => rfl
    by_cases q : i = 19
    · right
      subst q
      refine ⟨(y1, y2, y3, y4, y5, y6, y7, y8, y9, y10), ⟨e1, e2, e3⟩, fun k => ?_⟩
      rw [hs]
      unfold f_X7_countStillBy_12b
      rw [if_pos (by rw [e4]; decide)]
    · left
      obtain ⟨C', R', H, V, L, kn', nk', mo', f1, f2, f3⟩ := e_by h1 h2 h3 h4 (show 0 < 2 + i by omega) (show 2 + i < 21 by omega) hlo hlo1 hlo2 hdr hdr2 e1 y3 y4 y5
      have hl : ftN (w * h) (nu 5) (mo' (2 + i)) cs ws j = fqN w h nu cs ws dr j i := ft_congr h36 f3 (fun k hk => ⟨hc k hk, rfl, rfl⟩)
      have hp : pcN (fqN w h nu cs ws dr j) (i + 1) = pcN (fqN w h nu cs ws dr j) i + (if fqN w h nu cs ws dr j i = 0 then 0 else 1) := rfl
      have hx : ∀ k, f_X7_countStillBy_12s (nI w) (nI h) nu (nI j) cs ws (y1, y2, y3, y4, y5, y6, y7, y8, y9, y10, y11) k = k (C', R', H, V, L, kn', nk', sbN w h nu cs ws dr j (i + 1) o, mo', nI (pcN (fqN w h nu cs ws dr j) (i + 1)), nI (2 + i + 1)) := fun k => by
        rw [hs]
        unfold f_X7_countStillBy_12b
        rw [e4, e3, e2, if_neg (show ¬ (20 : Int32) < nI (2 + i) from nI_nlt (a := 20) (b := 2 + i) (by omega) (by omega)), f1, ob9_s, if_pos (inb_nI (by omega) (by decide)), nI_clamp (by omega), e_fits h36 hj hc, ob1_s, hl, hp]
        by_cases z : fqN w h nu cs ws dr j i = 0
        · rw [if_pos z, if_pos z, sb_same z, Nat.add_zero (pcN (fqN w h nu cs ws dr j) i)]
          unfold f_X7_countStillBy_98
          rw [nI_1]
        · rw [if_neg z, if_neg z, e_csb52 (by omega) h36 z f3]
          unfold f_X7_countStillBy_98
          rw [nI_1, nI_1]
      exact ⟨by omega, _, ⟨f2, rfl, rfl, rfl⟩, hx⟩)
  obtain ⟨y1, y2, y3, y4, y5, y6, y7, y8, y9, y10⟩ := r
  obtain ⟨e1, e2, e3⟩ := hr
  have e2 : y8 = sbN w h nu cs ws dr j 19 o := e2
  have e3 : y10 = nI (pcN (fqN w h nu cs ws dr j) 19) := e3
  refine ⟨y1, y2, y3, y4, y5, y6, y7, y9, e1, ?_⟩
  unfold f_X7_countStillBy f_X7_countStillBy_12
  rw [e_fill (by decide), ob1_s, ← ho, e, obx_s, ← e2, ← e3]
  exact Eq.refl _
def gtN (P : Nat) (f : Nat → Nat) (c : Nat) : Nat := if f c ≤ P - f c then P - f c else f c
theorem gt_le {P : Nat} {f : Nat → Nat} {c : Nat} (h : f c ≤ P) : gtN P f c ≤ P := by
  unfold gtN
  by_cases q : f c ≤ P - f c
  · rw [if_pos q]; omega
  · rw [if_neg q]; exact h
theorem gt_cls {P : Nat} {f : Nat → Nat} {c : Nat} (h : f c ≤ P) (hP : P ≤ 19) : (if nI (f c) < nI P - nI (f c) then nI P - nI (f c) else nI (f c)) = nI (gtN P f c) := by
  rw [pk_sub h]
  unfold gtN
  by_cases q : f c < P - f c
  · rw [if_pos (nI_lt q (by omega)), if_pos (by omega)]
  · rw [if_neg (nI_nlt (by omega) (by omega))]
    by_cases z : f c ≤ P - f c
    · rw [if_pos z]
      have e : f c = P - f c := by omega
      exact congrArg nI e
    · rw [if_neg z]
theorem e_look22 {w h P : Nat} {f : Nat → Nat} (h36 : w * h ≤ 36) (hce : 0 < w * h) (hP : P ≤ 19) (hP1 : 1 < P) (hf : ∀ c, c < w * h → f c ≤ P) {sb o8 sv : Nat → Int32} (h0 : sv 0 = nI w) (hh : sv 1 = nI h) (hsb : ∀ c, c < w * h → sb c = nI (f c)) (ho : ∀ c, c < w * h → o8 c = nI (f c)) (C R : Int32) (a b lw kn nk : Nat → Int32) (mo : Nat → Nat → Int32) (lp : Int32) (a8 b8 t8 l8 m8 : Nat → Int32) :
    ∃ r, f_X7_look_22 (nI w) (nI h) C R a b lw kn nk sb mo (nI P) 0 (nI P + 1) 0 = f_X7_look_73 C R a b lw kn nk sb mo r ∧ f_X8_look_12 (nI P) lp sv a8 b8 t8 l8 m8 o8 (-9) 100 0 = f_X8_look_96 (nI P) lp a8 b8 t8 l8 m8 o8 r := by
  obtain ⟨u, v, hQ, e1, e2⟩ := vm_two (f := f_X7_look_22s (nI w) (nI h) C R a b lw kn nk sb mo (nI P)) (g := f_X8_look_12s (nI P) lp sv a8 b8 t8 l8 m8 o8) (a := (0, nI P + 1, 0)) (b := (-9, 100, 0)) (fun i s t => s.2.2 = nI i ∧ t.2.2 = nI i ∧ ((i = 0 ∧ s.2.1 = nI (P + 1) ∧ t.2.1 = nI 100) ∨ (0 < i ∧ t.1 = s.1 ∧ ∃ z, z ≤ P ∧ s.2.1 = nI z ∧ t.2.1 = nI z))) (fun u v => u = v) (w * h) (by omega) ⟨rfl, rfl, Or.inl ⟨rfl, nI_1 P, rfl⟩⟩ (by
    intro i hi s t hR
    obtain ⟨x1, x2, x3⟩ := s
    obtain ⟨y1, y2, y3⟩ := t
    obtain ⟨e1, e2, e3⟩ := hR
    have e1 : x3 = nI i := e1
    have e2 : y3 = nI i := e2
    subst e1 e2
    have hs : ∀ k, f_X7_look_22s (nI w) (nI h) C R a b lw kn nk sb mo (nI P) (x1, x2, nI i) k = f_X7_look_22b (nI w) (nI h) C R a b lw kn nk sb mo (nI P) x1 x2 (nI i) k := fun k => rfl
    have ht : ∀ k, f_X8_look_12s (nI P) lp sv a8 b8 t8 l8 m8 o8 (y1, y2, nI i) k = f_X8_look_12b (nI P) lp sv a8 b8 t8 l8 m8 o8 y1 y2 (nI i) k := fun k => rfl
    by_cases q : i = w * h
    · right
      subst q
      refine ⟨x1, y1, ?_, fun k => ?_, fun k => ?_⟩
      · rcases e3 with ⟨z, _⟩ | ⟨_, z, _⟩
        · omega
        · exact (show x1 = y1 from (show y1 = x1 from z).symm)
      · rw [hs]
        unfold f_X7_look_22b
        rw [e_cells, ob1_s, if_pos (nI_le (Nat.le_refl _) (by omega))]
      · rw [ht]
        unfold f_X8_look_12b
        rw [e8_cells h0 hh, ob1_s, if_pos (nI_le (Nat.le_refl _) (by omega))]
    · left
      have hi2 : i < w * h := by omega
      have hfi := hf i hi2
      have hg := gt_le hfi
      have hcs : ∀ k, f_X7_look_22s (nI w) (nI h) C R a b lw kn nk sb mo (nI P) (x1, x2, nI i) k = if x2 ≤ nI (gtN P f i) then k (x1, x2, nI (i + 1)) else k (nI i, nI (gtN P f i), nI (i + 1)) := fun k => by
        rw [hs]
        unfold f_X7_look_22b f_X7_look_67
        rw [e_cells, ob1_s, if_neg (nI_ge hi2 (by omega))]
        simp only [inb_nI (show i < 36 by omega) (show 36 < 2 ^ 31 by decide), if_true]
        rw [nI_clamp (by omega), hsb i hi2, gt_cls hfi hP, nI_1]
      have hct : ∀ k, f_X8_look_12s (nI P) lp sv a8 b8 t8 l8 m8 o8 (y1, y2, nI i) k = if y2 ≤ nI (gtN P f i) then k (y1, y2, nI (i + 1)) else k (nI i, nI (gtN P f i), nI (i + 1)) := fun k => by
        rw [ht]
        unfold f_X8_look_12b f_X8_look_63 f_X8_look_76 f_X8_look_89
        rw [e8_cells h0 hh, ob1_s, if_neg (nI_ge hi2 (by omega)), if_neg (show ¬ nI P ≤ 1 from nI_ge (a := 1) (b := P) hP1 (by omega))]
        simp only [inb_nI (show i < 36 by omega) (show 36 < 2 ^ 31 by decide), if_true]
        rw [nI_clamp (by omega), ho i hi2, pk_sub hfi, nI_1]
        by_cases z : f i ≤ P - f i
        · rw [if_pos (nI_le z (by omega)), show gtN P f i = P - f i from if_pos z]
          by_cases y : y2 ≤ nI (P - f i)
          · rw [if_pos y, if_pos y, if_pos y]
          · rw [if_neg y, if_neg y, if_neg y]
        · rw [if_neg (nI_ge (by omega) (by omega)), show gtN P f i = f i from if_neg z]
          by_cases y : y2 ≤ nI (f i)
          · rw [if_pos y, if_pos y, if_pos y]
          · rw [if_neg y, if_neg y, if_neg y]
      rcases e3 with ⟨z, z1, z2⟩ | ⟨z, z1, n, z2, z3, z4⟩
      · have z1 : x2 = nI (P + 1) := z1
        have z2 : y2 = nI 100 := z2
        refine ⟨hi2, (nI i, nI (gtN P f i), nI (i + 1)), (nI i, nI (gtN P f i), nI (i + 1)), ⟨rfl, rfl, Or.inr ⟨by omega, rfl, gtN P f i, hg, rfl, rfl⟩⟩, fun k => ?_, fun k => ?_⟩
        · rw [hcs, z1, if_neg (nI_ge (by omega) (by omega))]
        · rw [hct, z2, if_neg (nI_ge (by omega) (by omega))]
      · have z1 : y1 = x1 := z1
        have z3 : x2 = nI n := z3
        have z4 : y2 = nI n := z4
        by_cases y : nI n ≤ nI (gtN P f i)
        · refine ⟨hi2, (x1, nI n, nI (i + 1)), (x1, nI n, nI (i + 1)), ⟨rfl, rfl, Or.inr ⟨by omega, rfl, n, z2, rfl, rfl⟩⟩, fun k => ?_, fun k => ?_⟩
          · rw [hcs, z3, if_pos y]
          · rw [hct, z4, if_pos y, z1]
        · refine ⟨hi2, (nI i, nI (gtN P f i), nI (i + 1)), (nI i, nI (gtN P f i), nI (i + 1)), ⟨rfl, rfl, Or.inr ⟨by omega, rfl, gtN P f i, hg, rfl, rfl⟩⟩, fun k => ?_, fun k => ?_⟩
          · rw [hcs, z3, if_neg y]
          · rw [hct, z4, if_neg y])
  have hQ : u = v := hQ
  refine ⟨u, ?_, ?_⟩
  · unfold f_X7_look_22
    rw [e1, obx_s]
  · unfold f_X8_look_12
    rw [e2, obx_s, hQ]
theorem e_look {w h : Nat} {nu fi gr sv nk kn cs ws c8 i8 : Nat → Int32} {mo : Nat → Nat → Int32} {C R m m8 : Int32} (hP : PW w h nu fi gr sv) (hcv : CV C R nk kn mo) (hS : SER m cs ws m8 c8 i8) (a b lw sb a8 b8 t8 l8 m9 ofn : Nat → Int32) :
    ∃ r C' R' H V L kn' nk' sb' mo' pe' lp' H8 V8 T8 L8 M8 O8, f_X7_look (nI w) (nI h) nu C R a b lw kn nk m cs ws sb mo = some (r, C', R', H, V, L, kn', nk', sb', mo') ∧ f_X8_look m8 sv c8 i8 a8 b8 t8 l8 m9 ofn = some (r, pe', lp', H8, V8, T8, L8, M8, O8) ∧ CV C' R' nk' kn' mo' := by
  obtain ⟨⟨a1, a2, a3, a4⟩, ⟨b1, b2⟩, b3, ⟨lo, pd, dr, c1, c2, c3, c4, c5, c6, c7, c8⟩, d1, d2, d3⟩ := id hP
  obtain ⟨j, hj, rfl, rfl, hs⟩ := hS
  have h36 := mul36 a2 a4
  have hce : 0 < w * h := by omega
  obtain ⟨C', R', H, V, L, kn', nk', mo', f1, f2⟩ := e_csb (ws := ws) a1 a2 a3 a4 c1 (by omega) (by omega) c7 c8 hj (fun k hk => (hs k hk).1) hcv a b lw sb
  obtain ⟨H8, V8, T8, L8, M8, f3⟩ := e8_finds b1 b2 b3 a1 a2 a3 a4 c1 (by omega) (by omega) c7 c8 hj hs a8 b8 t8 l8 m9 ofn
  obtain ⟨P, hPe⟩ : ∃ P, P = pcN (fqN w h nu cs ws dr j) 19 := ⟨_, rfl⟩
  have hP19 : P ≤ 19 := by rw [hPe]; exact pc_le _ 19
  unfold f_X7_look f_X8_look
  rw [f2, ob10_s, f3, ob8_s, ← hPe]
  by_cases q : 1 < P
  · obtain ⟨r, g1, g2⟩ := e_look22 (f := fun c => ofN (fqN w h nu cs ws dr j) (stM w h nu dr) c 19) (sb := sbN w h nu cs ws dr j 19 (fun c => if c < 36 then (0 : Int32) else sb c)) (o8 := sbN w h nu cs ws dr j 19 (fun c => if c < 36 then (0 : Int32) else ofn c)) h36 hce hP19 q (fun c _ => by rw [hPe]; exact of_le _ _ c 19) b1 b2 (fun c hc => if_pos hc) (fun c hc => if_pos hc) C' R' H V L kn' nk' mo' (lpN (fqN w h nu cs ws dr j) 19) H8 V8 T8 L8 M8
    rw [if_pos (show (1 : Int32) < nI P from nI_lt (a := 1) (b := P) q (by omega)), g1, g2]
    unfold f_X7_look_73 f_X8_look_96
    exact ⟨_, _, _, _, _, _, _, _, _, _, _, _, _, _, _, _, _, _, rfl, rfl, f1⟩
  · rw [if_neg (show ¬ (1 : Int32) < nI P from nI_nlt (a := 1) (b := P) (by omega) (by omega))]
    have g : f_X8_look_12 (nI P) (lpN (fqN w h nu cs ws dr j) 19) sv H8 V8 T8 L8 M8 (sbN w h nu cs ws dr j 19 (fun c => if c < 36 then (0 : Int32) else ofn c)) (-9) 100 0 = f_X8_look_96 (nI P) (lpN (fqN w h nu cs ws dr j) 19) H8 V8 T8 L8 M8 (sbN w h nu cs ws dr j 19 (fun c => if c < 36 then (0 : Int32) else ofn c)) (-9) := by
      unfold f_X8_look_12
      refine (ox_for (r := (-9 : Int32)) (fun _ => ((-9 : Int32), (100 : Int32), (0 : Int32))) 0 rfl (by omega) (fun i hi => absurd hi (by omega)) ?_)
      intro k
      show f_X8_look_12b (nI P) (lpN (fqN w h nu cs ws dr j) 19) sv H8 V8 T8 L8 M8 (sbN w h nu cs ws dr j 19 (fun c => if c < 36 then (0 : Int32) else ofn c)) (-9) 100 0 k = _
      unfold f_X8_look_12b
      rw [e8_cells b1 b2, ob1_s, if_neg (show ¬ nI (w * h) ≤ (0 : Int32) from nI_ge (a := 0) (b := w * h) hce (by omega)), if_pos (show nI P ≤ 1 from nI_le (a := P) (b := 1) (by omega) (by omega))]
    rw [g]
    unfold f_X8_look_96
    exact ⟨_, _, _, _, _, _, _, _, _, _, _, _, _, _, _, _, _, _, rfl, rfl, f1⟩
