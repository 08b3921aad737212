/-! which period, on both sides -/
def stM (w h : Nat) (nu : Nat → Int32) (dr i c : Nat) : Int32 := sL_ (nu 5) (MOT w h nu (2 + i) dr) c
theorem e_which19 {w h dr lo j : Nat} {nu nk kn cs ws : Nat → Int32} {mo : Nat → Nat → Int32} {C R : Int32} (h1 : 2 ≤ w) (h2 : w ≤ 6) (h3 : 2 ≤ h) (h4 : h ≤ 6) (hlo : nu 2 = nI lo) (hlo1 : 0 < lo) (hlo2 : lo < 1000) (hdr : nu 6 = nI dr) (hdr2 : dr < w * h) (hj : j ≤ 6) (hc : ∀ k, k < j → ∃ c, c < 36 ∧ cs k = nI c) (hcv : CV C R nk kn mo) (a b lw : Nat → Int32) (x : Int32) :
    ∃ C' R' H V L kn' nk' mo', CV C' R' nk' kn' mo' ∧ f_X7_which_19 (nI w) (nI h) nu C R a b lw kn nk (nI j) cs ws mo x 0 (-9) 2 = f_X7_which_73 C' R' H V L kn' nk' mo' x (nI (pcN (fqN w h nu cs ws dr j) 19)) (lpN (fqN w h nu cs ws dr j) 19) := by
  have h36 := mul36 h2 h4
  obtain ⟨r, hr, e⟩ := vm_rel (step := f_X7_which_19s (nI w) (nI h) nu (nI j) cs ws x) (s := (C, R, a, b, lw, kn, nk, mo, 0, -9, 2)) (fun i s => CV s.1 s.2.1 s.2.2.2.2.2.2.1 s.2.2.2.2.2.1 s.2.2.2.2.2.2.2.1 ∧ s.2.2.2.2.2.2.2.2.1 = nI (pcN (fqN w h nu cs ws dr j) i) ∧ s.2.2.2.2.2.2.2.2.2.1 = lpN (fqN w h nu cs ws dr j) i ∧ s.2.2.2.2.2.2.2.2.2.2 = nI (2 + i)) (fun s => CV s.1 s.2.1 s.2.2.2.2.2.2.1 s.2.2.2.2.2.1 s.2.2.2.2.2.2.2.1 ∧ s.2.2.2.2.2.2.2.2.1 = nI (pcN (fqN w h nu cs ws dr j) 19) ∧ s.2.2.2.2.2.2.2.2.2 = lpN (fqN w h nu cs ws dr j) 19) 19 (by omega) ⟨hcv, rfl, rfl, rfl⟩ (by
    intro i hi s hR
    obtain ⟨y1, y2, y3, y4, y5, y6, y7, y8, y9, y10, y11⟩ := s
    obtain ⟨e1, e2, e3, e4⟩ := hR
    have e1 : CV y1 y2 y7 y6 y8 := e1
    have e2 : y9 = nI (pcN (fqN w h nu cs ws dr j) i) := e2
    have e3 : y10 = lpN (fqN w h nu cs ws dr j) i := e3
    have e4 : y11 = nI (2 + i) := e4
    have hs : ∀ k, f_X7_which_19s (nI w) (nI h) nu (nI j) cs ws x (y1, y2, y3, y4, y5, y6, y7, y8, y9, y10, y11) k = f_X7_which_19b (nI w) (nI h) nu (nI j) cs ws x y1 y2 y3 y4 y5 y6 y7 y8 y9 y10 y11 k := fun k => rfl
    by_cases q : i = 19
    · right
      subst q
      refine ⟨(y1, y2, y3, y4, y5, y6, y7, y8, y9, y10), ⟨e1, e2, e3⟩, fun k => ?_⟩
      rw [hs]
      unfold f_X7_which_19b
      rw [if_pos (by rw [e4]; decide)]
    · left
      obtain ⟨C', R', H, V, L, kn', nk', mo', f1, f2, f3⟩ := e_by h1 h2 h3 h4 (show 0 < 2 + i by omega) (show 2 + i < 21 by omega) hlo hlo1 hlo2 hdr hdr2 e1 y3 y4 y5
      have hl : ftN (w * h) (nu 5) (mo' (2 + i)) cs ws j = fqN w h nu cs ws dr j i := ft_congr h36 f3 (fun k hk => ⟨hc k hk, rfl, rfl⟩)
      have hp : pcN (fqN w h nu cs ws dr j) (i + 1) = pcN (fqN w h nu cs ws dr j) i + (if fqN w h nu cs ws dr j i = 0 then 0 else 1) := rfl
      have hq : lpN (fqN w h nu cs ws dr j) (i + 1) = if fqN w h nu cs ws dr j i = 0 then lpN (fqN w h nu cs ws dr j) i else if lpN (fqN w h nu cs ws dr j) i = -9 then nI (2 + i) else lpN (fqN w h nu cs ws dr j) i := rfl
      have hb := pc_le (fqN w h nu cs ws dr j) i
      have hx : ∀ k, f_X7_which_19s (nI w) (nI h) nu (nI j) cs ws x (y1, y2, y3, y4, y5, y6, y7, y8, y9, y10, y11) k = k (C', R', H, V, L, kn', nk', mo', nI (pcN (fqN w h nu cs ws dr j) (i + 1)), lpN (fqN w h nu cs ws dr j) (i + 1), nI (2 + i + 1)) := fun k => by
        rw [hs]
        unfold f_X7_which_19b f_X7_which_63 f_X7_which_67
        rw [e4, e3, e2, if_neg (show ¬ (20 : Int32) < nI (2 + i) from nI_nlt (a := 20) (b := 2 + i) (by omega) (by omega)), f1, ob9_s, if_pos (inb_nI (by omega) (by decide)), nI_clamp (by omega), e_fits h36 hj hc, ob1_s, hl, nI_1, nI_1, hp, hq]
        by_cases z : fqN w h nu cs ws dr j i = 0
        · rw [if_pos z, if_pos z, if_pos z, Nat.add_zero (pcN (fqN w h nu cs ws dr j) i)]
        · rw [if_neg z, if_neg z, if_neg z]
          rcases lp_pc (fqN w h nu cs ws dr j) i (by omega) with ⟨u, v⟩ | ⟨u, v⟩
          · rw [if_pos (show nI (pcN (fqN w h nu cs ws dr j) i) = 0 by rw [u]; rfl), if_pos v]
          · rw [if_neg (nI_ne0 u (by omega)), if_neg v]
      exact ⟨by omega, _, ⟨f2, rfl, rfl, rfl⟩, hx⟩)
  obtain ⟨y1, y2, y3, y4, y5, y6, y7, y8, y9, y10⟩ := r
  obtain ⟨e1, e2, e3⟩ := hr
  have e2 : y9 = nI (pcN (fqN w h nu cs ws dr j) 19) := e2
  have e3 : y10 = lpN (fqN w h nu cs ws dr j) 19 := e3
  refine ⟨y1, y2, y3, y4, y5, y6, y7, y8, e1, ?_⟩
  unfold f_X7_which_19
  rw [e, obx_s, ← e2, ← e3]
  exact Eq.refl _
def sbN (w h : Nat) (nu cs ws : Nat → Int32) (dr j i : Nat) (o : Nat → Int32) : Nat → Int32 := fun c => if c < w * h then nI (ofN (fqN w h nu cs ws dr j) (stM w h nu dr) c i) else o c
theorem sb0 (w h : Nat) (nu cs ws : Nat → Int32) (dr j : Nat) (o : Nat → Int32) (h36 : w * h ≤ 36) : (fun c => if c < 36 then (0 : Int32) else o c) = sbN w h nu cs ws dr j 0 (fun c => if c < 36 then (0 : Int32) else o c) := by
  funext c
  unfold sbN
  by_cases q : c < w * h
  · rw [if_pos q, if_pos (by omega)]; rfl
  · rw [if_neg q]
theorem sb_same {w h dr j i : Nat} {nu cs ws o : Nat → Int32} (hz : fqN w h nu cs ws dr j i = 0) : sbN w h nu cs ws dr j (i + 1) o = sbN w h nu cs ws dr j i o := by
  funext c
  unfold sbN
  rw [show ofN (fqN w h nu cs ws dr j) (stM w h nu dr) c (i + 1) = ofN (fqN w h nu cs ws dr j) (stM w h nu dr) c i + (if fqN w h nu cs ws dr j i = 0 then 0 else if stM w h nu dr i c = 0 then 0 else 1) from rfl, if_pos hz, Nat.add_zero]
theorem sb_more {w h dr j i m : Nat} {nu cs ws o : Nat → Int32} (hz : ¬ fqN w h nu cs ws dr j i = 0) (hm : m < w * h) :
    upd (fun c => if c < m then sbN w h nu cs ws dr j (i + 1) o c else sbN w h nu cs ws dr j i o c) m (sbN w h nu cs ws dr j i o m + (if stM w h nu dr i m = 0 then 0 else 1)) = fun c => if c < m + 1 then sbN w h nu cs ws dr j (i + 1) o c else sbN w h nu cs ws dr j i o c := by
  refine upd_lt ?_
  unfold sbN
  rw [if_pos hm, if_pos hm, show ofN (fqN w h nu cs ws dr j) (stM w h nu dr) m (i + 1) = ofN (fqN w h nu cs ws dr j) (stM w h nu dr) m i + (if fqN w h nu cs ws dr j i = 0 then 0 else if stM w h nu dr i m = 0 then 0 else 1) from rfl, if_neg hz]
  by_cases y : stM w h nu dr i m = 0
  · rw [if_pos y, if_pos y]; exact nI_add _ 0
  · rw [if_neg y, if_neg y, nI_1]
theorem sb_end {w h dr j i : Nat} {nu cs ws o : Nat → Int32} : (fun c => if c < w * h then sbN w h nu cs ws dr j (i + 1) o c else sbN w h nu cs ws dr j i o c) = sbN w h nu cs ws dr j (i + 1) o := by
  funext c
  by_cases q : c < w * h
  · rw [if_pos q]
  · rw [if_neg q]
    unfold sbN
    rw [if_neg q, if_neg q]
theorem e_csb52 {w h dr j i p : Nat} (hp : p < 21) {nu cs ws o : Nat → Int32} {mo : Nat → Nat → Int32} (h36 : w * h ≤ 36) (hz : ¬ fqN w h nu cs ws dr j i = 0) (hm : ∀ c, c < w * h → mo p c = MOT w h nu (2 + i) dr c) (C R : Int32) (a b lw kn nk : Nat → Int32) (jj x1 x2 : Int32)
    (k : (Int32 × Int32 × (Nat → Int32) × (Nat → Int32) × (Nat → Int32) × (Nat → Int32) × (Nat → Int32) × (Nat → Int32) × (Nat → Nat → Int32) × Int32 × Int32) → Option (Int32 × Int32 × (Nat → Int32) × (Nat → Int32) × (Nat → Int32) × (Nat → Int32) × (Nat → Int32) × (Nat → Int32) × (Nat → Nat → Int32) × Int32)) :
    f_X7_countStillBy_52 (nI w) (nI h) nu C R a b lw kn nk jj cs ws (sbN w h nu cs ws dr j i o) mo x1 x2 (nI p) 0 k = f_X7_countStillBy_98 (nI w) (nI h) nu C R a b lw kn nk jj cs ws (sbN w h nu cs ws dr j (i + 1) o) mo x1 x2 k := by
  unfold f_X7_countStillBy_52
  refine (ox_for (r := sbN w h nu cs ws dr j (i + 1) o) (fun m => ((fun c => if c < m then sbN w h nu cs ws dr j (i + 1) o c else sbN w h nu cs ws dr j i o c), nI m)) (w * h) (by rw [← lt0]; rfl) (by omega) ?_ ?_)
  · intro m hm2 k
    show f_X7_countStillBy_52b (nI w) (nI h) nu C R a b lw kn nk jj cs ws mo x1 x2 (nI p) _ (nI m) k = _
    unfold f_X7_countStillBy_52b f_X7_countStillBy_90
    rw [e_cells, ob1_s, if_neg (nI_ge hm2 (by omega)), nI_clamp (show p < 2 ^ 31 by omega), e_isStill nu (mo p) (show m < 36 by omega), ob1_s]
    simp only [inb_nI (show m < 36 by omega) (show 36 < 2 ^ 31 by decide), if_true]
    rw [nI_clamp (show m < 2 ^ 31 by omega), nI_1, if_neg (show ¬ m < m by omega), stB_L, sL_eq (hm m hm2), ← sb_more hz hm2]
    show (if stM w h nu dr i m = 0 then _ else _) = _
    by_cases y : stM w h nu dr i m = 0
    · rw [if_pos y, if_pos y]
    · rw [if_neg y, if_neg y]
  · intro k
    show f_X7_countStillBy_52b (nI w) (nI h) nu C R a b lw kn nk jj cs ws mo x1 x2 (nI p) _ (nI (w * h)) k = _
    unfold f_X7_countStillBy_52b
    rw [e_cells, ob1_s, if_pos (nI_le (Nat.le_refl _) (by omega)), sb_end]
theorem e8_finds159 {w h dr j i : Nat} {nu sv cs ws c8 i8 o mo : Nat → Int32} (h0 : sv 0 = nI w) (hh : sv 1 = nI h) (h36 : w * h ≤ 36) (hce : 0 < w * h) (h7 : sv 7 = nu 5) (hm : ∀ c, c < w * h → mo c = MOT w h nu (2 + i) dr c) (jj pe lp : Int32) (a b t l : Nat → Int32) (x1 : Int32)
    (k : (Int32 × Int32 × (Nat → Int32) × (Nat → Int32) × (Nat → Int32) × (Nat → Int32) × (Nat → Int32) × (Nat → Int32) × Int32) → Option (Int32 × Int32 × (Nat → Int32) × (Nat → Int32) × (Nat → Int32) × (Nat → Int32) × (Nat → Int32) × (Nat → Int32))) :
    f_X8_finds_159 jj pe lp sv c8 i8 a b t l mo (sbN w h nu cs ws dr j i o) x1 (fqN w h nu cs ws dr j i) 0 k = f_X8_finds_199 jj pe lp sv c8 i8 a b t l mo (sbN w h nu cs ws dr j (i + 1) o) x1 k := by
  unfold f_X8_finds_159
  by_cases hz : fqN w h nu cs ws dr j i = 0
  · rw [sb_same hz]
    refine (ox_for (r := sbN w h nu cs ws dr j i o) (fun _ => (sbN w h nu cs ws dr j i o, 0)) 0 rfl (by omega) (fun i hi => absurd hi (by omega)) ?_)
    intro k
    show f_X8_finds_159b jj pe lp sv c8 i8 a b t l mo x1 (fqN w h nu cs ws dr j i) (sbN w h nu cs ws dr j i o) 0 k = _
    unfold f_X8_finds_159b
    rw [e8_cells h0 hh, ob1_s, if_neg (show ¬ nI (w * h) ≤ (0 : Int32) from nI_ge (a := 0) (b := w * h) hce (by omega)), if_pos hz]
  · refine (ox_for (r := sbN w h nu cs ws dr j (i + 1) o) (fun m => ((fun c => if c < m then sbN w h nu cs ws dr j (i + 1) o c else sbN w h nu cs ws dr j i o c), nI m)) (w * h) (by rw [← lt0]; rfl) (by omega) ?_ ?_)
    · intro m hm2 k
      show f_X8_finds_159b jj pe lp sv c8 i8 a b t l mo x1 (fqN w h nu cs ws dr j i) _ (nI m) k = _
      unfold f_X8_finds_159b f_X8_finds_191
      rw [e8_cells h0 hh, ob1_s, if_neg (nI_ge hm2 (by omega)), if_neg hz, e8_isStill sv mo (show m < 36 by omega), ob1_s]
      simp only [inb_nI (show m < 36 by omega) (show 36 < 2 ^ 31 by decide), if_true]
      rw [nI_clamp (show m < 2 ^ 31 by omega), nI_1, if_neg (show ¬ m < m by omega), h7, sL_eq (hm m hm2), ← sb_more hz hm2]
      show (if stM w h nu dr i m = 0 then _ else _) = _
      by_cases y : stM w h nu dr i m = 0
      · rw [if_pos y, if_pos y]
      · rw [if_neg y, if_neg y]
    · intro k
      show f_X8_finds_159b jj pe lp sv c8 i8 a b t l mo x1 (fqN w h nu cs ws dr j i) _ (nI (w * h)) k = _
      unfold f_X8_finds_159b
      rw [e8_cells h0 hh, ob1_s, if_pos (nI_le (Nat.le_refl _) (by omega)), sb_end]
theorem e8_finds {w h dr lo j : Nat} {nu sv cs ws c8 i8 : Nat → Int32} (h0 : sv 0 = nI w) (hh : sv 1 = nI h) (hn : ∀ k, k < 7 → sv (2 + k) = nu k) (h1 : 2 ≤ w) (h2 : w ≤ 6) (h3 : 2 ≤ h) (h4 : h ≤ 6) (hlo : nu 2 = nI lo) (hlo1 : 0 < lo) (hlo2 : lo < 1000) (hdr : nu 6 = nI dr) (hdr2 : dr < w * h) (hj : j ≤ 6) (hc : ∀ k, k < j → (∃ c, c < 36 ∧ cs k = nI c) ∧ c8 k = cs k ∧ i8 k = ws k) (a b t l m ofn : Nat → Int32) :
    ∃ H V T L M, f_X8_finds (nI j) sv c8 i8 a b t l m ofn = some (nI (pcN (fqN w h nu cs ws dr j) 19), lpN (fqN w h nu cs ws dr j) 19, H, V, T, L, M, sbN w h nu cs ws dr j 19 (fun c => if c < 36 then (0 : Int32) else ofn c)) := by
  have h36 := mul36 h2 h4
  have hce : 0 < w * h := by omega
  have h7 : sv 7 = nu 5 := hn 5 (by omega)
  have hc8 : ∀ k, k < j → ∃ c, c < 36 ∧ c8 k = nI c := fun k hk => by
    obtain ⟨⟨c, c1, c2⟩, c3, _⟩ := hc k hk
    exact ⟨c, c1, by rw [c3, c2]⟩
  obtain ⟨o, ho⟩ : ∃ o : Nat → Int32, o = fun c => if c < 36 then (0 : Int32) else ofn c := ⟨_, rfl⟩
  obtain ⟨r, hr, e⟩ := vm_rel (step := f_X8_finds_34s (nI j) sv c8 i8) (s := (0, -9, a, b, t, l, m, o, 2)) (fun i s => s.1 = nI (pcN (fqN w h nu cs ws dr j) i) ∧ s.2.1 = lpN (fqN w h nu cs ws dr j) i ∧ s.2.2.2.2.2.2.2.1 = sbN w h nu cs ws dr j i o ∧ s.2.2.2.2.2.2.2.2 = nI (2 + i)) (fun s => s.1 = nI (pcN (fqN w h nu cs ws dr j) 19) ∧ s.2.1 = lpN (fqN w h nu cs ws dr j) 19 ∧ s.2.2.2.2.2.2.2 = sbN w h nu cs ws dr j 19 o) 19 (by omega) ⟨rfl, rfl, by rw [ho]; exact sb0 w h nu cs ws dr j ofn h36, rfl⟩ (by
    intro i hi s hR
    obtain ⟨y1, y2, y3, y4, y5, y6, y7, y8, y9⟩ := s
    obtain ⟨e1, e2, e3, e4⟩ := hR
    have e1 : y1 = nI (pcN (fqN w h nu cs ws dr j) i) := e1
    have e2 : y2 = lpN (fqN w h nu cs ws dr j) i := e2
    have e3 : y8 = sbN w h nu cs ws dr j i o := e3
    have e4 : y9 = nI (2 + i) := e4
    have hs : ∀ k, f_X8_finds_34s (nI j) sv c8 i8 (y1, y2, y3, y4, y5, y6, y7, y8, y9) k = f_X8_finds_34b (nI j) sv c8 i8 y1 y2 y3 y4 y5 y6 y7 y8 y9 k := fun k => rfl
    by_cases q : i = 19
    · right
      subst q
      refine ⟨(y1, y2, y3, y4, y5, y6, y7, y8), ⟨e1, e2, e3⟩, fun k => ?_⟩
      rw [hs]
      unfold f_X8_finds_34b
      rw [if_pos (by rw [e4]; decide)]
    · left
      obtain ⟨H, V, T, L, M, f1, f3⟩ := e8_runs h0 hh hn h1 h2 h3 h4 (show 0 < 2 + i by omega) (show 2 + i < 100 by omega) hlo hlo1 hlo2 hdr hdr2 y3 y4 y5 y6 y7
      have hl : ftN (w * h) (sv 7) M c8 i8 j = fqN w h nu cs ws dr j i := by
        rw [h7]
        exact (ft_congr h36 (fun c hc => (f3 c hc).symm) hc).symm
      have hp : pcN (fqN w h nu cs ws dr j) (i + 1) = pcN (fqN w h nu cs ws dr j) i + (if fqN w h nu cs ws dr j i = 0 then 0 else 1) := rfl
      have hq : lpN (fqN w h nu cs ws dr j) (i + 1) = if fqN w h nu cs ws dr j i = 0 then lpN (fqN w h nu cs ws dr j) i else if lpN (fqN w h nu cs ws dr j) i = -9 then nI (2 + i) else lpN (fqN w h nu cs ws dr j) i := rfl
      have hx : ∀ k, f_X8_finds_34s (nI j) sv c8 i8 (y1, y2, y3, y4, y5, y6, y7, y8, y9) k = k (nI (pcN (fqN w h nu cs ws dr j) (i + 1)), lpN (fqN w h nu cs ws dr j) (i + 1), H, V, T, L, M, sbN w h nu cs ws dr j (i + 1) o, nI (2 + i + 1)) := fun k => by
        rw [hs]
        unfold f_X8_finds_34b
        rw [e4, if_neg (show ¬ (21 : Int32) ≤ nI (2 + i) from nI_ge (a := 2 + i) (b := 21) (by omega) (by omega)), f1, ob5_s, e8_finds49 h0 hh h36 hj hc8, hl, e1, e2, e3]
        unfold f_X8_finds_114 f_X8_finds_128 f_X8_finds_150 f_X8_finds_154
        rw [hp, hq]
        by_cases z : fqN w h nu cs ws dr j i = 0
        · rw [if_pos z, if_pos z, if_pos z, if_pos z, e8_finds159 h0 hh h36 hce h7 f3]
          unfold f_X8_finds_199
          rw [nI_1, show nI (pcN (fqN w h nu cs ws dr j) i) + 0 = nI (pcN (fqN w h nu cs ws dr j) i + 0) from nI_add _ 0]
        · rw [if_neg z, if_neg z, if_neg z, if_neg z]
          by_cases v : lpN (fqN w h nu cs ws dr j) i = -9
          · rw [if_pos v, if_pos v, e8_finds159 h0 hh h36 hce h7 f3]
            unfold f_X8_finds_199
            rw [nI_1, nI_1]
          · rw [if_neg v, if_neg v, e8_finds159 h0 hh h36 hce h7 f3]
            unfold f_X8_finds_199
            rw [nI_1, nI_1]
      exact ⟨by omega, _, ⟨rfl, rfl, rfl, rfl⟩, hx⟩)
  obtain ⟨y1, y2, y3, y4, y5, y6, y7, y8⟩ := r
  obtain ⟨e1, e2, e3⟩ := hr
  have e1 : y1 = nI (pcN (fqN w h nu cs ws dr j) 19) := e1
  have e2 : y2 = lpN (fqN w h nu cs ws dr j) 19 := e2
  have e3 : y8 = sbN w h nu cs ws dr j 19 o := e3
  refine ⟨y3, y4, y5, y6, y7, ?_⟩
  unfold f_X8_finds f_X8_finds_13
  refine (ox_for (r := o) (fun i => ((fun c => if c < i then (0 : Int32) else ofn c), nI i)) 36 (by rw [← lt0]; rfl) (by omega) ?_ ?_).trans ?_
  · intro i hi k
    show f_X8_finds_13b (nI j) 0 (-9) sv c8 i8 a b t l m _ (nI i) k = _
    unfold f_X8_finds_13b
    rw [if_neg (show ¬ (36 : Int32) ≤ nI i from nI_ge (a := i) (b := 36) hi (by omega)), if_pos (inb_nI hi (by decide)), nI_clamp (by omega), nI_1, upd_lt (g := fun _ => 0) rfl]
  · intro k
    show f_X8_finds_13b (nI j) 0 (-9) sv c8 i8 a b t l m _ (nI 36) k = _
    unfold f_X8_finds_13b
    rw [if_pos (show (36 : Int32) ≤ nI 36 by decide), ho]
  · show f_X8_finds_32 (nI j) 0 (-9) sv c8 i8 a b t l m o = _
    unfold f_X8_finds_32 f_X8_finds_34
    rw [e, obx_s, ← ho, ← e3, ← e2, ← e1]
    exact Eq.refl _
theorem e_which {w h : Nat} {nu fi gr sv nk kn cs ws c8 i8 : Nat → Int32} {mo : Nat → Nat → Int32} {C R m m8 : Int32} (hP : PW w h nu fi gr sv) (hcv : CV C R nk kn mo) (hS : SER m cs ws m8 c8 i8) (a b lw : Nat → Int32) (pe lp : Int32) (a8 b8 t8 l8 m9 ofn : Nat → Int32) (x : Int32) :
    ∃ r C' R' H V L kn' nk' mo' pe' lp' H8 V8 T8 L8 M8 O8, f_X7_which (nI w) (nI h) nu C R a b lw kn nk m cs ws mo x = some (r, C', R', H, V, L, kn', nk', mo') ∧ f_X8_which m8 pe lp sv c8 i8 a8 b8 t8 l8 m9 ofn x = some (r, pe', lp', H8, V8, T8, L8, M8, O8) ∧ CV C' R' nk' kn' mo' := by
  obtain ⟨⟨a1, a2, a3, a4⟩, ⟨b1, b2⟩, b3, ⟨lo, pd, dr, c1, c2, c3, c4, c5, c6, c7, c8⟩, d1, d2, d3⟩ := id hP
  obtain ⟨j, hj, rfl, rfl, hs⟩ := hS
  obtain ⟨C', R', H, V, L, kn', nk', mo', f1, f2⟩ := e_which19 (ws := ws) a1 a2 a3 a4 c1 (by omega) (by omega) c7 c8 hj (fun k hk => (hs k hk).1) hcv a b lw x
  obtain ⟨H8, V8, T8, L8, M8, f3⟩ := e8_finds b1 b2 b3 a1 a2 a3 a4 c1 (by omega) (by omega) c7 c8 hj hs a8 b8 t8 l8 m9 ofn
  unfold f_X7_which f_X8_which f_X7_which_9
  rw [show (0 : Int64) = (0 : Int32).toInt64 by decide, show (1 : Int64) = (1 : Int32).toInt64 by decide, e8_inI, ob1_s]
  by_cases hx : 0 ≤ x ∧ x ≤ 1
  · rw [if_pos hx, if_neg (show ¬ (1 : Int32) = 0 by decide), if_neg (i_nlt hx.1), if_pos hx.2, f2, f3, ob8_s]
    unfold f_X7_which_73 f_X8_which_31 f_X7_which_82
    by_cases z : x = 0
    · rw [if_pos z, if_pos z]
      exact ⟨_, _, _, _, _, _, _, _, _, _, _, _, _, _, _, _, _, rfl, rfl, f1⟩
    · rw [if_neg z, if_neg z]
      exact ⟨_, _, _, _, _, _, _, _, _, _, _, _, _, _, _, _, _, rfl, rfl, f1⟩
  · rw [if_neg hx, if_pos rfl]
    by_cases z : x < 0
    · rw [if_pos z]
      exact ⟨_, _, _, _, _, _, _, _, _, _, _, _, _, _, _, _, _, rfl, rfl, hcv⟩
    · rw [if_neg z, if_neg (fun y => hx ⟨i_le_of z, y⟩)]
      exact ⟨_, _, _, _, _, _, _, _, _, _, _, _, _, _, _, _, _, rfl, rfl, hcv⟩
