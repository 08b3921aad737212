theorem le_lt_if {a b : Int32} {α : Type} (x y : α) : (if a ≤ b then x else y) = (if b < a then y else x) := by
  by_cases e : a ≤ b
  · have e' := Int32.le_iff_toInt_le.mp e
    rw [if_pos e, if_neg (fun q => by have := Int32.lt_iff_toInt_lt.mp q; omega)]
  · have e' : ¬ a.toInt ≤ b.toInt := fun q => e (Int32.le_iff_toInt_le.mpr q)
    rw [if_neg e, if_pos (Int32.lt_iff_toInt_lt.mpr (by omega))]
theorem e8_r54 {sv : Nat → Int32} {w h t : Nat} (h0 : sv 0 = nI w) (hh : sv 1 = nI h) (hce : 0 < w * h) (h36 : w * h ≤ 36) (ht : t < 1000) (nh nv tp lw m : Nat → Int32) (p : Int32) (k : ((Nat → Int32) × (Nat → Int32) × (Nat → Int32) × (Nat → Int32) × Int32) → Option ((Nat → Int32) × (Nat → Int32) × (Nat → Int32) × (Nat → Int32))) :
    f_X8_runs_54 sv nh nv tp lw m p (nI t) 0 k = k (nh, nv, (if t < 30 then tp else hiN (w * h) nh tp), (if t < 30 then lw else loN (w * h) nh lw), nI (t + 1)) := by
  unfold f_X8_runs_54
  by_cases q : t < 30
  · rw [if_pos q, if_pos q]
    refine (ox_for (r := (tp, lw)) (fun _ => (tp, lw, 0)) 0 rfl (by omega) (fun i hi => absurd hi (by omega)) ?_).trans ?_
    · intro k
      show f_X8_runs_54b sv nh nv m p (nI t) tp lw 0 k = _
      unfold f_X8_runs_54b
      simp only [e8_cells h0 hh, ob1_s]
      rw [if_neg (show ¬ nI (w * h) ≤ (0 : Int32) from nI_ge (a := 0) (b := w * h) hce (by omega)), if_pos (show nI t < (30 : Int32) from nI_lt (a := t) (b := 30) q (by omega))]
    · show f_X8_runs_146 sv nh nv tp lw m p (nI t) k = _
      unfold f_X8_runs_146
      rw [nI_1]
  · rw [if_neg q, if_neg q]
    refine (ox_for (r := (hiN (w * h) nh tp, loN (w * h) nh lw)) (fun i => ((fun c => if c < i then (if tp c < nh c then nh c else tp c) else tp c), (fun c => if c < i then (if nh c < lw c then nh c else lw c) else lw c), nI i)) (w * h) (by rw [← lt0, ← lt0]; rfl) (by omega) ?_ ?_).trans ?_
    · intro i hi k
      show f_X8_runs_54b sv nh nv m p (nI t) _ _ (nI i) k = _
      unfold f_X8_runs_54b f_X8_runs_103 f_X8_runs_139
      simp only [e8_cells h0 hh, ob1_s, inb_nI (show i < 36 by omega) (show 36 < 2 ^ 31 by decide), if_true]
      rw [if_neg (nI_ge hi (by omega)), if_neg (show ¬ nI t < (30 : Int32) from nI_nlt (a := t) (b := 30) (by omega) (by omega)), nI_clamp (by omega), nI_1]
      simp only [if_neg (show ¬ i < i by omega)]
      have u1 : ∀ z : Int32, z = (if tp i < nh i then nh i else tp i) → upd (fun c => if c < i then (if tp c < nh c then nh c else tp c) else tp c) i z = fun c => if c < i + 1 then (if tp c < nh c then nh c else tp c) else tp c := fun z hz => upd_lt (g := fun c => if tp c < nh c then nh c else tp c) hz
      have u2 : ∀ z : Int32, z = (if nh i < lw i then nh i else lw i) → upd (fun c => if c < i then (if nh c < lw c then nh c else lw c) else lw c) i z = fun c => if c < i + 1 then (if nh c < lw c then nh c else lw c) else lw c := fun z hz => upd_lt (g := fun c => if nh c < lw c then nh c else lw c) hz
      by_cases a : nh i ≤ tp i
      · rw [if_pos a, u1 (tp i) (by rw [← le_lt_if, if_pos a])]
        by_cases b : lw i ≤ nh i
        · rw [if_pos b, u2 (lw i) (by rw [← le_lt_if, if_pos b])]
        · rw [if_neg b, u2 (nh i) (by rw [← le_lt_if, if_neg b])]
      · rw [if_neg a, u1 (nh i) (by rw [← le_lt_if, if_neg a])]
        by_cases b : lw i ≤ nh i
        · rw [if_pos b, u2 (lw i) (by rw [← le_lt_if, if_pos b])]
        · rw [if_neg b, u2 (nh i) (by rw [← le_lt_if, if_neg b])]
    · intro k
      show f_X8_runs_54b sv nh nv m p (nI t) _ _ (nI (w * h)) k = _
      unfold f_X8_runs_54b
      simp only [e8_cells h0 hh, ob1_s]
      rw [if_pos (nI_le (Nat.le_refl _) (by omega))]
      rfl
    · show f_X8_runs_146 sv nh nv (hiN (w * h) nh tp) (loN (w * h) nh lw) m p (nI t) k = _
      unfold f_X8_runs_146
      rw [nI_1]
theorem e8_r152 {sv : Nat → Int32} {w h : Nat} (h0 : sv 0 = nI w) (hh : sv 1 = nI h) (h36 : w * h ≤ 36) (a b tp lw m : Nat → Int32) : f_X8_runs_152 sv a b tp lw m = some (a, b, tp, lw, fun c => if c < w * h then tp c - lw c else m c) := by
  unfold f_X8_runs_152 f_X8_runs_154
  refine (ox_for (r := fun c => if c < w * h then tp c - lw c else m c) (fun i => ((fun c => if c < i then tp c - lw c else m c), nI i)) (w * h) (by rw [← lt0]; rfl) (by omega) ?_ ?_).trans ?_
  · intro i hi k
    show f_X8_runs_154b sv a b tp lw _ (nI i) k = _
    unfold f_X8_runs_154b
    simp only [e8_cells h0 hh, ob1_s, inb_nI (show i < 36 by omega) (show 36 < 2 ^ 31 by decide), if_true]
    rw [if_neg (nI_ge hi (by omega)), nI_clamp (by omega), nI_1, upd_lt (g := fun c => tp c - lw c) rfl]
  · intro k
    show f_X8_runs_154b sv a b tp lw _ (nI (w * h)) k = _
    unfold f_X8_runs_154b
    simp only [e8_cells h0 hh, ob1_s]
    rw [if_pos (nI_le (Nat.le_refl _) (by omega))]
  · rfl
theorem e8_r36 {sv nu : Nat → Int32} {w h p dr lo : Nat} (h0 : sv 0 = nI w) (hh : sv 1 = nI h) (hn : ∀ k, k < 7 → sv (2 + k) = nu k) (h1 : 2 ≤ w) (h2 : w ≤ 6) (h3 : 2 ≤ h) (h4 : h ≤ 6) (hp : 0 < p) (hp2 : p < 100) (hlo : nu 2 = nI lo) (hlo1 : 0 < lo) (hlo2 : lo < 1000) (hdr : nu 6 = nI dr) (hdr2 : dr < w * h) (s : F4) (m : Nat → Int32) (e : F4) (he : e = itN (QS w h nu p dr) s (30 + p)) :
    f_X8_runs_36 sv s.1 s.2.1 s.2.2.2 s.2.2.1 m (nI p) = some (e.1, e.2.1, e.2.2.2, e.2.2.1, fun c => if c < w * h then e.2.2.2 c - e.2.2.1 c else m c) := by
  have h36 := mul36 h2 h4
  have hce : 0 < w * h := Nat.mul_pos (by omega) (by omega)
  unfold f_X8_runs_36 f_X8_runs_38
  refine (ox_for (r := (e.1, e.2.1, e.2.2.2, e.2.2.1)) (fun t => ((itN (QS w h nu p dr) s t).1, (itN (QS w h nu p dr) s t).2.1, (itN (QS w h nu p dr) s t).2.2.2, (itN (QS w h nu p dr) s t).2.2.1, nI t)) (30 + p) rfl (by omega) ?_ ?_).trans ?_
  · intro t ht k
    show f_X8_runs_38b sv m (nI p) (itN (QS w h nu p dr) s t).1 (itN (QS w h nu p dr) s t).2.1 (itN (QS w h nu p dr) s t).2.2.2 (itN (QS w h nu p dr) s t).2.2.1 (nI t) k = _
    unfold f_X8_runs_38b
    rw [show (30 : Int32) + nI p = nI (30 + p) from nI_add 30 p, if_neg (nI_ge ht (by omega)), e8_step h0 hh hn h1 h2 h3 h4 hp (by omega) hlo hlo1 hlo2 hdr (by omega)]
    simp only [ob2_s]
    rw [e8_r54 h0 hh hce h36 (by omega)]
    rfl
  · intro k
    show f_X8_runs_38b sv m (nI p) _ _ _ _ (nI (30 + p)) k = _
    unfold f_X8_runs_38b
    rw [show (30 : Int32) + nI p = nI (30 + p) from nI_add 30 p, if_pos (nI_le (Nat.le_refl _) (by omega)), he]
  · exact e8_r152 h0 hh h36 _ _ _ _ _
theorem e8_r6 (sv a b tp lw m : Nat → Int32) (p : Int32) : f_X8_runs_6 sv a b tp lw m p 0 = f_X8_runs_36 sv a b (fun c => if c < 36 then (-10000) else tp c) (fun c => if c < 36 then 10000 else lw c) m p := by
  unfold f_X8_runs_6
  refine (ox_for (r := ((fun c => if c < 36 then (-10000) else tp c), (fun c => if c < 36 then 10000 else lw c))) (fun i => ((fun c => if c < i then (-10000) else tp c), (fun c => if c < i then 10000 else lw c), nI i)) 36 (by rw [← lt0, ← lt0]; rfl) (by omega) ?_ ?_)
  · intro i hi k
    show f_X8_runs_6b sv a b m p _ _ (nI i) k = _
    unfold f_X8_runs_6b
    simp only [inb_nI hi (show 36 < 2 ^ 31 by decide), if_true]
    rw [if_neg (show ¬ (36 : Int32) ≤ nI i from nI_ge (a := i) (b := 36) hi (by omega)), nI_clamp (by omega), nI_1, upd_lt (g := fun _ => (-10000)) rfl, upd_lt (g := fun _ => 10000) rfl]
  · intro k
    show f_X8_runs_6b sv a b m p _ _ (nI 36) k = _
    unfold f_X8_runs_6b
    rw [if_pos (show (36 : Int32) ≤ nI 36 by decide)]
theorem e8_runsA {sv nu : Nat → Int32} {w h p dr lo : Nat} (h0 : sv 0 = nI w) (hh : sv 1 = nI h) (hn : ∀ k, k < 7 → sv (2 + k) = nu k) (h1 : 2 ≤ w) (h2 : w ≤ 6) (h3 : 2 ≤ h) (h4 : h ≤ 6) (hp : 0 < p) (hp2 : p < 100) (hlo : nu 2 = nI lo) (hlo1 : 0 < lo) (hlo2 : lo < 1000) (hdr : nu 6 = nI dr) (hdr2 : dr < w * h) (a b tp lw m : Nat → Int32) (s e : F4) (s1 : s.1 = z36 a) (s2 : s.2.1 = z36 b) (s3 : s.2.2.1 = fun c => if c < 36 then 10000 else lw c) (s4 : s.2.2.2 = fun c => if c < 36 then (-10000) else tp c) (he : e = itN (QS w h nu p dr) s (30 + p)) :
    f_X8_runs sv a b tp lw m (nI p) = some (e.1, e.2.1, e.2.2.2, e.2.2.1, fun c => if c < w * h then e.2.2.2 c - e.2.2.1 c else m c) := by
  have hq := e8_r36 h0 hh hn h1 h2 h3 h4 hp hp2 hlo hlo1 hlo2 hdr hdr2 s m e he
  rw [s1, s2, s3, s4] at hq
  unfold f_X8_runs
  rw [e8_rests, ob2_s, e8_r6]
  exact hq
theorem e8_runsB {nu : Nat → Int32} {w h p dr : Nat} (h1 : 2 ≤ w) (h2 : w ≤ 6) (h3 : 2 ≤ h) (h4 : h ≤ 6) (hp : 0 < p) (a b tp lw m : Nat → Int32) (s e : F4) (s1 : s.1 = z36 a) (s2 : s.2.1 = z36 b) (s3 : s.2.2.1 = fun c => if c < 36 then 10000 else lw c) (s4 : s.2.2.2 = fun c => if c < 36 then (-10000) else tp c) (he : e = itN (QS w h nu p dr) s (30 + p)) (c : Nat) (hc : c < w * h) :
    e.2.2.2 c - e.2.2.1 c = MOT w h nu p dr c := by
  have h36 := mul36 h2 h4
  have g1 : ∀ k, k < w * h → s.1 k = 0 := fun k hk => by rw [s1]; exact if_pos (show k < 36 by omega)
  have g2 : ∀ k, k < w * h → s.2.1 k = 0 := fun k hk => by rw [s2]; exact if_pos (show k < 36 by omega)
  have g3 : ∀ k, k < w * h → s.2.2.1 k = 10000 := fun k hk => by rw [s3]; exact if_pos (show k < 36 by omega)
  have g4 : ∀ k, k < w * h → s.2.2.2 k = (-10000) := fun k hk => by rw [s4]; exact if_pos (show k < 36 by omega)
  have hx := QS_ext (nu := nu) (p := p) (dr := dr) h1 h2 h3 h4 g1 g2 g3 g4 hc p
  have e1 : e.2.2.2 c = hiC w h nu p dr c (-9999) p := by rw [he, hx.2, hiC_eq _ _ _ _ _ _ _ hp]
  have e2 : e.2.2.1 c = loC w h nu p dr c 9999 p := by rw [he, hx.1, loC_eq _ _ _ _ _ _ _ hp]
  rw [e1, e2, MOT]
theorem e8_runs {sv nu : Nat → Int32} {w h p dr lo : Nat} (h0 : sv 0 = nI w) (hh : sv 1 = nI h) (hn : ∀ k, k < 7 → sv (2 + k) = nu k) (h1 : 2 ≤ w) (h2 : w ≤ 6) (h3 : 2 ≤ h) (h4 : h ≤ 6) (hp : 0 < p) (hp2 : p < 100) (hlo : nu 2 = nI lo) (hlo1 : 0 < lo) (hlo2 : lo < 1000) (hdr : nu 6 = nI dr) (hdr2 : dr < w * h) (a b tp lw m : Nat → Int32) :
    ∃ H V T L M, f_X8_runs sv a b tp lw m (nI p) = some (H, V, T, L, M) ∧ ∀ c, c < w * h → M c = MOT w h nu p dr c := by
  obtain ⟨s, s1, s2, s3, s4⟩ : ∃ s : F4, s.1 = z36 a ∧ s.2.1 = z36 b ∧ (s.2.2.1 = fun c => if c < 36 then 10000 else lw c) ∧ s.2.2.2 = fun c => if c < 36 then (-10000) else tp c := ⟨(z36 a, z36 b, (fun c => if c < 36 then 10000 else lw c), fun c => if c < 36 then (-10000) else tp c), rfl, rfl, rfl, rfl⟩
  obtain ⟨e, he⟩ : ∃ e : F4, e = itN (QS w h nu p dr) s (30 + p) := ⟨_, rfl⟩
  exact ⟨e.1, e.2.1, e.2.2.2, e.2.2.1, fun c => if c < w * h then e.2.2.2 c - e.2.2.1 c else m c, e8_runsA h0 hh hn h1 h2 h3 h4 hp hp2 hlo hlo1 hlo2 hdr hdr2 a b tp lw m s e s1 s2 s3 s4 he, fun c hc => (if_pos hc).trans (e8_runsB h1 h2 h3 h4 hp a b tp lw m s e s1 s2 s3 s4 he c hc)⟩
