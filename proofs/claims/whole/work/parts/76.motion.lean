/-! motions by a period -/
def hiC (w h : Nat) (nu : Nat → Int32) (p dr c : Nat) (z : Int32) (j : Nat) : Int32 := itN (fun i m => if m < (HV w h nu p dr (31 + i)).1 c then (HV w h nu p dr (31 + i)).1 c else m) z j
def loC (w h : Nat) (nu : Nat → Int32) (p dr c : Nat) (z : Int32) (j : Nat) : Int32 := itN (fun i m => if (HV w h nu p dr (31 + i)).1 c < m then (HV w h nu p dr (31 + i)).1 c else m) z j
def MOT (w h : Nat) (nu : Nat → Int32) (p dr c : Nat) : Int32 := hiC w h nu p dr c (-9999) p - loC w h nu p dr c 9999 p
theorem hiC_eq (w h : Nat) (nu : Nat → Int32) (p dr c : Nat) : ∀ j, 0 < j → hiC w h nu p dr c (-10000) j = hiC w h nu p dr c (-9999) j
  | 0, q => by omega
  | 1, _ => by
    obtain ⟨b1, b2⟩ := HV_b w h nu p dr 31 c
    have k1 : (-10000 : Int32).toInt = -10000 := by decide
    have k2 : (-9999 : Int32).toInt = -9999 := by decide
    show (if (-10000 : Int32) < (HV w h nu p dr 31).1 c then (HV w h nu p dr 31).1 c else (-10000)) = (if (-9999 : Int32) < (HV w h nu p dr 31).1 c then (HV w h nu p dr 31).1 c else (-9999))
    rw [if_pos (Int32.lt_iff_toInt_lt.mpr (by omega))]
    by_cases e : (-9999 : Int32) < (HV w h nu p dr 31).1 c
    · rw [if_pos e]
    · have e' : ¬ (-9999 : Int32).toInt < ((HV w h nu p dr 31).1 c).toInt := fun q => e (Int32.lt_iff_toInt_lt.mpr q)
      rw [if_neg e]
      exact Int32.toInt_inj.mp (by omega)
  | j + 2, _ => by
    have ih := hiC_eq w h nu p dr c (j + 1) (by omega)
    show (if hiC w h nu p dr c (-10000) (j + 1) < _ then _ else hiC w h nu p dr c (-10000) (j + 1)) = (if hiC w h nu p dr c (-9999) (j + 1) < _ then _ else hiC w h nu p dr c (-9999) (j + 1))
    rw [ih]
theorem loC_eq (w h : Nat) (nu : Nat → Int32) (p dr c : Nat) : ∀ j, 0 < j → loC w h nu p dr c 10000 j = loC w h nu p dr c 9999 j
  | 0, q => by omega
  | 1, _ => by
    obtain ⟨b1, b2⟩ := HV_b w h nu p dr 31 c
    have k1 : (10000 : Int32).toInt = 10000 := by decide
    have k2 : (9999 : Int32).toInt = 9999 := by decide
    show (if (HV w h nu p dr 31).1 c < (10000 : Int32) then (HV w h nu p dr 31).1 c else 10000) = (if (HV w h nu p dr 31).1 c < (9999 : Int32) then (HV w h nu p dr 31).1 c else 9999)
    rw [if_pos (Int32.lt_iff_toInt_lt.mpr (by omega))]
    by_cases e : (HV w h nu p dr 31).1 c < (9999 : Int32)
    · rw [if_pos e]
    · have e' : ¬ ((HV w h nu p dr 31).1 c).toInt < (9999 : Int32).toInt := fun q => e (Int32.lt_iff_toInt_lt.mpr q)
      rw [if_neg e]
      exact Int32.toInt_inj.mp (by omega)
  | j + 2, _ => by
    have ih := loC_eq w h nu p dr c (j + 1) (by omega)
    show (if _ < loC w h nu p dr c 10000 (j + 1) then _ else loC w h nu p dr c 10000 (j + 1)) = (if _ < loC w h nu p dr c 9999 (j + 1) then _ else loC w h nu p dr c 9999 (j + 1))
    rw [ih]
def loN (n : Nat) (ht lo : Nat → Int32) : Nat → Int32 := fun c => if c < n then (if ht c < lo c then ht c else lo c) else lo c
def hiN (n : Nat) (ht hi : Nat → Int32) : Nat → Int32 := fun c => if c < n then (if hi c < ht c then ht c else hi c) else hi c
theorem e_note {n : Nat} (hn : n ≤ 36) (ht lo hi : Nat → Int32) : f_X1_noteHeights ht lo hi (nI n) = some (loN n ht lo, hiN n ht hi) := by
  unfold f_X1_noteHeights f_X1_noteHeights_2
  refine (ox_for (r := (loN n ht lo, hiN n ht hi)) (fun i => ((fun c => if c < i then (if ht c < lo c then ht c else lo c) else lo c), (fun c => if c < i then (if hi c < ht c then ht c else hi c) else hi c), nI i)) n (by rw [← lt0, ← lt0]; rfl) (by omega) ?_ ?_).trans ?_
  · intro i hi2 k
    show f_X1_noteHeights_2b ht (nI n) _ _ (nI i) k = _
    unfold f_X1_noteHeights_2b
    simp only [inb_nI (show i < 36 by omega) (show 36 < 2 ^ 31 by decide), if_true]
    rw [if_neg (nI_ge hi2 (by omega)), nI_clamp (by omega), nI_1]
    simp only [if_neg (show ¬ i < i by omega)]
    rw [upd_lt (g := fun c => if ht c < lo c then ht c else lo c) rfl, upd_lt (g := fun c => if hi c < ht c then ht c else hi c) rfl]
  · intro k
    show f_X1_noteHeights_2b ht (nI n) _ _ (nI n) k = _
    unfold f_X1_noteHeights_2b
    rw [if_pos (nI_le (Nat.le_refl _) (by omega))]
    rfl
  · rfl
abbrev F4 : Type := (Nat → Int32) × (Nat → Int32) × (Nat → Int32) × (Nat → Int32)
/-- heights, speeds, lowest, highest -/
def QS (w h : Nat) (nu : Nat → Int32) (p dr : Nat) (t : Nat) (s : F4) : F4 := (htN w h nu s.1 s.2.1 (nI p) (nI t) dr, spN w h nu s.1 s.2.1 (nI p) (nI t) dr, if t < 30 then s.2.2.1 else loN (w * h) (htN w h nu s.1 s.2.1 (nI p) (nI t) dr) s.2.2.1, if t < 30 then s.2.2.2 else hiN (w * h) (htN w h nu s.1 s.2.1 (nI p) (nI t) dr) s.2.2.2)
theorem QS_run (w h : Nat) (nu : Nat → Int32) (p dr : Nat) (s : F4) : ∀ t, (itN (QS w h nu p dr) s t).1 = (runN w h nu p dr (s.1, s.2.1) t).1 ∧ (itN (QS w h nu p dr) s t).2.1 = (runN w h nu p dr (s.1, s.2.1) t).2
  | 0 => ⟨rfl, rfl⟩
  | t + 1 => by
    obtain ⟨i1, i2⟩ := QS_run w h nu p dr s t
    constructor
    · show htN w h nu (itN (QS w h nu p dr) s t).1 (itN (QS w h nu p dr) s t).2.1 (nI p) (nI t) dr = htN w h nu (runN w h nu p dr (s.1, s.2.1) t).1 (runN w h nu p dr (s.1, s.2.1) t).2 (nI p) (nI t) dr
      rw [i1, i2]
    · show spN w h nu (itN (QS w h nu p dr) s t).1 (itN (QS w h nu p dr) s t).2.1 (nI p) (nI t) dr = spN w h nu (runN w h nu p dr (s.1, s.2.1) t).1 (runN w h nu p dr (s.1, s.2.1) t).2 (nI p) (nI t) dr
      rw [i1, i2]
theorem QS_fix (w h : Nat) (nu : Nat → Int32) (p dr : Nat) (s : F4) : ∀ t, t ≤ 30 → (itN (QS w h nu p dr) s t).2.2 = s.2.2
  | 0, _ => rfl
  | t + 1, q => by
    have ih := QS_fix w h nu p dr s t (by omega)
    show ((if t < 30 then (itN (QS w h nu p dr) s t).2.2.1 else _), (if t < 30 then (itN (QS w h nu p dr) s t).2.2.2 else _)) = s.2.2
    rw [if_pos (by omega), if_pos (by omega)]
    exact ih
theorem QS_ext {w h p dr : Nat} {nu : Nat → Int32} {s : F4} {zl zh : Int32} (h1 : 2 ≤ w) (h2 : w ≤ 6) (h3 : 2 ≤ h) (h4 : h ≤ 6) (s1 : ∀ k, k < w * h → s.1 k = 0) (s2 : ∀ k, k < w * h → s.2.1 k = 0) (s3 : ∀ k, k < w * h → s.2.2.1 k = zl) (s4 : ∀ k, k < w * h → s.2.2.2 k = zh) {c : Nat} (hc : c < w * h) : ∀ j, (itN (QS w h nu p dr) s (30 + j)).2.2.1 c = loC w h nu p dr c zl j ∧ (itN (QS w h nu p dr) s (30 + j)).2.2.2 c = hiC w h nu p dr c zh j
  | 0 => by
    rw [QS_fix w h nu p dr s 30 (by omega)]
    exact ⟨s3 c hc, s4 c hc⟩
  | j + 1 => by
    obtain ⟨i1, i2⟩ := QS_ext (nu := nu) (p := p) (dr := dr) h1 h2 h3 h4 s1 s2 s3 s4 hc j
    have hH : (htN w h nu (itN (QS w h nu p dr) s (30 + j)).1 (itN (QS w h nu p dr) s (30 + j)).2.1 (nI p) (nI (30 + j)) dr) c = (HV w h nu p dr (31 + j)).1 c := by
      have a := (QS_run w h nu p dr s (30 + j + 1)).1
      have b := (run_congr (s := (s.1, s.2.1)) (s' := (fun _ => 0, fun _ => 0)) (nu := nu) (nv := nu) (p := p) (dr := dr) h1 h2 h3 h4 (fun _ _ => rfl) s1 s2 (30 + j + 1)).1 c hc
      have e : (itN (QS w h nu p dr) s (30 + j + 1)).1 c = (HV w h nu p dr (30 + j + 1)).1 c := by rw [a]; exact b
      rw [show 31 + j = 30 + j + 1 by omega]
      exact e
    constructor
    · show (if 30 + j < 30 then _ else loN (w * h) (htN w h nu (itN (QS w h nu p dr) s (30 + j)).1 (itN (QS w h nu p dr) s (30 + j)).2.1 (nI p) (nI (30 + j)) dr) (itN (QS w h nu p dr) s (30 + j)).2.2.1) c = _
      rw [if_neg (by omega)]
      unfold loN
      rw [if_pos hc, hH, i1]
      rfl
    · show (if 30 + j < 30 then _ else hiN (w * h) (htN w h nu (itN (QS w h nu p dr) s (30 + j)).1 (itN (QS w h nu p dr) s (30 + j)).2.1 (nI p) (nI (30 + j)) dr) (itN (QS w h nu p dr) s (30 + j)).2.2.2) c = _
      rw [if_neg (by omega)]
      unfold hiN
      rw [if_pos hc, hH, i2]
      rfl
theorem e_workOut {nu : Nat → Int32} {w h p dr lo : Nat} (h1 : 2 ≤ w) (h2 : w ≤ 6) (h3 : 2 ≤ h) (h4 : h ≤ 6) (hp : 0 < p) (hp2 : p < 100) (hlo : nu 2 = nI lo) (hlo1 : 0 < lo) (hlo2 : lo < 1000) (hdr : nu 6 = nI dr) (hdr2 : dr < w * h) (a b lw m : Nat → Int32) :
    ∃ H V L M, f_X1_workOut a b lw (nI w) (nI h) nu m (nI p) = some (H, V, L, M) ∧ ∀ c, c < w * h → M c = MOT w h nu p dr c := by
  have h36 := mul36 h2 h4
  obtain ⟨s, hs⟩ : ∃ s : F4, s = (z36 a, z36 b, (fun c => if c < 36 then 9999 else lw c), (fun c => if c < 36 then (-9999) else m c)) := ⟨_, rfl⟩
  obtain ⟨e, he⟩ : ∃ e : F4, e = itN (QS w h nu p dr) s (30 + p) := ⟨_, rfl⟩
  refine ⟨e.1, e.2.1, e.2.2.1, fun c => if c < w * h then e.2.2.2 c - e.2.2.1 c else e.2.2.2 c, ?_, ?_⟩
  · unfold f_X1_workOut f_X1_workOut_24
    rw [e_rest, e_fill (by decide), e_fill (by decide)]
    simp only [ob2_s, ob1_s]
    refine (ox_for (r := (e.1, e.2.1, e.2.2.1, e.2.2.2)) (fun t => ((itN (QS w h nu p dr) s t).1, (itN (QS w h nu p dr) s t).2.1, (itN (QS w h nu p dr) s t).2.2.1, (itN (QS w h nu p dr) s t).2.2.2, nI t)) (30 + p) (by rw [hs]; rfl) (by omega) ?_ ?_).trans ?_
    · intro t ht k
      show f_X1_workOut_24b (nI w) (nI h) nu (nI p) (itN (QS w h nu p dr) s t).1 (itN (QS w h nu p dr) s t).2.1 (itN (QS w h nu p dr) s t).2.2.1 (itN (QS w h nu p dr) s t).2.2.2 (nI t) k = _
      unfold f_X1_workOut_24b f_X1_workOut_57
      rw [show (30 : Int32) + nI p = nI (30 + p) from nI_add 30 p, if_neg (nI_ge ht (by omega)), e_step h1 h2 h3 h4 hp (by omega) hlo hlo1 hlo2 hdr hdr2, nI_1]
      simp only [ob2_s]
      by_cases q : t < 30
      · rw [if_pos (show nI t < (30 : Int32) from nI_lt (a := t) (b := 30) q (by omega))]
        show _ = k (_, _, (if t < 30 then _ else _), (if t < 30 then _ else _), _)
        rw [if_pos q, if_pos q]
        rfl
      · rw [if_neg (show ¬ nI t < (30 : Int32) from nI_nlt (a := t) (b := 30) (by omega) (by omega)), e_cells]
        simp only [ob1_s]
        rw [e_note (by omega)]
        simp only [ob2_s]
        show _ = k (_, _, (if t < 30 then _ else _), (if t < 30 then _ else _), _)
        rw [if_neg q, if_neg q]
        rfl
    · intro k
      show f_X1_workOut_24b (nI w) (nI h) nu (nI p) _ _ _ _ (nI (30 + p)) k = _
      unfold f_X1_workOut_24b
      rw [show (30 : Int32) + nI p = nI (30 + p) from nI_add 30 p, if_pos (nI_le (Nat.le_refl _) (by omega)), he]
    · show f_X1_workOut_63 e.1 e.2.1 e.2.2.1 (nI w) (nI h) e.2.2.2 = _
      unfold f_X1_workOut_63 f_X1_workOut_66
      refine (ox_for (r := fun c => if c < w * h then e.2.2.2 c - e.2.2.1 c else e.2.2.2 c) (fun i => ((fun c => if c < i then e.2.2.2 c - e.2.2.1 c else e.2.2.2 c), nI i)) (w * h) (by rw [← lt0]; rfl) (by omega) ?_ ?_).trans ?_
      · intro i hi k
        show f_X1_workOut_66b e.1 e.2.1 e.2.2.1 (nI w) (nI h) _ (nI i) k = _
        unfold f_X1_workOut_66b
        simp only [e_cells, ob1_s, inb_nI (show i < 36 by omega) (show 36 < 2 ^ 31 by decide), if_true]
        rw [if_neg (nI_ge hi (by omega)), nI_clamp (by omega), nI_1, if_neg (show ¬ i < i by omega), upd_lt (g := fun c => e.2.2.2 c - e.2.2.1 c) rfl]
      · intro k
        show f_X1_workOut_66b e.1 e.2.1 e.2.2.1 (nI w) (nI h) _ (nI (w * h)) k = _
        unfold f_X1_workOut_66b
        simp only [e_cells, ob1_s]
        rw [if_pos (nI_le (Nat.le_refl _) (by omega))]
      · rfl
  · intro c hc
    have hx := QS_ext (nu := nu) (p := p) (dr := dr) (s := s) (zl := 9999) (zh := -9999) h1 h2 h3 h4 (fun k hk => by rw [hs]; exact if_pos (show k < 36 by omega)) (fun k hk => by rw [hs]; exact if_pos (show k < 36 by omega)) (fun k hk => by rw [hs]; exact if_pos (show k < 36 by omega)) (fun k hk => by rw [hs]; exact if_pos (show k < 36 by omega)) hc p
    show (if c < w * h then e.2.2.2 c - e.2.2.1 c else e.2.2.2 c) = _
    rw [if_pos hc, he, hx.1, hx.2]
    rfl
