/-! a step of a run -/
def pushS (fo p t : Int32) : Int32 := if p / 2 ≤ vm_rem t p then -fo else fo
def v1S (w h : Nat) (nu ht sp : Nat → Int32) (c : Nat) : Int32 := sp c + nu 1 * pullS w h (nu 0) ht c / 16
def v2S (w h : Nat) (nu ht sp : Nat → Int32) (p t : Int32) (dr c : Nat) : Int32 := if c = dr then v1S w h nu ht sp c + pushS (nu 3) p t else v1S w h nu ht sp c
def vS (w h : Nat) (nu ht sp : Nat → Int32) (p t : Int32) (dr c : Nat) : Int32 := v2S w h nu ht sp p t dr c - v2S w h nu ht sp p t dr c / nu 2
def clampS (z : Int32) : Int32 := if (-9999) < (if z < 9999 then z else 9999) then (if z < 9999 then z else 9999) else (-9999)
def clampM (z : Int32) : Int32 := if z ≤ 9999 then (if (-9999) ≤ z then z else (-9999)) else 9999
theorem clamp_eq (z : Int32) : clampM z = clampS z := by
  unfold clampM clampS
  have k1 : (9999 : Int32).toInt = 9999 := by decide
  have k2 : (-9999 : Int32).toInt = -9999 := by decide
  by_cases a : z < 9999
  · have a' := Int32.lt_iff_toInt_lt.mp a
    rw [if_pos a, if_pos (show z ≤ 9999 from Int32.le_iff_toInt_le.mpr (by omega))]
    by_cases b : (-9999 : Int32) < z
    · have b' := Int32.lt_iff_toInt_lt.mp b
      rw [if_pos b, if_pos (show (-9999 : Int32) ≤ z from Int32.le_iff_toInt_le.mpr (by omega))]
    · rw [if_neg b]
      by_cases d : (-9999 : Int32) ≤ z
      · have d' := Int32.le_iff_toInt_le.mp d
        have b' : ¬ (-9999 : Int32).toInt < z.toInt := fun q => b (Int32.lt_iff_toInt_lt.mpr q)
        rw [if_pos d]
        exact Int32.toInt_inj.mp (by omega)
      · rw [if_neg d]
  · have a' : ¬ z.toInt < (9999 : Int32).toInt := fun q => a (Int32.lt_iff_toInt_lt.mpr q)
    rw [if_neg a, if_pos (show (-9999 : Int32) < 9999 by decide)]
    by_cases b : z ≤ 9999
    · have b' := Int32.le_iff_toInt_le.mp b
      rw [if_pos b, if_pos (show (-9999 : Int32) ≤ z from Int32.le_iff_toInt_le.mpr (by omega))]
      exact Int32.toInt_inj.mp (by omega)
    · rw [if_neg b]
theorem clamp_b (z : Int32) : -9999 ≤ (clampS z).toInt ∧ (clampS z).toInt ≤ 9999 := by
  unfold clampS
  have k1 : (9999 : Int32).toInt = 9999 := by decide
  have k2 : (-9999 : Int32).toInt = -9999 := by decide
  by_cases a : z < 9999
  · have a' := Int32.lt_iff_toInt_lt.mp a
    rw [if_pos a]
    by_cases b : (-9999 : Int32) < z
    · have b' := Int32.lt_iff_toInt_lt.mp b
      rw [if_pos b]; omega
    · rw [if_neg b]; omega
  · rw [if_neg a, if_pos (show (-9999 : Int32) < 9999 by decide)]; omega
/-- what a step makes of heights and speeds: below the number of cells all new -/
def spN (w h : Nat) (nu ht sp : Nat → Int32) (p t : Int32) (dr : Nat) : Nat → Int32 := fun c => if c < w * h then vS w h nu ht sp p t dr c else sp c
def htN (w h : Nat) (nu ht sp : Nat → Int32) (p t : Int32) (dr : Nat) : Nat → Int32 := fun c => if c < w * h then clampS (ht c + vS w h nu ht sp p t dr c) else ht c
theorem nI_ne0' {n : Nat} (h0 : 0 < n) (h : n < 2 ^ 31) : ¬ nI n = 0 := nI_ne0 h0 h
theorem e8_step {sv nu : Nat → Int32} {w h p dr lo : Nat} (h0 : sv 0 = nI w) (hh : sv 1 = nI h) (hn : ∀ k, k < 7 → sv (2 + k) = nu k) (h1 : 2 ≤ w) (h2 : w ≤ 6) (h3 : 2 ≤ h) (h4 : h ≤ 6) (hp : 0 < p) (hp2 : p < 1000) (hlo : nu 2 = nI lo) (hlo1 : 0 < lo) (hlo2 : lo < 1000) (hdr : nu 6 = nI dr) (hdr2 : dr < 1000) (ht sp : Nat → Int32) (t : Int32) :
    f_X8_step sv ht sp t (nI p) = some (htN w h nu ht sp (nI p) t dr, spN w h nu ht sp (nI p) t dr) := by
  have h36 := mul36 h2 h4
  have n0 : sv 2 = nu 0 := hn 0 (by omega)
  have n1 : sv 3 = nu 1 := hn 1 (by omega)
  have n2 : sv 4 = nu 2 := hn 2 (by omega)
  have n3 : sv 5 = nu 3 := hn 3 (by omega)
  have n6 : sv 8 = nu 6 := hn 6 (by omega)
  unfold f_X8_step f_X8_step_2
  refine (ox_for (r := spN w h nu ht sp (nI p) t dr) (fun i => ((fun c => if c < i then vS w h nu ht sp (nI p) t dr c else sp c), nI i)) (w * h) (by rw [← lt0]; rfl) (by omega) ?_ ?_).trans ?_
  · intro i hi k
    show f_X8_step_2b sv ht t (nI p) _ (nI i) k = _
    unfold f_X8_step_2b f_X8_step_59 f_X8_step_80
    simp only [e8_cells h0 hh, ob1_s]
    rw [if_neg (nI_ge hi (by omega)), if_pos (inb_nI (by omega) (by decide)), e8_pull h0 hh h1 h2 h3 h4 hi, nI_clamp (by omega), nI_1, n0, n1, n2, n3, n6]
    simp only [ob1_s]
    have q1 : (¬ nI lo = 0) = True := eq_true (nI_ne0 hlo1 (by omega))
    rw [if_pos (nI_ne0 hp (by omega)), if_neg (show ¬ i < i by omega), hlo, hdr]
    simp only [q1, inb_nI (show i < 36 by omega) (show 36 < 2 ^ 31 by decide), if_true]
    have hv : ∀ z : Int32, z = v2S w h nu ht sp (nI p) t dr i → upd (fun c => if c < i then vS w h nu ht sp (nI p) t dr c else sp c) i (z - z / nI lo) = fun c => if c < i + 1 then vS w h nu ht sp (nI p) t dr c else sp c := fun z hz => upd_lt (by unfold vS; rw [hz, hlo])
    by_cases a : nI p / 2 ≤ vm_rem t (nI p)
    · rw [if_pos a]
      by_cases b : i = dr
      · rw [if_pos (by rw [b]), hv _ (by unfold v2S pushS v1S; rw [if_pos b, if_pos a])]
      · rw [if_neg (fun q => b ((nI_eq (by omega) (by omega)).mp q)), hv _ (by unfold v2S v1S; rw [if_neg b, Int32.add_zero])]
    · rw [if_neg a]
      by_cases b : i = dr
      · rw [if_pos (by rw [b]), hv _ (by unfold v2S pushS v1S; rw [if_pos b, if_neg a])]
      · rw [if_neg (fun q => b ((nI_eq (by omega) (by omega)).mp q)), hv _ (by unfold v2S v1S; rw [if_neg b, Int32.add_zero])]
  · intro k
    show f_X8_step_2b sv ht t (nI p) _ (nI (w * h)) k = _
    unfold f_X8_step_2b
    simp only [e8_cells h0 hh, ob1_s]
    rw [if_pos (nI_le (Nat.le_refl _) (by omega))]
    rfl
  · unfold f_X8_step_107 f_X8_step_109
    refine (ox_for (r := htN w h nu ht sp (nI p) t dr) (fun i => ((fun c => if c < i then clampS (ht c + vS w h nu ht sp (nI p) t dr c) else ht c), nI i)) (w * h) (by rw [← lt0]; rfl) (by omega) ?_ ?_).trans ?_
    · intro i hi k
      show f_X8_step_109b sv (spN w h nu ht sp (nI p) t dr) _ (nI i) k = _
      unfold f_X8_step_109b f_X8_step_167
      simp only [e8_cells h0 hh, ob1_s]
      rw [if_neg (nI_ge hi (by omega)), if_pos (inb_nI (by omega) (by decide)), nI_clamp (by omega), nI_1, if_neg (show ¬ i < i by omega)]
      have hs : spN w h nu ht sp (nI p) t dr i = vS w h nu ht sp (nI p) t dr i := if_pos hi
      rw [hs]
      have hv : ∀ z : Int32, z = clampM (ht i + vS w h nu ht sp (nI p) t dr i) → upd (fun c => if c < i then clampS (ht c + vS w h nu ht sp (nI p) t dr c) else ht c) i z = fun c => if c < i + 1 then clampS (ht c + vS w h nu ht sp (nI p) t dr c) else ht c := fun z hz => upd_lt (by rw [hz, clamp_eq])
      simp only [inb_nI (show i < 36 by omega) (show 36 < 2 ^ 31 by decide), if_true]
      by_cases a : ht i + vS w h nu ht sp (nI p) t dr i ≤ 9999
      · rw [if_pos a]
        by_cases b : (-9999) ≤ ht i + vS w h nu ht sp (nI p) t dr i
        · rw [if_pos b, hv _ (by unfold clampM; rw [if_pos a, if_pos b])]
        · rw [if_neg b, hv _ (by unfold clampM; rw [if_pos a, if_neg b])]
      · rw [if_neg a, hv _ (by unfold clampM; rw [if_neg a])]
    · intro k
      show f_X8_step_109b sv (spN w h nu ht sp (nI p) t dr) _ (nI (w * h)) k = _
      unfold f_X8_step_109b
      simp only [e8_cells h0 hh, ob1_s]
      rw [if_pos (nI_le (Nat.le_refl _) (by omega))]
      rfl
    · rfl
