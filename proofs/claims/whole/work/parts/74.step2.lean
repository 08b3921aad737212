theorem e_step {nu : Nat → Int32} {w h p dr lo : Nat} (h1 : 2 ≤ w) (h2 : w ≤ 6) (h3 : 2 ≤ h) (h4 : h ≤ 6) (hp : 0 < p) (hp2 : p < 1000) (hlo : nu 2 = nI lo) (hlo1 : 0 < lo) (hlo2 : lo < 1000) (hdr : nu 6 = nI dr) (hdr2 : dr < w * h) (ht sp : Nat → Int32) (t : Int32) :
    f_X1_step ht sp (nI w) (nI h) nu (nI p) t = some (htN w h nu ht sp (nI p) t dr, spN w h nu ht sp (nI p) t dr) := by
  have h36 := mul36 h2 h4
  unfold f_X1_step f_X1_step_11
  refine (ox_for (r := fun c => if c < w * h then v1S w h nu ht sp c else sp c) (fun y => ((fun c => if c < w * y then v1S w h nu ht sp c else sp c), nI y)) h (by rw [Nat.mul_zero, ← lt0]; rfl) (by omega) ?_ ?_).trans ?_
  · intro y hy k
    show f_X1_step_11b ht (nI w) (nI h) nu (nI p) t (nu 1) _ (nI y) k = _
    unfold f_X1_step_11b f_X1_step_23
    rw [if_neg (nI_ge hy (by omega))]
    refine (ox_for (r := fun c => if c < w * (y + 1) then v1S w h nu ht sp c else sp c) (fun x => ((fun c => if c < w * y + x then v1S w h nu ht sp c else sp c), nI x)) w rfl (by omega) ?_ ?_).trans ?_
    · intro x hx k
      have hc := cl_lt hx hy
      show f_X1_step_23b ht (nI w) (nI h) nu (nI p) t (nu 1) (nI y) _ (nI x) k = _
      unfold f_X1_step_23b
      rw [if_neg (nI_ge hx (by omega)), nI_cell, if_pos (inb_nI (by omega) (by decide)), e_pull ht nu h1 h2 h3 h4 hx hy]
      simp only [ob1_s]
      rw [if_pos (inb_nI (by omega) (by decide)), nI_clamp (by omega), nI_1, if_neg (show ¬ w * y + x < w * y + x by omega), upd_lt (g := v1S w h nu ht sp) (show sp (w * y + x) + nu 1 * pullS w h (nu 0) ht (w * y + x) / 16 = v1S w h nu ht sp (w * y + x) from rfl)]
      rfl
    · intro k
      show f_X1_step_23b ht (nI w) (nI h) nu (nI p) t (nu 1) (nI y) _ (nI w) k = _
      unfold f_X1_step_23b
      rw [if_pos (nI_le (Nat.le_refl _) (by omega)), Nat.mul_add, Nat.mul_one]
    · show f_X1_step_71 _ _ _ _ _ _ _ _ (nI y) k = _
      unfold f_X1_step_71
      rw [nI_1]
  · intro k
    show f_X1_step_11b ht (nI w) (nI h) nu (nI p) t (nu 1) _ (nI h) k = _
    unfold f_X1_step_11b
    rw [if_pos (nI_le (Nat.le_refl _) (by omega))]
  · unfold f_X1_step_77 f_X1_step_115
    rw [hdr, if_pos (inb_nI (by omega) (by decide)), if_pos (nI_ne0 hp (by omega)), nI_clamp (by omega)]
    simp only [inb_nI (show dr < 36 by omega) (show 36 < 2 ^ 31 by decide), if_true, if_pos hdr2]
    have hd : ∀ z : Int32, z = v2S w h nu ht sp (nI p) t dr dr → upd (fun c => if c < w * h then v1S w h nu ht sp c else sp c) dr z = fun c => if c < w * h then v2S w h nu ht sp (nI p) t dr c else sp c := by
      intro z hz
      funext c
      by_cases e : c = dr
      · subst e
        rw [pk_us, if_pos hdr2, hz]
      · rw [pk_un e]
        unfold v2S
        rw [if_neg e]
    have fin : f_X1_step_128 ht (fun c => if c < w * h then v2S w h nu ht sp (nI p) t dr c else sp c) (nI w) (nI h) (nu 2) 0 = some (htN w h nu ht sp (nI p) t dr, spN w h nu ht sp (nI p) t dr) := by
      unfold f_X1_step_128
      refine (ox_for (r := (htN w h nu ht sp (nI p) t dr, spN w h nu ht sp (nI p) t dr)) (fun i => ((fun c => if c < i then clampS (ht c + vS w h nu ht sp (nI p) t dr c) else ht c), (fun c => if c < i then vS w h nu ht sp (nI p) t dr c else if c < w * h then v2S w h nu ht sp (nI p) t dr c else sp c), nI i)) (w * h) (by rw [← lt0, ← lt0]; rfl) (by omega) ?_ ?_).trans ?_
      · intro i hi k
        show f_X1_step_128b (nI w) (nI h) (nu 2) _ _ (nI i) k = _
        unfold f_X1_step_128b
        have q1 : (¬ nI lo = 0) = True := eq_true (nI_ne0 hlo1 (by omega))
        simp only [e_cells, ob1_s, hlo, q1, inb_nI (show i < 36 by omega) (show 36 < 2 ^ 31 by decide), if_true]
        rw [if_neg (nI_ge hi (by omega)), nI_clamp (by omega), nI_1]
        simp only [pk_us, if_neg (show ¬ i < i by omega), if_pos hi]
        have e1 : v2S w h nu ht sp (nI p) t dr i - v2S w h nu ht sp (nI p) t dr i / nI lo = vS w h nu ht sp (nI p) t dr i := by unfold vS; rw [hlo]
        rw [e1, upd_lt (g := vS w h nu ht sp (nI p) t dr) rfl]
        show k (upd (fun c => if c < i then clampS (ht c + vS w h nu ht sp (nI p) t dr c) else ht c) i (clampS (ht i + vS w h nu ht sp (nI p) t dr i)), _, _) = _
        rw [upd_lt (g := fun c => clampS (ht c + vS w h nu ht sp (nI p) t dr c)) rfl]
      · intro k
        show f_X1_step_128b (nI w) (nI h) (nu 2) _ _ (nI (w * h)) k = _
        unfold f_X1_step_128b
        simp only [e_cells, ob1_s]
        rw [if_pos (nI_le (Nat.le_refl _) (by omega))]
        have e2 : (fun c => if c < w * h then vS w h nu ht sp (nI p) t dr c else if c < w * h then v2S w h nu ht sp (nI p) t dr c else sp c) = spN w h nu ht sp (nI p) t dr := by
          funext c
          unfold spN
          by_cases e : c < w * h
          · rw [if_pos e, if_pos e]
          · rw [if_neg e, if_neg e, if_neg e]
        rw [e2]
        rfl
      · rfl
    by_cases a : nI p / 2 ≤ vm_rem t (nI p)
    · rw [if_pos a, hd _ (by unfold v2S pushS; rw [if_pos rfl, if_pos a])]
      exact fin
    · rw [if_neg a, hd _ (by unfold v2S pushS; rw [if_pos rfl, if_neg a])]
      exact fin
