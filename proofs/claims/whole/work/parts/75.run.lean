/-! runs -/
def RS (w h : Nat) (nu : Nat → Int32) (p dr : Nat) (t : Nat) (s : (Nat → Int32) × (Nat → Int32)) : (Nat → Int32) × (Nat → Int32) := (htN w h nu s.1 s.2 (nI p) (nI t) dr, spN w h nu s.1 s.2 (nI p) (nI t) dr)
def runN (w h : Nat) (nu : Nat → Int32) (p dr : Nat) (s : (Nat → Int32) × (Nat → Int32)) (t : Nat) : (Nat → Int32) × (Nat → Int32) := itN (RS w h nu p dr) s t
def HV (w h : Nat) (nu : Nat → Int32) (p dr t : Nat) : (Nat → Int32) × (Nat → Int32) := runN w h nu p dr (fun _ => 0, fun _ => 0) t
theorem nbS_congr {w h c d : Nat} {ed : Int32} {a b : Nat → Int32} (h1 : 2 ≤ w) (h2 : w ≤ 6) (h3 : 2 ≤ h) (h4 : h ≤ 6) (hc : c < w * h) (hd : d < 4) (hab : ∀ k, k < w * h → a k = b k) : nbS w h ed a c d = nbS w h ed b c d := by
  unfold nbS beyS
  cases hn : nxt w h c d with
  | none => show (if ed = 1 then a c else 0) = (if ed = 1 then b c else 0); rw [hab c hc]
  | some j => exact hab j (nxt_lt h1 h2 h3 h4 hc hd hn)
theorem pullS_congr {w h c : Nat} {ed : Int32} {a b : Nat → Int32} (h1 : 2 ≤ w) (h2 : w ≤ 6) (h3 : 2 ≤ h) (h4 : h ≤ 6) (hc : c < w * h) (hab : ∀ k, k < w * h → a k = b k) : pullS w h ed a c = pullS w h ed b c := by
  unfold pullS
  rw [nbS_congr h1 h2 h3 h4 hc (by decide) hab, nbS_congr h1 h2 h3 h4 hc (by decide) hab, nbS_congr h1 h2 h3 h4 hc (by decide) hab, nbS_congr h1 h2 h3 h4 hc (by decide) hab, hab c hc]
theorem vS_congr {w h dr c : Nat} {nu nv a b a' b' : Nat → Int32} {p t : Int32} (h1 : 2 ≤ w) (h2 : w ≤ 6) (h3 : 2 ≤ h) (h4 : h ≤ 6) (hc : c < w * h) (hn : ∀ k, k < 4 → nu k = nv k) (hab : ∀ k, k < w * h → a k = b k) (hab' : ∀ k, k < w * h → a' k = b' k) : vS w h nu a a' p t dr c = vS w h nv b b' p t dr c := by
  unfold vS v2S v1S
  rw [hn 0 (by omega), hn 1 (by omega), hn 2 (by omega), hn 3 (by omega), pullS_congr h1 h2 h3 h4 hc hab, hab' c hc]
theorem run_congr {w h p dr : Nat} {nu nv : Nat → Int32} {s s' : (Nat → Int32) × (Nat → Int32)} (h1 : 2 ≤ w) (h2 : w ≤ 6) (h3 : 2 ≤ h) (h4 : h ≤ 6) (hn : ∀ k, k < 4 → nu k = nv k) (ha : ∀ k, k < w * h → s.1 k = s'.1 k) (hb : ∀ k, k < w * h → s.2 k = s'.2 k) : ∀ t, (∀ k, k < w * h → (runN w h nu p dr s t).1 k = (runN w h nv p dr s' t).1 k) ∧ (∀ k, k < w * h → (runN w h nu p dr s t).2 k = (runN w h nv p dr s' t).2 k)
  | 0 => ⟨ha, hb⟩
  | t + 1 => by
    obtain ⟨i1, i2⟩ := run_congr (p := p) (dr := dr) h1 h2 h3 h4 hn ha hb t
    constructor
    · intro k hk
      have e := vS_congr (p := nI p) (t := nI t) (dr := dr) h1 h2 h3 h4 hk hn i1 i2
      show (if k < w * h then clampS ((runN w h nu p dr s t).1 k + vS w h nu (runN w h nu p dr s t).1 (runN w h nu p dr s t).2 (nI p) (nI t) dr k) else _) = (if k < w * h then clampS ((runN w h nv p dr s' t).1 k + vS w h nv (runN w h nv p dr s' t).1 (runN w h nv p dr s' t).2 (nI p) (nI t) dr k) else _)
      rw [if_pos hk, if_pos hk, e, i1 k hk]
    · intro k hk
      have e := vS_congr (p := nI p) (t := nI t) (dr := dr) h1 h2 h3 h4 hk hn i1 i2
      show (if k < w * h then vS w h nu (runN w h nu p dr s t).1 (runN w h nu p dr s t).2 (nI p) (nI t) dr k else _) = (if k < w * h then vS w h nv (runN w h nv p dr s' t).1 (runN w h nv p dr s' t).2 (nI p) (nI t) dr k else _)
      rw [if_pos hk, if_pos hk, e]
theorem HV_b (w h : Nat) (nu : Nat → Int32) (p dr : Nat) : ∀ t c, -9999 ≤ ((HV w h nu p dr t).1 c).toInt ∧ ((HV w h nu p dr t).1 c).toInt ≤ 9999
  | 0, c => by show -9999 ≤ (0 : Int32).toInt ∧ (0 : Int32).toInt ≤ 9999; decide
  | t + 1, c => by
    show -9999 ≤ (htN w h nu _ _ _ _ dr c).toInt ∧ (htN w h nu _ _ _ _ dr c).toInt ≤ 9999
    unfold htN
    by_cases e : c < w * h
    · rw [if_pos e]; exact clamp_b _
    · rw [if_neg e]; exact HV_b w h nu p dr t c
def z36 (a : Nat → Int32) : Nat → Int32 := fun c => if c < 36 then 0 else a c
theorem e_rest (a b : Nat → Int32) : f_X1_rest a b = some (z36 a, z36 b) := by
  unfold f_X1_rest
  rw [e_fill (by decide), e_fill (by decide)]
  rfl
theorem e8_rests (a b : Nat → Int32) : f_X8_rests a b = some (z36 a, z36 b) := by
  unfold f_X8_rests f_X8_rests_2
  refine (ox_for (r := (z36 a, z36 b)) (fun i => ((fun c => if c < i then 0 else a c), (fun c => if c < i then 0 else b c), nI i)) 36 (by rw [← lt0, ← lt0]; rfl) (by omega) ?_ ?_).trans ?_
  · intro i hi k
    show f_X8_rests_2b _ _ (nI i) k = _
    unfold f_X8_rests_2b
    simp only [inb_nI hi (show 36 < 2 ^ 31 by decide), if_true]
    rw [if_neg (show ¬ (36 : Int32) ≤ nI i from nI_ge (a := i) (b := 36) hi (by omega)), nI_clamp (by omega), nI_1, upd_lt (g := fun _ => 0) rfl, upd_lt (g := fun _ => 0) rfl]
  · intro k
    show f_X8_rests_2b _ _ (nI 36) k = _
    unfold f_X8_rests_2b
    rw [if_pos (show (36 : Int32) ≤ nI 36 by decide)]
    rfl
  · rfl
/-- height behind n steps -/
theorem e_heightBehind {nu : Nat → Int32} {w h p dr lo c n : Nat} (h1 : 2 ≤ w) (h2 : w ≤ 6) (h3 : 2 ≤ h) (h4 : h ≤ 6) (hpe : nu 4 = nI p) (hp : 0 < p) (hp2 : p < 1000) (hlo : nu 2 = nI lo) (hlo1 : 0 < lo) (hlo2 : lo < 1000) (hdr : nu 6 = nI dr) (hdr2 : dr < w * h) (hc : c < w * h) (hn : n < 100) (a b : Nat → Int32) :
    ∃ H V, f_X1_heightBehind a b (nI w) (nI h) nu (nI c) (nI n) = some ((HV w h nu p dr n).1 c, H, V) := by
  have h36 := mul36 h2 h4
  refine ⟨(runN w h nu p dr (z36 a, z36 b) n).1, (runN w h nu p dr (z36 a, z36 b) n).2, ?_⟩
  unfold f_X1_heightBehind f_X1_heightBehind_7
  rw [e_rest]
  simp only [ob2_s]
  refine (ox_for (r := runN w h nu p dr (z36 a, z36 b) n) (fun t => ((runN w h nu p dr (z36 a, z36 b) t).1, (runN w h nu p dr (z36 a, z36 b) t).2, nI t)) n rfl (by omega) ?_ ?_).trans ?_
  · intro i hi k
    show f_X1_heightBehind_7b (nI w) (nI h) nu (nI c) (nI n) _ _ (nI i) k = _
    unfold f_X1_heightBehind_7b
    rw [if_neg (nI_ge hi (by omega)), hpe, e_step h1 h2 h3 h4 hp hp2 hlo hlo1 hlo2 hdr hdr2, nI_1]
    rfl
  · intro k
    show f_X1_heightBehind_7b (nI w) (nI h) nu (nI c) (nI n) _ _ (nI n) k = _
    unfold f_X1_heightBehind_7b
    rw [if_pos (nI_le (Nat.le_refl _) (by omega))]
  · show f_X1_heightBehind_32 (runN w h nu p dr (z36 a, z36 b) n).1 (runN w h nu p dr (z36 a, z36 b) n).2 (nI c) = _
    unfold f_X1_heightBehind_32
    rw [if_pos (inb_nI (by omega) (by decide)), nI_clamp (by omega), (run_congr (s := (z36 a, z36 b)) (s' := (fun _ => 0, fun _ => 0)) (nu := nu) (nv := nu) (p := p) (dr := dr) h1 h2 h3 h4 (fun _ _ => rfl) (fun k hk => if_pos (show k < 36 by omega)) (fun k hk => if_pos (show k < 36 by omega)) n).1 c hc]
    rfl
