/-! a shake in natural numbers, and on both sides -/
theorem nsum_congr {f g : Nat → Nat} : ∀ n, (∀ k, k < n → f k = g k) → nsum f n = nsum g n
  | 0, _ => rfl
  | n + 1, h => by
    show nsum f n + f n = nsum g n + g n
    rw [nsum_congr n (fun k hk => h k (by omega)), h n (by omega)]
theorem nsum_add (f g : Nat → Nat) : ∀ n, nsum (fun k => f k + g k) n = nsum f n + nsum g n
  | 0 => rfl
  | n + 1 => by
    show nsum (fun k => f k + g k) n + (f n + g n) = (nsum f n + f n) + (nsum g n + g n)
    rw [nsum_add f g n]; omega
theorem nsum_zero : ∀ n, nsum (fun _ => 0) n = 0
  | 0 => rfl
  | n + 1 => by
    show nsum (fun _ => 0) n + 0 = 0
    rw [nsum_zero n]
theorem nsum_pt (j v : Nat) : ∀ n, nsum (fun k => if j = k then v else 0) n = if j < n then v else 0
  | 0 => (if_neg (by omega)).symm
  | n + 1 => by
    show nsum (fun k => if j = k then v else 0) n + (if j = n then v else 0) = _
    rw [nsum_pt j v n]
    by_cases a : j = n
    · rw [if_neg (by omega), if_pos a, if_pos (by omega)]; omega
    · by_cases b : j < n
      · rw [if_pos b, if_neg a, if_pos (by omega)]; omega
      · rw [if_neg b, if_neg a, if_neg (by omega)]
theorem nsum_at (g : Nat → Nat) (k : Nat) : ∀ n, nsum (fun c => if c = k then g c else 0) n = if k < n then g k else 0
  | 0 => (if_neg (by omega)).symm
  | n + 1 => by
    show nsum (fun c => if c = k then g c else 0) n + (if n = k then g n else 0) = _
    rw [nsum_at g k n]
    by_cases a : n = k
    · rw [if_neg (by omega), if_pos a, if_pos (by omega), a]; omega
    · by_cases b : k < n
      · rw [if_pos b, if_neg a, if_pos (by omega)]; omega
      · rw [if_neg b, if_neg a, if_neg (by omega)]
theorem nsum_eq0 {f : Nat → Nat} : ∀ n, nsum f n = 0 → ∀ k, k < n → f k = 0
  | 0, _, k, hk => by omega
  | n + 1, h, k, hk => by
    have h' : nsum f n + f n = 0 := h
    by_cases e : k = n
    · rw [e]; omega
    · exact nsum_eq0 n (by omega) k (by omega)
theorem nsum_le {f g : Nat → Nat} : ∀ n, (∀ k, k < n → f k ≤ g k) → nsum f n ≤ nsum g n
  | 0, _ => Nat.le_refl _
  | n + 1, h => by
    show nsum f n + f n ≤ nsum g n + g n
    have a := nsum_le n (fun k hk => h k (by omega))
    have b := h n (by omega)
    omega
def SH (N : Nat) (go g : Nat → Nat) (k : Nat) : Nat := nsum (fun c => if go c = k then g c else 0) N
def MV (N : Nat) (go g : Nat → Nat) : Nat := nsum (fun c => if go c = c then 0 else g c) N
theorem SH_sum (M : Nat) (go g : Nat → Nat) : ∀ N, (∀ c, c < N → go c < M) → nsum (SH N go g) M = nsum g N
  | 0, _ => nsum_zero M
  | N + 1, h => by
    show nsum (fun k => SH N go g k + (if go N = k then g N else 0)) M = nsum g N + g N
    rw [nsum_add, nsum_pt, if_pos (h N (by omega))]
    show nsum (SH N go g) M + g N = _
    rw [SH_sum M go g N (fun c hc => h c (by omega))]
theorem MV_le (N : Nat) (go g : Nat → Nat) : MV N go g ≤ nsum g N :=
  nsum_le N (fun k _ => by
    by_cases e : go k = k
    · rw [if_pos e]; omega
    · rw [if_neg e]; exact Nat.le_refl _)
theorem MV_0 {N : Nat} {go g : Nat → Nat} (h : MV N go g = 0) {k : Nat} (hk : k < N) : SH N go g k = g k := by
  have e : SH N go g k = nsum (fun c => if c = k then g c else 0) N := nsum_congr N (fun c hc => by
    have z : (if go c = c then 0 else g c) = 0 := nsum_eq0 N h c hc
    by_cases q : go c = c
    · rw [q]
    · rw [if_neg q] at z
      rw [z]
      by_cases a : go c = k <;> by_cases b : c = k <;> simp [a, b])
  rw [e, nsum_at, if_pos hk]
def cmN (i : Nat) (go g : Nat → Nat) (cm : Nat → Int32) : Nat → Int32 := fun k => if k < 36 then nI (SH i go g k) else cm k
theorem cm_upd {i : Nat} {go g : Nat → Nat} {cm : Nat → Int32} {v : Int32} (h : go i < 36) (hv : v = nI (g i)) : upd (cmN i go g cm) (go i) (cmN i go g cm (go i) + v) = cmN (i + 1) go g cm := by
  funext k
  have s : SH (i + 1) go g k = SH i go g k + (if go i = k then g i else 0) := rfl
  by_cases e : k = go i
  · rw [e, pk_us]
    rw [e] at s
    unfold cmN
    rw [if_pos h, if_pos h, s, if_pos rfl, hv, nI_add]
  · rw [pk_un e]
    unfold cmN
    by_cases q : k < 36
    · rw [if_pos q, if_pos q, s, if_neg (fun y => e y.symm), Nat.add_zero]
    · rw [if_neg q, if_neg q]
theorem mv_s0 {i : Nat} {go g : Nat → Nat} (h : go i = i) : nI (MV i go g) + 0 = nI (MV (i + 1) go g) := by
  show nI (MV i go g) + nI 0 = nI (MV i go g + (if go i = i then 0 else g i))
  rw [if_pos h, nI_add]
theorem mv_s1 {i : Nat} {go g : Nat → Nat} (h : ¬ go i = i) : nI (MV i go g) + nI (g i) = nI (MV (i + 1) go g) := by
  show nI (MV i go g) + nI (g i) = nI (MV i go g + (if go i = i then 0 else g i))
  rw [if_neg h, nI_add]
theorem e_shakeOnce {w h : Nat} (h1 : 2 ≤ w) (h2 : w ≤ 6) (h3 : 2 ≤ h) (h4 : h ≤ 6) (nu mo gr cm : Nat → Int32) {go g : Nat → Nat} (hgo : ∀ c, c < w * h → goN w h (nu 5) mo c = go c) (hg : ∀ k, k < w * h → gr k = nI (g k)) :
    ∃ gr' cm', f_X3_shakeOnce gr cm (nI w) (nI h) nu mo = some (nI (MV (w * h) go g), gr', cm') ∧ ∀ k, k < 36 → gr' k = nI (SH (w * h) go g k) := by
  have h36 := mul36 h2 h4
  refine ⟨va_cpy (cmN (w * h) go g cm) gr 0 0 36, cmN (w * h) go g cm, ?_, fun k hk => by rw [cpy7 hk]; exact if_pos hk⟩
  unfold f_X3_shakeOnce
  rw [e_fill (by decide), ob1_s, show (fun c => if c < 36 then (0 : Int32) else cm c) = cmN 0 go g cm from rfl]
  unfold f_X3_shakeOnce_13
  refine (ox_for (r := (cmN (w * h) go g cm, nI (MV (w * h) go g))) (fun y => (cmN (w * y) go g cm, nI (MV (w * y) go g), nI y)) h (by rw [Nat.mul_zero]; rfl) (by omega) ?_ ?_).trans ?_
  · intro y hy k
    show f_X3_shakeOnce_13b gr (nI w) (nI h) nu mo (cmN (w * y) go g cm) (nI (MV (w * y) go g)) (nI y) k = _
    unfold f_X3_shakeOnce_13b f_X3_shakeOnce_25
    rw [if_neg (nI_ge hy (by omega))]
    refine (ox_for (r := (cmN (w * (y + 1)) go g cm, nI (MV (w * (y + 1)) go g))) (fun x => (cmN (w * y + x) go g cm, nI (MV (w * y + x) go g), nI x)) w rfl (by omega) ?_ ?_).trans ?_
    · intro x hx k
      have hc := cl_lt hx hy
      have hl : go (w * y + x) < w * h := by rw [← hgo _ hc]; exact goN_lt h1 h2 h3 h4 hc
      show f_X3_shakeOnce_25b gr (nI w) (nI h) nu mo (nI y) (cmN (w * y + x) go g cm) (nI (MV (w * y + x) go g)) (nI x) k = k (cmN (w * y + x + 1) go g cm, nI (MV (w * y + x + 1) go g), nI (x + 1))
      unfold f_X3_shakeOnce_25b f_X3_shakeOnce_93
      rw [if_neg (nI_ge hx (by omega)), e_goal h1 h2 h3 h4 hx hy, ob1_s, hgo _ hc, nI_cell, if_pos (inb_nI (show go (w * y + x) < 36 by omega) (by decide)), if_pos (inb_nI (show w * y + x < 36 by omega) (by decide)), if_pos (inb_nI (show go (w * y + x) < 36 by omega) (by decide)), if_pos (inb_nI (show w * y + x < 36 by omega) (by decide)), nI_clamp (show go (w * y + x) < 2 ^ 31 by omega), nI_clamp (show w * y + x < 2 ^ 31 by omega), nI_1, cm_upd (by omega) (hg _ hc), hg _ hc]
      by_cases q : go (w * y + x) = w * y + x
      · rw [if_pos (show nI (go (w * y + x)) = nI (w * y + x) by rw [q]), mv_s0 q]
      · rw [if_neg (fun z => q ((nI_eq (by omega) (by omega)).mp z)), mv_s1 q]
    · intro k
      show f_X3_shakeOnce_25b gr (nI w) (nI h) nu mo (nI y) _ _ (nI w) k = _
      unfold f_X3_shakeOnce_25b
      rw [if_pos (nI_le (Nat.le_refl _) (by omega)), Nat.mul_add, Nat.mul_one]
    · show f_X3_shakeOnce_101 gr _ (nI w) (nI h) nu mo _ (nI y) k = _
      unfold f_X3_shakeOnce_101
      rw [nI_1]
  · intro k
    show f_X3_shakeOnce_13b gr (nI w) (nI h) nu mo _ _ (nI h) k = _
    unfold f_X3_shakeOnce_13b
    rw [if_pos (nI_le (Nat.le_refl _) (by omega))]
  · rfl
/-! the model's shake of the row that is tried -/
theorem e8_shakeT {sv : Nat → Int32} {w h : Nat} (h0 : sv 0 = nI w) (hh : sv 1 = nI h) (h1 : 2 ≤ w) (h2 : w ≤ 6) (h3 : 2 ≤ h) (h4 : h ≤ 6) (mo lie tr : Nat → Int32) {go g : Nat → Nat} (hgo : ∀ c, c < w * h → goN w h (sv 7) mo c = go c) (hg : ∀ k, k < w * h → tr k = nI (g k)) :
    ∃ li' tr', f_X8_shakesOnce_t sv mo lie tr 0 = some (nI (MV (w * h) go g), li', tr') ∧ ∀ k, k < w * h → tr' k = nI (SH (w * h) go g k) := by
  have h36 := mul36 h2 h4
  refine ⟨cmN (w * h) go g lie, fun c => if c < w * h then cmN (w * h) go g lie c else tr c, ?_, fun k hk => by show (if k < w * h then cmN (w * h) go g lie k else tr k) = _; rw [if_pos hk]; exact if_pos (by omega)⟩
  unfold f_X8_shakesOnce_t f_X8_shakesOnce_t_5
  refine (ox_for (r := cmN 0 go g lie) (fun i => ((fun c => if c < i then (0 : Int32) else lie c), nI i)) 36 (by rw [← lt0]; rfl) (by omega) ?_ ?_).trans ?_
  · intro i hi k
    show f_X8_shakesOnce_t_5b sv mo tr 0 0 _ (nI i) k = _
    unfold f_X8_shakesOnce_t_5b
    rw [if_neg (show ¬ (36 : Int32) ≤ nI i from nI_ge (a := i) (b := 36) hi (by omega)), if_pos (inb_nI hi (by decide)), nI_clamp (by omega), nI_1, upd_lt (g := fun _ => 0) rfl]
  · intro k
    show f_X8_shakesOnce_t_5b sv mo tr 0 0 _ (nI 36) k = _
    unfold f_X8_shakesOnce_t_5b
    rw [if_pos (show (36 : Int32) ≤ nI 36 by decide)]
    rfl
  · unfold f_X8_shakesOnce_t_26 f_X8_shakesOnce_t_29
    refine (ox_for (r := (cmN (w * h) go g lie, nI (MV (w * h) go g))) (fun i => (cmN i go g lie, nI (MV i go g), nI i)) (w * h) rfl (by omega) ?_ ?_).trans ?_
    · intro i hi k
      have hl : go i < w * h := by rw [← hgo _ hi]; exact goN_lt h1 h2 h3 h4 hi
      show f_X8_shakesOnce_t_29b sv mo tr 0 (cmN i go g lie) (nI (MV i go g)) (nI i) k = _
      unfold f_X8_shakesOnce_t_29b f_X8_shakesOnce_t_62 f_X8_shakesOnce_t_88
      rw [e8_cells h0 hh, ob1_s, if_neg (nI_ge hi (by omega)), e8_goesTo h0 hh h1 h2 h3 h4 hi, ob1_s, hgo _ hi, Int32.zero_add, nI_1]
      simp only [inb_nI (show i < 36 by omega) (show 36 < 2 ^ 31 by decide), if_true]
      by_cases q : go i = i
      · rw [show goM i (go i) = -1 from if_pos q, if_neg (show ¬ (0 : Int32) ≤ -1 by decide), if_neg (show ¬ (0 : Int32) ≤ -1 by decide), nI_clamp (by omega), mv_s0 q]
        have c := cm_upd (cm := lie) (show go i < 36 by omega) (hg i hi)
        rw [q] at c
        rw [c]
      · rw [show goM i (go i) = nI (go i) from if_neg q, if_pos (nI_pos' (by omega)), if_pos (inb_nI (show go i < 36 by omega) (by decide)), if_pos (inb_nI (show go i < 36 by omega) (by decide)), if_pos (nI_pos' (by omega)), nI_clamp (show go i < 2 ^ 31 by omega), nI_clamp (show i < 2 ^ 31 by omega), cm_upd (cm := lie) (show go i < 36 by omega) (hg i hi), hg i hi, mv_s1 q]
    · intro k
      show f_X8_shakesOnce_t_29b sv mo tr 0 _ _ (nI (w * h)) k = _
      unfold f_X8_shakesOnce_t_29b
      rw [e8_cells h0 hh, ob1_s, if_pos (nI_le (Nat.le_refl _) (by omega))]
    · show f_X8_shakesOnce_t_96 sv (cmN (w * h) go g lie) tr 0 (nI (MV (w * h) go g)) = _
      unfold f_X8_shakesOnce_t_96 f_X8_shakesOnce_t_99
      refine (ox_for (r := fun c => if c < w * h then cmN (w * h) go g lie c else tr c) (fun i => ((fun c => if c < i then cmN (w * h) go g lie c else tr c), nI i)) (w * h) (by rw [← lt0]; rfl) (by omega) ?_ ?_).trans ?_
      · intro i hi k
        show f_X8_shakesOnce_t_99b sv (cmN (w * h) go g lie) 0 (nI (MV (w * h) go g)) _ (nI i) k = _
        unfold f_X8_shakesOnce_t_99b
        rw [e8_cells h0 hh, ob1_s, if_neg (nI_ge hi (by omega)), Int32.zero_add, if_pos (inb_nI (show i < 36 by omega) (by decide)), if_pos (inb_nI (show i < 36 by omega) (by decide)), nI_clamp (by omega), nI_1, upd_lt (g := cmN (w * h) go g lie) rfl]
      · intro k
        show f_X8_shakesOnce_t_99b sv (cmN (w * h) go g lie) 0 (nI (MV (w * h) go g)) _ (nI (w * h)) k = _
        unfold f_X8_shakesOnce_t_99b
        rw [e8_cells h0 hh, ob1_s, if_pos (nI_le (Nat.le_refl _) (by omega))]
      · rfl
/-! the model's shake of its own row -/
theorem e8_shakeS {sv : Nat → Int32} {w h : Nat} (h0 : sv 0 = nI w) (hh : sv 1 = nI h) (h1 : 2 ≤ w) (h2 : w ≤ 6) (h3 : 2 ≤ h) (h4 : h ≤ 6) (mo lie : Nat → Int32) {go g : Nat → Nat} (hgo : ∀ c, c < w * h → goN w h (sv 7) mo c = go c) (hg : ∀ k, k < w * h → sv (45 + k) = nI (g k)) :
    ∃ li' sv', f_X8_shakesOnce_s sv mo lie 45 = some (nI (MV (w * h) go g), sv', li') ∧ (∀ k, k < w * h → sv' (45 + k) = nI (SH (w * h) go g k)) ∧ ∀ k, k < 45 → sv' k = sv k := by
  have h36 := mul36 h2 h4
  have q0 : ∀ i, (fun c => if 45 ≤ c ∧ c < 45 + i then cmN (w * h) go g lie (c - 45) else sv c) 0 = nI w := fun i => (if_neg (by omega)).trans h0
  have q1 : ∀ i, (fun c => if 45 ≤ c ∧ c < 45 + i then cmN (w * h) go g lie (c - 45) else sv c) 1 = nI h := fun i => (if_neg (by omega)).trans hh
  refine ⟨cmN (w * h) go g lie, fun c => if 45 ≤ c ∧ c < 45 + w * h then cmN (w * h) go g lie (c - 45) else sv c, ?_, fun k hk => ?_, fun k hk => if_neg (by omega)⟩
  · unfold f_X8_shakesOnce_s f_X8_shakesOnce_s_5
    refine (ox_for (r := cmN 0 go g lie) (fun i => ((fun c => if c < i then (0 : Int32) else lie c), nI i)) 36 (by rw [← lt0]; rfl) (by omega) ?_ ?_).trans ?_
    · intro i hi k
      show f_X8_shakesOnce_s_5b sv mo 45 0 _ (nI i) k = _
      unfold f_X8_shakesOnce_s_5b
      rw [if_neg (show ¬ (36 : Int32) ≤ nI i from nI_ge (a := i) (b := 36) hi (by omega)), if_pos (inb_nI hi (by decide)), nI_clamp (by omega), nI_1, upd_lt (g := fun _ => 0) rfl]
    · intro k
      show f_X8_shakesOnce_s_5b sv mo 45 0 _ (nI 36) k = _
      unfold f_X8_shakesOnce_s_5b
      rw [if_pos (show (36 : Int32) ≤ nI 36 by decide)]
      rfl
    · unfold f_X8_shakesOnce_s_26 f_X8_shakesOnce_s_29
      refine (ox_for (r := (cmN (w * h) go g lie, nI (MV (w * h) go g))) (fun i => (cmN i go g lie, nI (MV i go g), nI i)) (w * h) rfl (by omega) ?_ ?_).trans ?_
      · intro i hi k
        have hl : go i < w * h := by rw [← hgo _ hi]; exact goN_lt h1 h2 h3 h4 hi
        show f_X8_shakesOnce_s_29b sv mo 45 (cmN i go g lie) (nI (MV i go g)) (nI i) k = _
        unfold f_X8_shakesOnce_s_29b f_X8_shakesOnce_s_62 f_X8_shakesOnce_s_88
        rw [e8_cells h0 hh, ob1_s, if_neg (nI_ge hi (by omega)), e8_goesTo h0 hh h1 h2 h3 h4 hi, ob1_s, hgo _ hi, show (45 : Int32) + nI i = nI (45 + i) from nI_add 45 i, nI_1]
        simp only [inb_nI (show i < 36 by omega) (show 36 < 2 ^ 31 by decide), inb_nI (show 45 + i < 81 by omega) (show 81 < 2 ^ 31 by decide), if_true]
        by_cases q : go i = i
        · rw [show goM i (go i) = -1 from if_pos q, if_neg (show ¬ (0 : Int32) ≤ -1 by decide), if_neg (show ¬ (0 : Int32) ≤ -1 by decide), nI_clamp (show i < 2 ^ 31 by omega), nI_clamp (show 45 + i < 2 ^ 31 by omega), mv_s0 q]
          have c := cm_upd (cm := lie) (show go i < 36 by omega) (hg i hi)
          rw [q] at c
          rw [c]
        · rw [show goM i (go i) = nI (go i) from if_neg q, if_pos (nI_pos' (by omega)), if_pos (inb_nI (show go i < 36 by omega) (by decide)), if_pos (inb_nI (show go i < 36 by omega) (by decide)), if_pos (nI_pos' (by omega)), nI_clamp (show go i < 2 ^ 31 by omega), nI_clamp (show 45 + i < 2 ^ 31 by omega), cm_upd (cm := lie) (show go i < 36 by omega) (hg i hi), hg i hi, mv_s1 q]
      · intro k
        show f_X8_shakesOnce_s_29b sv mo 45 _ _ (nI (w * h)) k = _
        unfold f_X8_shakesOnce_s_29b
        rw [e8_cells h0 hh, ob1_s, if_pos (nI_le (Nat.le_refl _) (by omega))]
      · show f_X8_shakesOnce_s_96 sv (cmN (w * h) go g lie) 45 (nI (MV (w * h) go g)) = _
        unfold f_X8_shakesOnce_s_96 f_X8_shakesOnce_s_99
        refine (ox_for (r := fun c => if 45 ≤ c ∧ c < 45 + w * h then cmN (w * h) go g lie (c - 45) else sv c) (fun i => ((fun c => if 45 ≤ c ∧ c < 45 + i then cmN (w * h) go g lie (c - 45) else sv c), nI i)) (w * h) (by rw [seg0]; rfl) (by omega) ?_ ?_).trans ?_
        · intro i hi k
          show f_X8_shakesOnce_s_99b (cmN (w * h) go g lie) 45 (nI (MV (w * h) go g)) (fun c => if 45 ≤ c ∧ c < 45 + i then cmN (w * h) go g lie (c - 45) else sv c) (nI i) k = _
          unfold f_X8_shakesOnce_s_99b
          rw [e8_cells (sv := fun c => if 45 ≤ c ∧ c < 45 + i then cmN (w * h) go g lie (c - 45) else sv c) (q0 i) (q1 i), ob1_s, if_neg (nI_ge hi (by omega)), show (45 : Int32) + nI i = nI (45 + i) from nI_add 45 i, if_pos (inb_nI (show i < 36 by omega) (by decide)), if_pos (inb_nI (show 45 + i < 81 by omega) (by decide)), nI_clamp (show i < 2 ^ 31 by omega), nI_clamp (show 45 + i < 2 ^ 31 by omega), nI_1, upd_seg rfl]
        · intro k
          show f_X8_shakesOnce_s_99b (cmN (w * h) go g lie) 45 (nI (MV (w * h) go g)) (fun c => if 45 ≤ c ∧ c < 45 + w * h then cmN (w * h) go g lie (c - 45) else sv c) (nI (w * h)) k = _
          unfold f_X8_shakesOnce_s_99b
          rw [e8_cells (sv := fun c => if 45 ≤ c ∧ c < 45 + w * h then cmN (w * h) go g lie (c - 45) else sv c) (q0 _) (q1 _), ob1_s, if_pos (nI_le (Nat.le_refl _) (by omega))]
        · rfl
  · show (if 45 ≤ 45 + k ∧ 45 + k < 45 + w * h then cmN (w * h) go g lie (45 + k - 45) else sv (45 + k)) = _
    rw [if_pos (by omega), show 45 + k - 45 = k by omega]
    exact if_pos (by omega)
