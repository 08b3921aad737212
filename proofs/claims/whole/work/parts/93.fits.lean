/-! which periods fit what was seen -/
def okI (N : Nat) (lim : Int32) (mo cs ws : Nat → Int32) (i : Nat) : Int32 := if nI N ≤ cs i then 0 else if sL_ lim mo (cs i).toNatClampNeg = (if ws i = 1 then 1 else 0) then 1 else 0
def ftF (N : Nat) (lim : Int32) (mo cs ws : Nat → Int32) (i : Nat) (t : Int32) : Int32 := if t = 0 then 0 else okI N lim mo cs ws i
def ftN (N : Nat) (lim : Int32) (mo cs ws : Nat → Int32) (j : Nat) : Int32 := itN (ftF N lim mo cs ws) 1 j
theorem okI_01 (N : Nat) (lim : Int32) (mo cs ws : Nat → Int32) (i : Nat) : okI N lim mo cs ws i = 0 ∨ okI N lim mo cs ws i = 1 := by
  unfold okI
  by_cases q : nI N ≤ cs i
  · rw [if_pos q]; exact Or.inl rfl
  · rw [if_neg q]
    by_cases z : sL_ lim mo (cs i).toNatClampNeg = (if ws i = 1 then 1 else 0)
    · rw [if_pos z]; exact Or.inr rfl
    · rw [if_neg z]; exact Or.inl rfl
theorem ft_all {N : Nat} {lim : Int32} {mo cs ws : Nat → Int32} : ∀ n, (∀ i, i < n → okI N lim mo cs ws i = 1) → ftN N lim mo cs ws n = 1
  | 0, _ => rfl
  | n + 1, h => by
    show ftF N lim mo cs ws n (ftN N lim mo cs ws n) = 1
    unfold ftF
    rw [ft_all n (fun i hi => h i (by omega)), if_neg (by decide), h n (by omega)]
theorem ft_bad {N : Nat} {lim : Int32} {mo cs ws : Nat → Int32} {n : Nat} (h : okI N lim mo cs ws n = 0) : ∀ d, ftN N lim mo cs ws (n + 1 + d) = 0
  | 0 => by
    show ftF N lim mo cs ws n (ftN N lim mo cs ws n) = 0
    unfold ftF
    by_cases q : ftN N lim mo cs ws n = 0
    · rw [if_pos q]
    · rw [if_neg q, h]
  | d + 1 => by
    show ftF N lim mo cs ws (n + 1 + d) (ftN N lim mo cs ws (n + 1 + d)) = 0
    unfold ftF
    rw [ft_bad h d, if_pos rfl]
theorem ft_cases {N : Nat} {lim : Int32} {mo cs ws : Nat → Int32} (j : Nat) : ∃ n, n ≤ j ∧ (∀ i, i < n → okI N lim mo cs ws i = 1) ∧ ((n = j ∧ ftN N lim mo cs ws j = 1) ∨ (n < j ∧ okI N lim mo cs ws n = 0 ∧ ftN N lim mo cs ws j = 0)) := by
  obtain ⟨n, h1, h2, h3⟩ := li_ex (fun i => okI N lim mo cs ws i = 0) j
  have h2' : ∀ i, i < n → okI N lim mo cs ws i = 1 := fun i hi => by
    rcases okI_01 N lim mo cs ws i with e | e
    · exact absurd e (h2 i hi)
    · exact e
  refine ⟨n, h1, h2', ?_⟩
  by_cases q : n = j
  · left
    subst q
    exact ⟨rfl, ft_all n h2'⟩
  · right
    have h := h3 (by omega)
    refine ⟨by omega, h, ?_⟩
    have e := ft_bad h (j - (n + 1))
    rw [show n + 1 + (j - (n + 1)) = j by omega] at e
    exact e
theorem ft_01 (N : Nat) (lim : Int32) (mo cs ws : Nat → Int32) (j : Nat) : ftN N lim mo cs ws j = 0 ∨ ftN N lim mo cs ws j = 1 := by
  obtain ⟨n, _, _, ⟨_, e⟩ | ⟨_, _, e⟩⟩ := ft_cases (N := N) (lim := lim) (mo := mo) (cs := cs) (ws := ws) j
  · exact Or.inr e
  · exact Or.inl e
theorem ft_congr {N j : Nat} (hN : N ≤ 36) {lim : Int32} {mo mp cs ws c8 i8 : Nat → Int32} (hm : ∀ c, c < N → mo c = mp c) (hc : ∀ k, k < j → (∃ c, c < 36 ∧ cs k = nI c) ∧ c8 k = cs k ∧ i8 k = ws k) : ftN N lim mo cs ws j = ftN N lim mp c8 i8 j :=
  itN_congr j (fun k hk t => by
    obtain ⟨⟨c, c1, c2⟩, c3, c4⟩ := hc k hk
    unfold ftF okI
    rw [c3, c4, c2, nI_clamp (by omega)]
    by_cases q : nI N ≤ nI c
    · rw [if_pos q, if_pos q]
    · have hcN : c < N := by
        have := (nI_leI (a := N) (b := c) (by omega) (by omega))
        rcases Nat.lt_or_ge c N with y | y
        · exact y
        · exact absurd (this.mpr y) q
      rw [if_neg q, if_neg q, sL_eq (hm c hcN)])
theorem e_fits {w h j : Nat} (h36 : w * h ≤ 36) (hj : j ≤ 6) {nu mo cs ws : Nat → Int32} (hc : ∀ k, k < j → ∃ c, c < 36 ∧ cs k = nI c) : f_X4_fits (nI j) cs ws (nI w) (nI h) nu mo = some (ftN (w * h) (nu 5) mo cs ws j) := by
  obtain ⟨n, hn, hok, hend⟩ := ft_cases (N := w * h) (lim := nu 5) (mo := mo) (cs := cs) (ws := ws) j
  have hs : ∀ i, i < j → ∀ k, f_X4_fits_2b (nI j) cs ws (nI w) (nI h) nu mo (nI i) k = if okI (w * h) (nu 5) mo cs ws i = 1 then k (nI (i + 1)) else some (Sum.inr ()) := by
    intro i hi k
    obtain ⟨c, c1, c2⟩ := hc i hi
    unfold f_X4_fits_2b f_X4_fits_49 okI
    rw [if_neg (nI_ge hi (by omega)), e_cells, ob1_s]
    simp only [inb_nI (show i < 6 by omega) (show 6 < 2 ^ 31 by decide), if_true]
    rw [nI_clamp (by omega), c2]
    by_cases q : nI (w * h) ≤ nI c
    · rw [if_pos q, if_pos q, if_neg (show ¬ (0 : Int32) = 1 by decide)]
    · rw [if_neg q, if_neg q, e_isStill nu mo c1, ob1_s, stB_L, nI_clamp (by omega), nI_1]
      by_cases z : ws i = 1
      · rw [if_pos z, if_pos z]
        by_cases y : sL_ (nu 5) mo c = 1
        · rw [if_pos y, if_pos y, if_pos rfl]
        · rw [if_neg y, if_neg y, if_neg (show ¬ (0 : Int32) = 1 by decide)]
      · rw [if_neg z, if_neg z]
        by_cases y : sL_ (nu 5) mo c = 0
        · rw [if_pos y, if_pos y, if_pos rfl]
        · rw [if_neg y, if_neg y, if_neg (show ¬ (0 : Int32) = 1 by decide)]
  unfold f_X4_fits f_X4_fits_2
  rcases hend with ⟨e, f⟩ | ⟨e, g, f⟩
  · subst e
    refine (ox_for (r := Sum.inl ()) (fun i => nI i) n rfl (by omega) ?_ ?_).trans ?_
    · intro i hi k
      show f_X4_fits_2b (nI n) cs ws (nI w) (nI h) nu mo (nI i) k = k (nI (i + 1))
      rw [hs i hi k, if_pos (hok i hi)]
    · intro k
      show f_X4_fits_2b (nI n) cs ws (nI w) (nI h) nu mo (nI n) k = _
      unfold f_X4_fits_2b
      rw [if_pos (nI_le (Nat.le_refl _) (by omega))]
    · rw [f]
      exact Eq.refl _
  · refine (ox_for (r := Sum.inr ()) (fun i => nI i) n rfl (by omega) ?_ ?_).trans ?_
    · intro i hi k
      show f_X4_fits_2b (nI j) cs ws (nI w) (nI h) nu mo (nI i) k = k (nI (i + 1))
      rw [hs i (by omega) k, if_pos (hok i hi)]
    · intro k
      show f_X4_fits_2b (nI j) cs ws (nI w) (nI h) nu mo (nI n) k = _
      rw [hs n e k, if_neg (by rw [g]; decide)]
    · rw [f]
      exact Eq.refl _
theorem e8_finds49 {w h j : Nat} {sv : Nat → Int32} (h0 : sv 0 = nI w) (hh : sv 1 = nI h) (h36 : w * h ≤ 36) (hj : j ≤ 6) {mo cs ws : Nat → Int32} (hc : ∀ k, k < j → ∃ c, c < 36 ∧ cs k = nI c) (pe lp : Int32) (a b t l ofn : Nat → Int32) (p : Int32) (k : (Int32 × Int32 × (Nat → Int32) × (Nat → Int32) × (Nat → Int32) × (Nat → Int32) × (Nat → Int32) × (Nat → Int32) × Int32) → Option (Int32 × Int32 × (Nat → Int32) × (Nat → Int32) × (Nat → Int32) × (Nat → Int32) × (Nat → Int32) × (Nat → Int32))) :
    f_X8_finds_49 (nI j) pe lp sv cs ws a b t l mo ofn p 1 0 k = f_X8_finds_114 (nI j) pe lp sv cs ws a b t l mo ofn p (ftN (w * h) (sv 7) mo cs ws j) k := by
  obtain ⟨n, hn, hok, hend⟩ := ft_cases (N := w * h) (lim := sv 7) (mo := mo) (cs := cs) (ws := ws) j
  have hs : ∀ i, i < j → ∀ k, f_X8_finds_49b (nI j) pe lp sv cs ws a b t l mo ofn p 1 (nI i) k = k (okI (w * h) (sv 7) mo cs ws i, nI (i + 1)) := by
    intro i hi k
    obtain ⟨c, c1, c2⟩ := hc i hi
    unfold f_X8_finds_49b f_X8_finds_106 f_X8_finds_99 f_X8_finds_106 f_X8_finds_107 okI
    rw [if_neg (nI_ge hi (by omega)), if_neg (show ¬ (1 : Int32) = 0 by decide), e8_cells h0 hh, ob1_s]
    simp only [inb_nI (show i < 6 by omega) (show 6 < 2 ^ 31 by decide), if_true]
    rw [nI_clamp (by omega), c2, nI_1]
    by_cases q : nI (w * h) ≤ nI c
    · rw [if_pos q, if_pos q]
    · rw [if_neg q, if_neg q, e8_isStill sv mo c1, ob1_s, nI_clamp (by omega)]
      by_cases z : ws i = 1
      · rw [if_pos z, if_pos z]
        by_cases y : sL_ (sv 7) mo c = 1
        · rw [if_pos y, if_pos y]
        · rw [if_neg y, if_neg y]
      · rw [if_neg z, if_neg z]
        by_cases y : sL_ (sv 7) mo c = 0
        · rw [if_pos y, if_pos y]
        · rw [if_neg y, if_neg y]
  unfold f_X8_finds_49
  rcases hend with ⟨e, f⟩ | ⟨e, g, f⟩
  · subst e
    rw [f]
    refine (ox_for (r := (1 : Int32)) (fun i => ((1 : Int32), nI i)) n rfl (by omega) ?_ ?_)
    · intro i hi k
      show f_X8_finds_49b (nI n) pe lp sv cs ws a b t l mo ofn p 1 (nI i) k = k (1, nI (i + 1))
      rw [hs i hi k, hok i hi]
    · intro k
      show f_X8_finds_49b (nI n) pe lp sv cs ws a b t l mo ofn p 1 (nI n) k = _
      unfold f_X8_finds_49b
      rw [if_pos (nI_le (Nat.le_refl _) (by omega))]
  · rw [f]
    refine (ox_for (r := (0 : Int32)) (fun i => ((if i ≤ n then (1 : Int32) else 0), nI i)) (n + 1) (by rw [if_pos (Nat.zero_le _)]; rfl) (by omega) ?_ ?_)
    · intro i hi k
      show f_X8_finds_49b (nI j) pe lp sv cs ws a b t l mo ofn p (if i ≤ n then (1 : Int32) else 0) (nI i) k = k ((if i + 1 ≤ n then (1 : Int32) else 0), nI (i + 1))
      rw [if_pos (show i ≤ n by omega), hs i (by omega) k]
      by_cases y : i = n
      · rw [if_neg (by omega), y, g]
      · rw [if_pos (by omega), hok i (by omega)]
    · intro k
      show f_X8_finds_49b (nI j) pe lp sv cs ws a b t l mo ofn p (if n + 1 ≤ n then (1 : Int32) else 0) (nI (n + 1)) k = _
      rw [if_neg (by omega)]
      unfold f_X8_finds_49b
      by_cases y : nI j ≤ nI (n + 1)
      · rw [if_pos y]
      · rw [if_neg y, if_pos rfl]
/-! how many periods fit, the least of them, by how many a cell is still -/
def fqN (w h : Nat) (nu cs ws : Nat → Int32) (dr j i : Nat) : Int32 := ftN (w * h) (nu 5) (MOT w h nu (2 + i) dr) cs ws j
def pcN (fq : Nat → Int32) (n : Nat) : Nat := nsum (fun i => if fq i = 0 then 0 else 1) n
def lpN (fq : Nat → Int32) (n : Nat) : Int32 := itN (fun i t => if fq i = 0 then t else if t = -9 then nI (2 + i) else t) (-9) n
def ofN (fq : Nat → Int32) (st : Nat → Nat → Int32) (c n : Nat) : Nat := nsum (fun i => if fq i = 0 then 0 else if st i c = 0 then 0 else 1) n
theorem lp_pc (fq : Nat → Int32) : ∀ n, n ≤ 19 → (pcN fq n = 0 ∧ lpN fq n = -9) ∨ (0 < pcN fq n ∧ ¬ lpN fq n = -9)
  | 0, _ => Or.inl ⟨rfl, rfl⟩
  | n + 1, hn => by
    show (pcN fq n + (if fq n = 0 then 0 else 1) = 0 ∧ (if fq n = 0 then lpN fq n else if lpN fq n = -9 then nI (2 + n) else lpN fq n) = -9) ∨ (0 < pcN fq n + (if fq n = 0 then 0 else 1) ∧ ¬ (if fq n = 0 then lpN fq n else if lpN fq n = -9 then nI (2 + n) else lpN fq n) = -9)
    by_cases q : fq n = 0
    · rw [if_pos q, if_pos q, Nat.add_zero]
      exact lp_pc fq n (by omega)
    · rw [if_neg q, if_neg q]
      right
      refine ⟨by omega, ?_⟩
      by_cases z : lpN fq n = -9
      · rw [if_pos z]
        intro y
        have a := congrArg Int32.toInt y
        rw [nI_toInt (by omega)] at a
        have : (-9 : Int32).toInt = -9 := by decide
        omega
      · rw [if_neg z]; exact z
theorem pc_le (fq : Nat → Int32) : ∀ n, pcN fq n ≤ n
  | 0 => Nat.le_refl _
  | n + 1 => by
    have := pc_le fq n
    show pcN fq n + (if fq n = 0 then 0 else 1) ≤ n + 1
    by_cases q : fq n = 0
    · rw [if_pos q]; omega
    · rw [if_neg q]; omega
theorem of_le (fq : Nat → Int32) (st : Nat → Nat → Int32) (c : Nat) (n : Nat) : ofN fq st c n ≤ pcN fq n :=
  nsum_le n (fun k _ => by
    by_cases q : fq k = 0
    · rw [if_pos q, if_pos q]; exact Nat.le_refl _
    · rw [if_neg q, if_neg q]
      by_cases z : st k c = 0
      · rw [if_pos z]; omega
      · rw [if_neg z]; exact Nat.le_refl _)
