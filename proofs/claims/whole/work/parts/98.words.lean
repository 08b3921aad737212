/-! words on both sides -/
def wls : List (List Nat) := [[5, 4, 7, 5], [19, 20, 9, 6, 6], [12, 15, 19, 19], [6, 15, 18, 3, 5], [16, 5, 18, 9, 15, 4], [12, 9, 13, 9, 20], [16, 12, 1, 20, 5], [4, 18, 9, 22, 5], [18, 15, 23]]
def wl (z i : Nat) : Nat := (wls.getD z []).getD i 0
def wn (z : Nat) : Nat := stL.getD z 0
theorem wl_ok : ∀ z : Nat, z < 9 → ∀ i : Nat, i < wn z → 1 ≤ wl z i ∧ wl z i ≤ 26 ∧ strC z i = nI (wl z i + 96) := by decide +kernel
theorem wn_le : ∀ z : Nat, z < 9 → wn z ≤ 6 := by decide +kernel
theorem cd_inj {t u : Nat → Nat} : ∀ L M, (∀ i, i < L → 1 ≤ t i ∧ t i ≤ 26) → (∀ i, i < M → 1 ≤ u i ∧ u i ≤ 26) → cdN t L = cdN u M → L = M ∧ ∀ i, i < L → t i = u i
  | 0, 0, _, _, _ => ⟨rfl, fun i hi => by omega⟩
  | 0, M + 1, _, hu, e => by
    have e' : 0 = 32 * cdN u M + u M := e
    have := hu M (by omega)
    omega
  | L + 1, 0, ht, _, e => by
    have e' : 32 * cdN t L + t L = 0 := e
    have := ht L (by omega)
    omega
  | L + 1, M + 1, ht, hu, e => by
    have e' : 32 * cdN t L + t L = 32 * cdN u M + u M := e
    have a := ht L (by omega)
    have b := hu M (by omega)
    have e1 : cdN t L = cdN u M := by omega
    have e2 : t L = u M := by omega
    obtain ⟨i1, i2⟩ := cd_inj L M (fun i hi => ht i (by omega)) (fun i hi => hu i (by omega)) e1
    subst i1
    refine ⟨rfl, fun i hi => ?_⟩
    by_cases y : i = L
    · rw [y]; exact e2
    · exact i2 i (by omega)
def WD (t : Nat → Nat) (L z : Nat) : Prop := L = wn z ∧ ∀ i, i < L → t i = wl z i
def wcL (z : Nat) : Int64 := lN (cdN (wl z) (wn z))
theorem wc_lt : ∀ z : Nat, z < 9 → cdN (wl z) (wn z) < 2 ^ 31 := by decide +kernel
theorem wc_ne : ∀ z : Nat, z < 9 → ∀ y : Nat, y < 9 → cdN (wl z) (wn z) = cdN (wl y) (wn y) → z = y := by decide +kernel
theorem lt_wd {t : Nat → Nat} {L z : Nat} (hz : z < 9) (ht : ∀ i, i < L → 1 ≤ t i ∧ t i ≤ 26) : ltN t L = wcL z ↔ WD t L z := by
  have hc := wc_lt z hz
  unfold ltN wcL
  constructor
  · intro h
    by_cases q : L ≤ 9
    · rw [if_pos q] at h
      have b := cd_lt (t := t) L (fun i hi => by have := ht i hi; omega)
      have b2 : 32 ^ L ≤ 32 ^ 9 := Nat.pow_le_pow_right (by omega) q
      have b3 : (32 : Nat) ^ 9 < 2 ^ 63 := by decide
      have e := (pk_lEQ (a := cdN t L) (b := cdN (wl z) (wn z)) (by omega) (by omega)).mp h
      obtain ⟨e1, e2⟩ := cd_inj L (wn z) ht (fun i hi => ⟨(wl_ok z hz i hi).1, (wl_ok z hz i hi).2.1⟩) e
      exact ⟨e1, e2⟩
    · rw [if_neg q] at h
      have e := congrArg Int64.toInt h
      rw [pk_lT (by omega)] at e
      have : (-1 : Int64).toInt = -1 := by decide
      omega
  · rintro ⟨h1, h2⟩
    have := wn_le z hz
    rw [if_pos (by omega), ← h1]
    exact congrArg lN (itN_congr L (fun k hk s => by rw [h2 k hk]))
theorem wd_ne {t : Nat → Nat} {L z y : Nat} (hz : z < 9) (hy : y < 9) (a : WD t L z) (b : WD t L y) : z = y := by
  obtain ⟨a1, a2⟩ := a
  obtain ⟨b1, b2⟩ := b
  refine wc_ne z hz y hy ?_
  rw [← a1, ← b1]
  exact itN_congr L (fun k hk s => by rw [← a2 k hk, b2 k hk])
theorem tok_w {ch : Nat → Nat} {n p b e : Nat} (hT : TOK ch n p 1 b e) : b < n ∧ ∀ j, b ≤ j → j < e → 97 ≤ ch j ∧ ch j ≤ 122 := by
  obtain ⟨_, _, _, _, ⟨_, r2, _⟩ | ⟨r1, r2, r3, r4, ⟨_, a1, a2⟩ | ⟨y, _⟩⟩⟩ := hT
  · omega
  · refine ⟨r1, fun j j1 j2 => ?_⟩
    have := a1 j j1 j2
    rcases kd_cases (ch j) with ⟨_, y⟩ | ⟨y, _⟩ | ⟨y, _⟩ | ⟨y, _⟩
    · exact y
    · omega
    · omega
    · omega
  · omega
theorem e_spelled {ch : Nat → Nat} {n p K b e z : Nat} {lt tx : Nat → Int32} (hz : z < 9) (hC : CHR ch n lt tx) (hT : TOK ch n p K b e) :
    (K = 1 → WD (fun i => ch (b + i) - 96) (e - b) z → f_X6_isSpelled (nI K) (nI b) (nI e) lt z = some 1) ∧ (¬ (K = 1 ∧ WD (fun i => ch (b + i) - 96) (e - b) z) → f_X6_isSpelled (nI K) (nI b) (nI e) lt z = some 0) := by
  obtain ⟨hn, hc, _⟩ := hC
  obtain ⟨t1, t2, t3, t4, t5⟩ := tok_b hT
  unfold f_X6_isSpelled f_X6_isSpelled_24
  rw [pk_sub t2, show strN z = nI (wn z) from rfl]
  have w6 := wn_le z hz
  by_cases k1 : K = 1
  · subst k1
    obtain ⟨hb, hw⟩ := tok_w hT
    rw [if_pos (show nI 1 = 1 by decide)]
    by_cases q : e - b = wn z
    · rw [if_pos (by rw [q])]
      have hs : ∀ i, i < wn z → ∀ k, f_X6_isSpelled_28b (nI b) lt z (nI i) k = if ch (b + i) - 96 = wl z i then k (nI (i + 1)) else some (Sum.inr ()) := by
        intro i hi k
        obtain ⟨_, _, l3⟩ := wl_ok z hz i hi
        have hq := hw (b + i) (by omega) (by omega)
        have hx := hc (b + i) (by omega)
        unfold f_X6_isSpelled_28b
        rw [show strN z = nI (wn z) from rfl, if_neg (nI_ge hi (by omega)), nI_add, if_pos (inb_nI (show b + i < 120 by omega) (by decide)), if_pos (show inb (nI i) (stL.getD z 0) = true from inb_nI hi (show wn z < 2 ^ 31 by omega)), nI_clamp (show b + i < 2 ^ 31 by omega), nI_clamp (show i < 2 ^ 31 by omega), hx.1, l3, nI_1]
        have l4 := (wl_ok z hz i hi).2.1
        by_cases y : ch (b + i) - 96 = wl z i
        · rw [if_pos y, if_pos (congrArg nI (show ch (b + i) = wl z i + 96 by omega))]
        · rw [if_neg y, if_neg (fun u => y (by have := (nI_eq (a := ch (b + i)) (b := wl z i + 96) (by omega) (by omega)).mp u; omega))]
      obtain ⟨m, m1, m2, m3⟩ := li_ex (fun i => ¬ ch (b + i) - 96 = wl z i) (wn z)
      have m2 : ∀ i, i < m → ch (b + i) - 96 = wl z i := fun i hi => Classical.not_not.mp (m2 i hi)
      unfold f_X6_isSpelled_28
      by_cases y : m = wn z
      · have hr : obx (vm_it (f_X6_isSpelled_28s (nI b) lt z) FU 0) (Sum.elim (un0 (f_X6_isSpelled_63)) (un0 (f_X6_isSpelled_55))) = some 1 := by
          refine (ox_for (r := Sum.inl ()) (fun i => nI i) (wn z) rfl (by omega) ?_ ?_).trans ?_
          · intro i hi k
            show f_X6_isSpelled_28b (nI b) lt z (nI i) k = k (nI (i + 1))
            rw [hs i hi k, if_pos (m2 i (by omega))]
          · intro k
            show f_X6_isSpelled_28b (nI b) lt z (nI (wn z)) k = _
            unfold f_X6_isSpelled_28b
            rw [show strN z = nI (wn z) from rfl, if_pos (nI_le (Nat.le_refl _) (by omega))]
          · exact Eq.refl _
        exact ⟨fun _ _ => hr, fun u => absurd ⟨rfl, q, fun i hi => m2 i (by omega)⟩ u⟩
      · have hm := m3 (by omega)
        have hr : obx (vm_it (f_X6_isSpelled_28s (nI b) lt z) FU 0) (Sum.elim (un0 (f_X6_isSpelled_63)) (un0 (f_X6_isSpelled_55))) = some 0 := by
          refine (ox_for (r := Sum.inr ()) (fun i => nI i) m rfl (by omega) ?_ ?_).trans ?_
          · intro i hi k
            show f_X6_isSpelled_28b (nI b) lt z (nI i) k = k (nI (i + 1))
            rw [hs i (by omega) k, if_pos (m2 i hi)]
          · intro k
            show f_X6_isSpelled_28b (nI b) lt z (nI m) k = _
            rw [hs m (by omega) k, if_neg hm]
          · exact Eq.refl _
        exact ⟨fun _ u => absurd (u.2 m (by omega)) hm, fun _ => hr⟩
    · rw [if_neg (fun u => q ((nI_eq (by omega) (by omega)).mp u))]
      exact ⟨fun _ u => absurd u.1 q, fun _ => rfl⟩
  · rw [if_neg (show ¬ nI K = 1 from fun u => k1 ((nI_eq (a := K) (b := 1) (by omega) (by omega)).mp u))]
    exact ⟨fun u => absurd u k1, fun _ => rfl⟩
theorem e_spell_d : ∀ z : Fin 9, f_X5_spelling (nI z.val) = some z.val := by decide +kernel
theorem e_word {ch : Nat → Nat} {n p K b e : Nat} {lt tx : Nat → Int32} (hC : CHR ch n lt tx) (hT : TOK ch n p K b e) :
    ∃ m, m ≤ 9 ∧ f_X5_wordHere (nI K) (nI b) (nI e) lt = some (if m < 9 then nI m else -1) ∧ (m < 9 → K = 1) ∧ (K = 1 → ∀ z, z < 9 → (lg_cmp (LTK ch K b e) (wcL z) = 0 ↔ z = m)) := by
  obtain ⟨m, m1, m2, m3⟩ := li_ex (fun z => K = 1 ∧ WD (fun i => ch (b + i) - 96) (e - b) z) 9
  refine ⟨m, m1, ?_, fun u => (m3 u).1, fun k1 z hz => ?_⟩
  · have hs : ∀ z, z < 9 → ∀ r, f_X6_isSpelled (nI K) (nI b) (nI e) lt z = some r → ∀ k, f_X5_wordHere_2b (nI K) (nI b) (nI e) lt (nI z) k = if r = 0 then k (nI (z + 1)) else some (Sum.inr (nI z)) := by
      intro z hz r hr k
      unfold f_X5_wordHere_2b
      rw [if_neg (show ¬ (8 : Int32) < nI z from nI_nlt (a := 8) (b := z) (by omega) (by omega)), e_spell_d ⟨z, hz⟩, ob1_s, hr, ob1_s, nI_1]
    unfold f_X5_wordHere f_X5_wordHere_2
    by_cases y : m < 9
    · obtain ⟨k1, hw⟩ := m3 y
      rw [if_pos y]
      refine (ox_for (r := Sum.inr (nI m)) (fun i => nI i) m rfl (by omega) ?_ ?_).trans ?_
      · intro i hi k
        show f_X5_wordHere_2b (nI K) (nI b) (nI e) lt (nI i) k = k (nI (i + 1))
        rw [hs i (by omega) 0 ((e_spelled (by omega) hC hT).2 (m2 i hi)) k, if_pos rfl]
      · intro k
        show f_X5_wordHere_2b (nI K) (nI b) (nI e) lt (nI m) k = _
        rw [hs m y 1 ((e_spelled y hC hT).1 k1 hw) k, if_neg (by decide)]
      · exact Eq.refl _
    · rw [if_neg y]
      refine (ox_for (r := Sum.inl ()) (fun i => nI i) 9 rfl (by omega) ?_ ?_).trans ?_
      · intro i hi k
        show f_X5_wordHere_2b (nI K) (nI b) (nI e) lt (nI i) k = k (nI (i + 1))
        rw [hs i (by omega) 0 ((e_spelled (by omega) hC hT).2 (m2 i (by omega))) k, if_pos rfl]
      · intro k
        show f_X5_wordHere_2b (nI K) (nI b) (nI e) lt (nI 9) k = _
        unfold f_X5_wordHere_2b
        rw [if_pos (show (8 : Int32) < nI 9 by decide)]
      · exact Eq.refl _
  · subst k1
    obtain ⟨hb, hw⟩ := tok_w hT
    have ht : ∀ i, i < e - b → 1 ≤ (fun i => ch (b + i) - 96) i ∧ (fun i => ch (b + i) - 96) i ≤ 26 := fun i hi => by
      have := hw (b + i) (by omega) (by omega)
      show 1 ≤ ch (b + i) - 96 ∧ ch (b + i) - 96 ≤ 26
      omega
    rw [lg_cmp_eq, show LTK ch 1 b e = ltN (fun i => ch (b + i) - 96) (e - b) from if_pos rfl, lt_wd hz ht]
    constructor
    · intro u
      rcases Nat.lt_or_ge z m with y | y
      · exact absurd ⟨rfl, u⟩ (m2 z y)
      · exact wd_ne hz (by omega) u (m3 (by omega)).2
    · intro u
      subst u
      exact (m3 hz).2
theorem five_6 : f_X8_five 112 108 97 116 101 = some (wcL 6) := by decide +kernel
theorem four_0 : f_X8_four 101 100 103 101 = some (wcL 0) := by decide +kernel
theorem five_1 : f_X8_five 115 116 105 102 102 = some (wcL 1) := by decide +kernel
theorem four_2 : f_X8_four 108 111 115 115 = some (wcL 2) := by decide +kernel
theorem five_3 : f_X8_five 102 111 114 99 101 = some (wcL 3) := by decide +kernel
theorem five_4 : f_X8_five 112 101 114 105 111 = some 16959791 := by decide +kernel
theorem per_4 : ((16959791 : Int64) * 32) + 4 = wcL 4 := by decide +kernel
theorem five_5 : f_X8_five 108 105 109 105 116 = some (wcL 5) := by decide +kernel
theorem five_7 : f_X8_five 100 114 105 118 101 = some (wcL 7) := by decide +kernel
theorem row_8 : (18935 : Int64) = wcL 8 := by decide +kernel
