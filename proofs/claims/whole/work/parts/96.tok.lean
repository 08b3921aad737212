/-! tokens on both sides -/
def kdN (c : Nat) : Nat := if 97 ≤ c ∧ c ≤ 122 then 1 else if 48 ≤ c ∧ c ≤ 57 then 2 else if c = 59 then 3 else 4
theorem e_kindOf_d : ∀ c : Fin 256, f_X6_kindOf (nI c.val) = some (nI (kdN c.val)) := by decide +kernel
theorem e_kindOf {c : Nat} (h : c < 256) : f_X6_kindOf (nI c) = some (nI (kdN c)) := e_kindOf_d ⟨c, h⟩
theorem kd_cases (c : Nat) : (kdN c = 1 ∧ 97 ≤ c ∧ c ≤ 122) ∨ (kdN c = 2 ∧ 48 ≤ c ∧ c ≤ 57) ∨ (kdN c = 3 ∧ c = 59) ∨ (kdN c = 4 ∧ ¬ (97 ≤ c ∧ c ≤ 122) ∧ ¬ (48 ≤ c ∧ c ≤ 57) ∧ ¬ c = 59) := by
  unfold kdN
  by_cases a : 97 ≤ c ∧ c ≤ 122
  · left; exact ⟨if_pos a, a.1, a.2⟩
  · rw [if_neg a]
    right
    by_cases b : 48 ≤ c ∧ c ≤ 57
    · left; exact ⟨if_pos b, b.1, b.2⟩
    · rw [if_neg b]
      right
      by_cases d : c = 59
      · left; exact ⟨if_pos d, d⟩
      · right; exact ⟨if_neg d, a, b, d⟩
theorem sc_ex (P : Nat → Prop) {p n : Nat} (hp : p ≤ n) : ∃ q, p ≤ q ∧ q ≤ n ∧ (∀ j, p ≤ j → j < q → P j) ∧ (q < n → ¬ P q) := by
  obtain ⟨m, h1, h2, h3⟩ := li_ex (fun i => ¬ P (p + i)) (n - p)
  refine ⟨p + m, by omega, by omega, fun j a b => ?_, fun q => h3 (by omega)⟩
  have := h2 (j - p) (by omega)
  rw [show p + (j - p) = j by omega] at this
  exact Classical.not_not.mp this
def TOK (ch : Nat → Nat) (n p K b e : Nat) : Prop := p ≤ b ∧ b ≤ n ∧ (∀ j, p ≤ j → j < b → ch j = 32) ∧ (b < n → ¬ ch b = 32) ∧ ((b = n ∧ K = 0 ∧ e = n) ∨ (b < n ∧ K = kdN (ch b) ∧ b < e ∧ e ≤ n ∧ (((K = 1 ∨ K = 2) ∧ (∀ j, b ≤ j → j < e → kdN (ch j) = K) ∧ (e < n → ¬ kdN (ch e) = K)) ∨ ((K = 3 ∨ K = 4) ∧ e = b + 1))))
theorem tok_ex (ch : Nat → Nat) {n p : Nat} (hp : p ≤ n) : ∃ K b e, TOK ch n p K b e := by
  obtain ⟨b, b1, b2, b3, b4⟩ := sc_ex (fun j => ch j = 32) hp
  by_cases q : b = n
  · exact ⟨0, b, n, b1, b2, b3, b4, Or.inl ⟨q, rfl, rfl⟩⟩
  · have hb : b < n := by omega
    have two : (kdN (ch b) = 1 ∨ kdN (ch b) = 2) → ∃ K b e, TOK ch n p K b e := fun hk => by
      obtain ⟨e, e1, e2, e3, e4⟩ := sc_ex (fun j => kdN (ch j) = kdN (ch b)) (p := b + 1) (n := n) (by omega)
      refine ⟨kdN (ch b), b, e, b1, b2, b3, b4, Or.inr ⟨hb, rfl, by omega, e2, Or.inl ⟨hk, fun j a c => ?_, e4⟩⟩⟩
      by_cases y : j = b
      · rw [y]
      · exact e3 j (by omega) c
    rcases kd_cases (ch b) with ⟨k, _⟩ | ⟨k, _⟩ | ⟨k, _⟩ | ⟨k, _⟩
    · exact two (Or.inl k)
    · exact two (Or.inr k)
    · exact ⟨kdN (ch b), b, b + 1, b1, b2, b3, b4, Or.inr ⟨hb, rfl, by omega, by omega, Or.inr ⟨Or.inl k, rfl⟩⟩⟩
    · exact ⟨kdN (ch b), b, b + 1, b1, b2, b3, b4, Or.inr ⟨hb, rfl, by omega, by omega, Or.inr ⟨Or.inr k, rfl⟩⟩⟩
theorem tok_b {ch : Nat → Nat} {n p K b e : Nat} (h : TOK ch n p K b e) : p ≤ b ∧ b ≤ e ∧ e ≤ n ∧ K ≤ 4 ∧ (¬ K = 0 → b < e) := by
  obtain ⟨h1, h2, _, _, ⟨r1, r2, r3⟩ | ⟨r1, r2, r3, r4, ⟨k, _⟩ | ⟨k, _⟩⟩⟩ := h
  · omega
  · omega
  · omega
theorem e_adv {ch : Nat → Nat} {n p K b e : Nat} {lt : Nat → Int32} (hn : n ≤ 120) (hc : ∀ k, k < n → lt k = nI (ch k) ∧ ch k < 256) (hT : TOK ch n p K b e) : f_X6_advance (nI n) (nI p) lt = some (nI K, nI b, nI e) := by
  obtain ⟨h1, h2, h3, h4, h5⟩ := hT
  have s0 : f_X6_advance (nI n) (nI p) lt = f_X6_advance_38 (nI n) (nI b) lt := by
    unfold f_X6_advance f_X6_advance_0
    refine (ox_for (r := nI b) (fun i => nI (p + i)) (b - p) rfl (by omega) ?_ ?_)
    · intro i hi k
      show f_X6_advance_0b (nI n) lt (nI (p + i)) k = k (nI (p + (i + 1)))
      unfold f_X6_advance_0b
      rw [if_neg (nI_ge (show p + i < n by omega) (by omega)), if_pos (inb_nI (show p + i < 120 by omega) (by decide)), nI_clamp (by omega), (hc (p + i) (by omega)).1, h3 (p + i) (by omega) (by omega), if_pos (show nI 32 = 32 by decide), nI_1] <;> rfl
    · intro k
      show f_X6_advance_0b (nI n) lt (nI (p + (b - p))) k = _
      rw [show p + (b - p) = b by omega]
      unfold f_X6_advance_0b
      by_cases q : b = n
      · rw [if_pos (nI_le (by omega) (by omega))]
      · rw [if_neg (nI_ge (show b < n by omega) (by omega)), if_pos (inb_nI (show b < 120 by omega) (by decide)), nI_clamp (by omega), (hc b (by omega)).1, if_neg (show ¬ nI (ch b) = 32 from fun z => h4 (by omega) ((nI_eq (a := ch b) (b := 32) (by have := (hc b (by omega)).2; omega) (by omega)).mp z))]
  rw [s0]
  unfold f_X6_advance_38
  rcases h5 with ⟨r1, r2, r3⟩ | ⟨r1, r2, r3, r4, r5⟩
  · rw [if_neg (nI_nlt (show n ≤ b by omega) (by omega)), r1, r2, r3] <;> rfl
  · have hcb := hc b r1
    rw [if_pos (nI_lt r1 (by omega)), if_pos (inb_nI (show b < 120 by omega) (by decide)), nI_clamp (by omega), hcb.1, e_kindOf hcb.2, ob1_s, ← r2, nI_1]
    unfold f_X6_advance_105 f_X6_advance_110
    have row : (∀ j, b ≤ j → j < e → kdN (ch j) = K) → (e < n → ¬ kdN (ch e) = K) → K ≤ 4 → f_X6_advance_111 (nI n) (nI K) (nI b) (nI (b + 1)) lt 1 = some (nI K, nI b, nI e) := fun a1 a2 a3 => by
      unfold f_X6_advance_111
      refine (ox_for (r := nI e) (fun i => nI (b + 1 + i)) (e - (b + 1)) rfl (by omega) ?_ ?_).trans ?_
      · intro i hi k
        show f_X6_advance_111b (nI n) (nI K) (nI b) lt 1 (nI (b + 1 + i)) k = k (nI (b + 1 + (i + 1)))
        have hq := hc (b + 1 + i) (by omega)
        unfold f_X6_advance_111b
        rw [if_neg (show ¬ (1 : Int32) = 0 by decide), if_neg (nI_ge (show b + 1 + i < n by omega) (by omega)), if_pos (inb_nI (show b + 1 + i < 120 by omega) (by decide)), nI_clamp (by omega), hq.1, e_kindOf hq.2, ob1_s, a1 (b + 1 + i) (by omega) (by omega), if_pos rfl, nI_1] <;> rfl
      · intro k
        show f_X6_advance_111b (nI n) (nI K) (nI b) lt 1 (nI (b + 1 + (e - (b + 1)))) k = _
        rw [show b + 1 + (e - (b + 1)) = e by omega]
        unfold f_X6_advance_111b
        rw [if_neg (show ¬ (1 : Int32) = 0 by decide)]
        by_cases q : e = n
        · rw [if_pos (nI_le (by omega) (by omega))]
        · have hq := hc e (by omega)
          have k4 : kdN (ch e) ≤ 4 := by
            rcases kd_cases (ch e) with ⟨k, _⟩ | ⟨k, _⟩ | ⟨k, _⟩ | ⟨k, _⟩ <;> omega
          rw [if_neg (nI_ge (show e < n by omega) (by omega)), if_pos (inb_nI (show e < 120 by omega) (by decide)), nI_clamp (by omega), hq.1, e_kindOf hq.2, ob1_s, if_neg (fun z => a2 (by omega) ((nI_eq (by omega) (by omega)).mp z))]
      · rfl
    rcases r5 with ⟨k, a1, a2⟩ | ⟨k, a1⟩
    · rw [row a1 a2 (by omega)]
      rcases k with k | k
      · rw [if_pos (show nI K = 1 by rw [k]; decide)]
      · rw [if_neg (show ¬ nI K = 1 by rw [k]; decide), if_pos (show nI K = 2 by rw [k]; decide)]
    · rw [if_neg (show ¬ nI K = 1 by rcases k with k | k <;> rw [k] <;> decide), if_neg (show ¬ nI K = 2 by rcases k with k | k <;> rw [k] <;> decide), a1]
      unfold f_X6_advance_111
      refine (ox_for (r := nI (b + 1)) (fun _ => nI (b + 1)) 0 rfl (by omega) (fun i hi => absurd hi (by omega)) ?_).trans ?_
      · intro k
        show f_X6_advance_111b (nI n) (nI K) (nI b) lt 0 (nI (b + 1)) k = _
        unfold f_X6_advance_111b
        rw [if_pos rfl]
      · rfl
theorem isAt36_0 : f_X8_isAt_36 0 = some 0 := by decide
theorem isAt36_1 : f_X8_isAt_36 1 = some 1 := by decide
theorem e8_isAt {ch : Nat → Nat} {n q lo hi : Nat} {tx : Nat → Int32} (hn : n ≤ 120) (hc : ∀ k, k < n → tx k = nI (ch k) ∧ ch k < 256) (hlo : lo < 2 ^ 31) (hhi : hi < 2 ^ 31) (hq : q ≤ n) : f_X8_isAt (nI n) (nI q) tx (nI lo) (nI hi) = some (if q < n ∧ lo ≤ ch q ∧ ch q ≤ hi then 1 else 0) := by
  unfold f_X8_isAt f_X8_isAt_35
  rw [isAt36_0, isAt36_1]
  by_cases z : q < n
  · obtain ⟨c1, c2⟩ := hc q z
    rw [if_neg (nI_ge z (by omega)), if_pos (inb_nI (show q < 120 by omega) (by decide)), nI_clamp (by omega), c1, e8_inI, ob1_s]
    by_cases y : lo ≤ ch q ∧ ch q ≤ hi
    · have y' : nI lo ≤ nI (ch q) ∧ nI (ch q) ≤ nI hi := ⟨nI_le y.1 (by omega), nI_le y.2 hhi⟩
      rw [if_pos y', if_neg (show ¬ (1 : Int32) = 0 by decide), if_pos ⟨z, y⟩]
    · have y' : ¬ (nI lo ≤ nI (ch q) ∧ nI (ch q) ≤ nI hi) := fun u => y ⟨(nI_leI hlo (by omega)).mp u.1, (nI_leI (by omega) hhi).mp u.2⟩
      rw [if_neg y', if_pos rfl, if_neg (fun u => y u.2)]
  · rw [if_pos (nI_le (by omega) (by omega)), if_neg (fun u => z u.1)]
def cdN (t : Nat → Nat) (n : Nat) : Nat := itN (fun i s => 32 * s + t i) 0 n
def ltN (t : Nat → Nat) (n : Nat) : Int64 := if n ≤ 9 then lN (cdN t n) else -1
def vlN (ch : Nat → Nat) (b n : Nat) : Int32 := itN (fun i v => if 8 ≤ i + 1 then v else ((10 * v) + nI (ch (b + i))) - 48) 0 n
theorem cd_lt {t : Nat → Nat} : ∀ n, (∀ i, i < n → t i < 32) → cdN t n < 32 ^ n
  | 0, _ => by show 0 < 32 ^ 0; decide
  | n + 1, h => by
    have a := cd_lt n (fun i hi => h i (by omega))
    have b := h n (by omega)
    show 32 * cdN t n + t n < 32 ^ (n + 1)
    rw [Nat.pow_succ]
    omega
theorem lt_step {t : Nat → Nat} {n d : Nat} (hn : n < 9) (hd : 96 ≤ d) (hd2 : d < 256) (ht : t n = d - 96) : ((32 * ltN t n) + (nI d).toInt64) - 96 = ltN t (n + 1) := by
  unfold ltN
  rw [if_pos (by omega), if_pos (by omega), nI_l (by omega), show (32 : Int64) = lN 32 from rfl, lN_mul, lN_add, show 32 * cdN t n + d = (32 * cdN t n + t n) + 96 by omega, ← lN_add]
  show lN (32 * cdN t n + t n) + lN 96 - lN 96 = lN (32 * cdN t n + t n)
  grind
def LTK (ch : Nat → Nat) (K b e : Nat) : Int64 := if K = 1 then ltN (fun i => ch (b + i) - 96) (e - b) else 0
def FGK (K b e : Nat) : Int32 := if K = 2 then nI (e - b) else 0
def VLK (ch : Nat → Nat) (K b e : Nat) : Int32 := if K = 2 then vlN ch b (e - b) else 0
