/-! the model's tokens; numbers on both sides -/
theorem e8_takes {ch : Nat → Nat} {n p K b e : Nat} {tx : Nat → Int32} (hn : n ≤ 120) (hc : ∀ k, k < n → tx k = nI (ch k) ∧ ch k < 256) (hT : TOK ch n p K b e) : f_X8_takes (nI n) (nI p) tx = some (nI e, nI K, nI b, LTK ch K b e, FGK K b e, VLK ch K b e) := by
  obtain ⟨h1, h2, h3, h4, h5⟩ := hT
  have iB : ∀ q, q ≤ n → f_X8_isAt (nI n) (nI q) tx 32 32 = some (if q < n ∧ 32 ≤ ch q ∧ ch q ≤ 32 then 1 else 0) := fun q hq => e8_isAt (lo := 32) (hi := 32) hn hc (by decide) (by decide) hq
  have iW : ∀ q, q ≤ n → f_X8_isAt (nI n) (nI q) tx 97 122 = some (if q < n ∧ 97 ≤ ch q ∧ ch q ≤ 122 then 1 else 0) := fun q hq => e8_isAt (lo := 97) (hi := 122) hn hc (by decide) (by decide) hq
  have iD : ∀ q, q ≤ n → f_X8_isAt (nI n) (nI q) tx 48 57 = some (if q < n ∧ 48 ≤ ch q ∧ ch q ≤ 57 then 1 else 0) := fun q hq => e8_isAt (lo := 48) (hi := 57) hn hc (by decide) (by decide) hq
  have iS : ∀ q, q ≤ n → f_X8_isAt (nI n) (nI q) tx 59 59 = some (if q < n ∧ 59 ≤ ch q ∧ ch q ≤ 59 then 1 else 0) := fun q hq => e8_isAt (lo := 59) (hi := 59) hn hc (by decide) (by decide) hq
  have s0 : f_X8_takes (nI n) (nI p) tx = f_X8_takes_24 (nI n) (nI b) tx := by
    unfold f_X8_takes f_X8_takes_0
    refine (ox_for (r := nI b) (fun i => nI (p + i)) (b - p) rfl (by omega) ?_ ?_)
    · intro i hi k
      show f_X8_takes_0b (nI n) tx (nI (p + i)) k = k (nI (p + (i + 1)))
      unfold f_X8_takes_0b
      have hb := h3 (p + i) (by omega) (by omega)
      rw [iB (p + i) (by omega), ob1_s, if_pos (show p + i < n ∧ 32 ≤ ch (p + i) ∧ ch (p + i) ≤ 32 by omega), if_neg (show ¬ (1 : Int32) = 0 by decide), nI_1] <;> rfl
    · intro k
      show f_X8_takes_0b (nI n) tx (nI (p + (b - p))) k = _
      rw [show p + (b - p) = b by omega]
      unfold f_X8_takes_0b
      rw [iB b h2, ob1_s, if_neg (show ¬ (b < n ∧ 32 ≤ ch b ∧ ch b ≤ 32) from fun u => h4 u.1 (by omega)), if_pos rfl]
  rw [s0]
  unfold f_X8_takes_24
  rcases h5 with ⟨r1, r2, r3⟩ | ⟨r1, r2, r3, r4, r5⟩
  · subst r2
    rw [if_pos (by rw [r1]), r3, r1]
    unfold f_X8_takes_273 LTK FGK VLK
    exact Eq.refl _
  · have hcb := hc b r1
    rw [if_neg (fun z => by have := (nI_eq (a := b) (b := n) (by omega) (by omega)).mp z; omega), iW b h2, ob1_s, iD b h2, ob1_s, iS b h2, ob1_s]
    rcases kd_cases (ch b) with ⟨k, k2⟩ | ⟨k, k2⟩ | ⟨k, k2⟩ | ⟨k, k2, k3, k4⟩
    · rw [k] at r2
      subst r2
      rw [if_pos (show b < n ∧ 97 ≤ ch b ∧ ch b ≤ 122 from ⟨r1, k2⟩), if_neg (show ¬ (1 : Int32) = 0 by decide)]
      rcases r5 with ⟨_, a1, a2⟩ | ⟨y, _⟩
      · unfold f_X8_takes_82
        refine (ox_for (r := (nI e, ltN (fun i => ch (b + i) - 96) (e - b))) (fun i => (nI (b + i), ltN (fun i => ch (b + i) - 96) i)) (e - b) rfl (by omega) ?_ ?_).trans ?_
        · intro i hi k
          show f_X8_takes_82b (nI n) 1 (nI b) 0 0 tx (nI (b + i)) (ltN (fun i => ch (b + i) - 96) i) k = k (nI (b + (i + 1)), ltN (fun i => ch (b + i) - 96) (i + 1))
          have hq := hc (b + i) (by omega)
          have hk : 97 ≤ ch (b + i) ∧ ch (b + i) ≤ 122 := by
            have := a1 (b + i) (by omega) (by omega)
            rcases kd_cases (ch (b + i)) with ⟨_, y⟩ | ⟨y, _⟩ | ⟨y, _⟩ | ⟨y, _⟩
            · exact y
            · omega
            · omega
            · omega
          unfold f_X8_takes_82b f_X8_takes_137
          rw [iW (b + i) (by omega), ob1_s, if_pos (show b + i < n ∧ 97 ≤ ch (b + i) ∧ ch (b + i) ≤ 122 by omega), if_neg (show ¬ (1 : Int32) = 0 by decide), pk_sub (by omega), show b + i - b = i by omega, nI_1]
          by_cases z : 9 ≤ i
          · rw [if_pos (show (9 : Int32) ≤ nI i from nI_le (a := 9) z (by omega)), show ltN (fun i => ch (b + i) - 96) (i + 1) = -1 from if_neg (by omega)] <;> rfl
          · rw [if_neg (show ¬ (9 : Int32) ≤ nI i from nI_ge (a := i) (b := 9) (by omega) (by omega)), if_pos (inb_nI (show b + i < 120 by omega) (by decide)), nI_clamp (by omega), hq.1, lt_step (t := fun i => ch (b + i) - 96) (by omega) (by omega) hq.2 rfl] <;> rfl
        · intro k
          show f_X8_takes_82b (nI n) 1 (nI b) 0 0 tx (nI (b + (e - b))) _ k = _
          rw [show b + (e - b) = e by omega]
          unfold f_X8_takes_82b
          rw [iW e (by omega), ob1_s, if_neg (show ¬ (e < n ∧ 97 ≤ ch e ∧ ch e ≤ 122) from fun u => a2 u.1 (by
            rcases kd_cases (ch e) with ⟨y, _⟩ | ⟨_, y⟩ | ⟨_, y⟩ | ⟨_, y, _⟩ <;> omega)), if_pos rfl]
        · show f_X8_takes_273 (nI e) 1 (nI b) (ltN (fun i => ch (b + i) - 96) (e - b)) 0 0 = _
          unfold f_X8_takes_273 LTK FGK VLK
          exact Eq.refl _
      · omega
    · rw [k] at r2
      subst r2
      rw [if_neg (show ¬ (b < n ∧ 97 ≤ ch b ∧ ch b ≤ 122) by omega), if_pos (show (0 : Int32) = 0 from rfl), if_pos (show b < n ∧ 48 ≤ ch b ∧ ch b ≤ 57 from ⟨r1, k2⟩), if_neg (show ¬ (1 : Int32) = 0 by decide)]
      rcases r5 with ⟨_, a1, a2⟩ | ⟨y, _⟩
      · unfold f_X8_takes_169
        refine (ox_for (r := (nI e, nI (e - b), vlN ch b (e - b))) (fun i => (nI (b + i), nI i, vlN ch b i)) (e - b) rfl (by omega) ?_ ?_).trans ?_
        · intro i hi k
          show f_X8_takes_169b (nI n) 2 (nI b) 0 tx (nI (b + i)) (nI i) (vlN ch b i) k = k (nI (b + (i + 1)), nI (i + 1), (if 8 ≤ i + 1 then vlN ch b i else ((10 * vlN ch b i) + nI (ch (b + i))) - 48))
          have hq := hc (b + i) (by omega)
          have hk : 48 ≤ ch (b + i) ∧ ch (b + i) ≤ 57 := by
            have := a1 (b + i) (by omega) (by omega)
            rcases kd_cases (ch (b + i)) with ⟨y, _⟩ | ⟨_, y⟩ | ⟨y, _⟩ | ⟨y, _⟩
            · omega
            · exact y
            · omega
            · omega
          unfold f_X8_takes_169b f_X8_takes_227
          rw [iD (b + i) (by omega), ob1_s, if_pos (show b + i < n ∧ 48 ≤ ch (b + i) ∧ ch (b + i) ≤ 57 by omega), if_neg (show ¬ (1 : Int32) = 0 by decide), nI_1, nI_1]
          by_cases z : 8 ≤ i + 1
          · rw [if_pos (show (8 : Int32) ≤ nI (i + 1) from nI_le (a := 8) z (by omega)), if_pos z] <;> rfl
          · rw [if_neg (show ¬ (8 : Int32) ≤ nI (i + 1) from nI_ge (a := i + 1) (b := 8) (by omega) (by omega)), if_neg z, if_pos (inb_nI (show b + i < 120 by omega) (by decide)), nI_clamp (by omega), hq.1] <;> rfl
        · intro k
          show f_X8_takes_169b (nI n) 2 (nI b) 0 tx (nI (b + (e - b))) _ _ k = _
          rw [show b + (e - b) = e by omega]
          unfold f_X8_takes_169b
          rw [iD e (by omega), ob1_s, if_neg (show ¬ (e < n ∧ 48 ≤ ch e ∧ ch e ≤ 57) from fun u => a2 u.1 (by
            rcases kd_cases (ch e) with ⟨_, y⟩ | ⟨y, _⟩ | ⟨_, y⟩ | ⟨_, _, y, _⟩ <;> omega)), if_pos rfl]
        · show f_X8_takes_273 (nI e) 2 (nI b) 0 (nI (e - b)) (vlN ch b (e - b)) = _
          unfold f_X8_takes_273 LTK FGK VLK
          exact Eq.refl _
      · omega
    · rw [k] at r2
      subst r2
      rw [if_neg (show ¬ (b < n ∧ 97 ≤ ch b ∧ ch b ≤ 122) by omega), if_pos (show (0 : Int32) = 0 from rfl), if_neg (show ¬ (b < n ∧ 48 ≤ ch b ∧ ch b ≤ 57) by omega), if_pos (show (0 : Int32) = 0 from rfl), if_pos (show b < n ∧ 59 ≤ ch b ∧ ch b ≤ 59 by omega), if_neg (show ¬ (1 : Int32) = 0 by decide)]
      have he : e = b + 1 := by
        rcases r5 with ⟨y, _⟩ | ⟨_, y⟩
        · omega
        · exact y
      unfold f_X8_takes_260 f_X8_takes_273 LTK FGK VLK
      rw [he, nI_1] <;> rfl
    · rw [k] at r2
      subst r2
      rw [if_neg (show ¬ (b < n ∧ 97 ≤ ch b ∧ ch b ≤ 122) by omega), if_pos (show (0 : Int32) = 0 from rfl), if_neg (show ¬ (b < n ∧ 48 ≤ ch b ∧ ch b ≤ 57) by omega), if_pos (show (0 : Int32) = 0 from rfl), if_neg (show ¬ (b < n ∧ 59 ≤ ch b ∧ ch b ≤ 59) by omega), if_pos (show (0 : Int32) = 0 from rfl)]
      have he : e = b + 1 := by
        rcases r5 with ⟨y, _⟩ | ⟨_, y⟩
        · omega
        · exact y
      unfold f_X8_takes_260 f_X8_takes_273 LTK FGK VLK
      rw [he, nI_1] <;> rfl
def CHR (ch : Nat → Nat) (n : Nat) (lt tx : Nat → Int32) : Prop := n ≤ 120 ∧ (∀ k, k < n → lt k = nI (ch k) ∧ ch k < 256) ∧ ∀ k, k < n → tx k = nI (ch k) ∧ ch k < 256
theorem num72_0 (s k b : Int32) (l : Int64) (f v : Int32) (r : Nat → Int32) : f_X8_number_72 s k b l f v r 0 = some (0, s, k, b, l, f, v, r) := if_pos (Or.inl rfl)
theorem num72_1 (s k b : Int32) (l : Int64) (f v : Int32) (r : Nat → Int32) : f_X8_number_72 s k b l f v r 1 = some (1, s, k, b, l, f, v, r) := if_pos (Or.inr rfl)
theorem dig_sub {c : Nat} (h : 48 ≤ c) : nI c - 48 = nI (c - 48) := pk_sub (a := c) (b := 48) h
/-- what a token's number is: none, or one of one or two figures -/
theorem num_val {ch : Nat → Nat} {n p K b e : Nat} {lt tx : Nat → Int32} (hC : CHR ch n lt tx) (hT : TOK ch n p K b e) :
    (f_X6_number (nI K) (nI b) (nI e) lt = some (-1) ∧ (¬ K = 2 ∨ 3 ≤ e - b ∨ (e - b = 2 ∧ ch b = 48))) ∨
    (∃ v, v ≤ 99 ∧ K = 2 ∧ b < n ∧ (e - b = 1 ∨ (e - b = 2 ∧ ¬ ch b = 48)) ∧ VLK ch K b e = nI v ∧ f_X6_number (nI K) (nI b) (nI e) lt = some (nI v)) := by
  obtain ⟨hn, hc, _⟩ := hC
  obtain ⟨t1, t2, t3, t4, t5⟩ := tok_b hT
  unfold f_X6_number f_X6_number_78 f_X6_number_21
  rw [pk_sub t2]
  by_cases k2 : K = 2
  · subst k2
    have hbe : b < e := t5 (by omega)
    obtain ⟨_, _, _, _, ⟨r1, r2, r3⟩ | ⟨r1, r2, r3, r4, ⟨_, a1, a2⟩ | ⟨y, _⟩⟩⟩ := hT
    · omega
    · have dg : ∀ j, b ≤ j → j < e → 48 ≤ ch j ∧ ch j ≤ 57 := fun j j1 j2 => by
        have := a1 j j1 j2
        rcases kd_cases (ch j) with ⟨y, _⟩ | ⟨_, y⟩ | ⟨y, _⟩ | ⟨y, _⟩
        · omega
        · exact y
        · omega
        · omega
      have d0 := dg b (Nat.le_refl _) hbe
      rw [if_pos (show nI 2 = 2 by decide)]
      by_cases q3 : 3 ≤ e - b
      · left
        rw [if_neg (show ¬ nI (e - b) ≤ 2 from nI_ge (a := 2) (b := e - b) (by omega) (by omega))]
        exact ⟨rfl, Or.inr (Or.inl q3)⟩
      · rw [if_pos (show nI (e - b) ≤ 2 from nI_le (a := e - b) (b := 2) (by omega) (by omega)), if_pos (inb_nI (show b < 120 by omega) (by decide)), nI_clamp (by omega), (hc b r1).1, dig_sub d0.1]
        by_cases q1 : e - b = 1
        · right
          rw [if_pos (show nI (e - b) = 1 by rw [q1]; decide)]
          refine ⟨ch b - 48, by omega, rfl, r1, Or.inl q1, ?_, rfl⟩
          show vlN ch b (e - b) = _
          rw [q1]
          show ((10 * (0 : Int32)) + nI (ch (b + 0))) - 48 = _
          rw [Nat.add_zero, show (10 * (0 : Int32)) = nI 0 by decide, nI_add, Nat.zero_add, dig_sub d0.1]
        · have q2 : e - b = 2 := by omega
          rw [if_neg (show ¬ nI (e - b) = 1 by rw [q2]; decide)]
          by_cases z : ch b = 48
          · left
            rw [if_pos (show nI (ch b - 48) = 0 by rw [z]; decide)]
            exact ⟨rfl, Or.inr (Or.inr ⟨q2, z⟩)⟩
          · right
            have d1 := dg (b + 1) (by omega) (by omega)
            have e1 : (10 * nI (ch b - 48) + nI (ch (b + 1))) - 48 = nI (10 * (ch b - 48) + (ch (b + 1) - 48)) := by
              rw [show (10 : Int32) = nI 10 by decide, pk_mul, nI_add, dig_sub (by omega)]
              exact congrArg nI (by omega)
            rw [if_neg (show ¬ nI (ch b - 48) = 0 from fun u => by have := (nI_eq (a := ch b - 48) (b := 0) (by omega) (by omega)).mp u; omega), nI_1, if_pos (inb_nI (show b + 1 < 120 by omega) (by decide)), nI_clamp (by omega), (hc (b + 1) (by omega)).1, e1]
            refine ⟨10 * (ch b - 48) + (ch (b + 1) - 48), by omega, rfl, r1, Or.inr ⟨q2, z⟩, ?_, rfl⟩
            show vlN ch b (e - b) = _
            rw [q2]
            show ((10 * (((10 * (0 : Int32)) + nI (ch (b + 0))) - 48)) + nI (ch (b + 1))) - 48 = _
            rw [Nat.add_zero, show (10 * (0 : Int32)) = nI 0 by decide, nI_add, Nat.zero_add, dig_sub d0.1, e1]
    · omega
  · left
    rw [if_neg (show ¬ nI K = 2 from fun u => k2 ((nI_eq (a := K) (b := 2) (by omega) (by omega)).mp u))]
    exact ⟨rfl, Or.inl k2⟩
theorem neg1_lt {lo : Nat} (h : lo < 2 ^ 31) : (-1 : Int32) < nI lo := Int32.lt_iff_toInt_lt.mpr (by
  rw [nI_toInt h]
  have : (-1 : Int32).toInt = -1 := by decide
  omega)
theorem num_both {ch : Nat → Nat} {n p to lo : Nat} {hi : Int32} {lt tx : Nat → Int32} (hC : CHR ch n lt tx) (hp : p ≤ n) (hto : to < 81) (hlo : lo < 2 ^ 31) (rd : Nat → Int32) :
    ∃ K b e LT FG VL, p ≤ b ∧ b ≤ e ∧ e ≤ n ∧
      ((∃ v, v ≤ 99 ∧ nI lo ≤ nI v ∧ nI v ≤ hi ∧ f_X5_readNumber (nI n) (nI p) lt (nI lo) hi = some (nI v, K, nI b, nI e) ∧ f_X8_number (nI n) (nI p) tx rd (nI to) (nI lo) hi = some (1, nI e, K, nI b, LT, FG, VL, upd rd to (nI v))) ∨
       (f_X5_readNumber (nI n) (nI p) lt (nI lo) hi = some (-1, K, nI b, nI e) ∧ ∃ rd', f_X8_number (nI n) (nI p) tx rd (nI to) (nI lo) hi = some (0, nI e, K, nI b, LT, FG, VL, rd'))) := by
  obtain ⟨K, b, e, hT⟩ := tok_ex ch hp
  obtain ⟨t1, t2, t3, t4, t5⟩ := tok_b hT
  have hn := hC.1
  refine ⟨nI K, b, e, LTK ch K b e, FGK K b e, VLK ch K b e, t1, t2, t3, ?_⟩
  unfold f_X5_readNumber f_X8_number f_X5_readNumber_25 f_X5_readNumber_30 f_X8_number_71 f_X8_number_52 f_X8_number_71
  rw [e_adv hC.1 hC.2.1 hT, ob3_s, e8_takes hC.1 hC.2.2 hT, ob6_s, if_pos (inb_nI hto (by decide)), nI_clamp (show to < 2 ^ 31 by omega)]
  simp only [num72_0, num72_1]
  rcases num_val hC hT with ⟨f1, f2⟩ | ⟨v, v1, k2, hb, f2, f3, f1⟩
  · right
    rw [f1, ob1_s, if_pos (neg1_lt hlo)]
    refine ⟨rfl, upd rd to (VLK ch K b e), ?_⟩
    by_cases k2 : K = 2
    · subst k2
      rw [if_pos (show nI 2 = 2 by decide), show FGK 2 b e = nI (e - b) from if_pos rfl]
      rcases f2 with y | y | ⟨y, z⟩
      · exact absurd rfl y
      · rw [if_pos (show (3 : Int32) ≤ nI (e - b) from nI_le (a := 3) y (by omega))]
      · have hb : b < n := by omega
        rw [if_neg (show ¬ (3 : Int32) ≤ nI (e - b) from nI_ge (a := e - b) (b := 3) (by omega) (by omega)), if_neg (show ¬ nI (e - b) = 1 by rw [y]; decide), if_pos (inb_nI (show b < 120 by omega) (by decide)), nI_clamp (by omega), (hC.2.2 b hb).1, z, if_pos (show nI 48 = 48 by decide)]
    · rw [if_neg (show ¬ nI K = 2 from fun u => k2 ((nI_eq (a := K) (b := 2) (by omega) (by omega)).mp u))]
  · subst k2
    have ck : ∀ (A : Option (Int32 × Int32 × Int32 × Int32 × Int64 × Int32 × Int32 × (Nat → Int32))) (B : Option (Int32 × Int32 × Int32 × Int32 × Int64 × Int32 × Int32 × (Nat → Int32))), (if nI 2 = 2 then (if 3 ≤ FGK 2 b e then A else (if FGK 2 b e = 1 then B else (if inb (nI b) 120 = true then if tx (nI b).toNatClampNeg = 48 then A else B else none))) else A) = B := fun A B => by
      rw [if_pos (show nI 2 = 2 by decide), show FGK 2 b e = nI (e - b) from if_pos rfl, if_neg (show ¬ (3 : Int32) ≤ nI (e - b) from nI_ge (a := e - b) (b := 3) (by omega) (by omega))]
      rcases f2 with y | ⟨y, z⟩
      · rw [if_pos (show nI (e - b) = 1 by rw [y]; decide)]
      · rw [if_neg (show ¬ nI (e - b) = 1 by rw [y]; decide), if_pos (inb_nI (show b < 120 by omega) (by decide)), nI_clamp (by omega), (hC.2.2 b hb).1, if_neg (show ¬ nI (ch b) = 48 from fun u => z ((nI_eq (a := ch b) (b := 48) (by have := (hC.2.2 b hb).2; omega) (by omega)).mp u))]
    rw [f1, ob1_s, ck, f3, e8_inI, ob1_s]
    by_cases g1 : nI v < nI lo
    · right
      rw [if_pos g1, if_neg (fun u : nI lo ≤ nI v ∧ nI v ≤ hi => i_nle g1 u.1), if_pos rfl]
      exact ⟨rfl, _, rfl⟩
    · rw [if_neg g1]
      by_cases g2 : nI v ≤ hi
      · left
        rw [if_pos g2, if_pos (⟨i_le_of g1, g2⟩ : nI lo ≤ nI v ∧ nI v ≤ hi), if_neg (show ¬ (1 : Int32) = 0 by decide)]
        exact ⟨v, v1, i_le_of g1, g2, rfl, rfl⟩
      · right
        rw [if_neg g2, if_neg (fun u : nI lo ≤ nI v ∧ nI v ≤ hi => g2 u.2), if_pos rfl]
        exact ⟨rfl, _, rfl⟩
