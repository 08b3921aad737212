/-! the steps to the nearest cell -/
theorem sub_abs {a b : Nat} (ha : a < 2 ^ 30) (hb : b < 2 ^ 30) : (if 0 ≤ nI a - nI b then nI a - nI b else -(nI a - nI b)) = nI ((a - b) + (b - a)) := by
  by_cases q : b ≤ a
  · rw [pk_sub q, if_pos (show (0 : Int32) ≤ nI (a - b) from nI_le (a := 0) (Nat.zero_le _) (by omega)), show (a - b) + (b - a) = a - b by omega]
  · rw [if_neg (i_nle (pk_sneg hb (by omega))), Int32.neg_sub, pk_sub (by omega), show (a - b) + (b - a) = b - a by omega]
def dsN (w c k : Nat) : Nat := ((k % w - c % w) + (c % w - k % w)) + ((k / w - c / w) + (c / w - k / w))
def nrF (g : Nat → Int32) (w c k : Nat) (m : Int32) : Int32 := if g k = 1 then (if nI (dsN w c k) < m then nI (dsN w c k) else m) else m
def nrN (g : Nat → Int32) (w c : Nat) (z : Int32) (n : Nat) : Int32 := itN (nrF g w c) z n
theorem dsN_lt {w h c k : Nat} (h2 : w ≤ 6) (h4 : h ≤ 6) (h1 : 2 ≤ w) (hc : c < w * h) (hk : k < w * h) : dsN w c k < 20 := by
  have a1 : c % w < w := Nat.mod_lt _ (by omega)
  have a2 : k % w < w := Nat.mod_lt _ (by omega)
  have a3 : c / w < h := Nat.div_lt_of_lt_mul hc
  have a4 : k / w < h := Nat.div_lt_of_lt_mul hk
  unfold dsN
  generalize c % w = q1 at *
  generalize k % w = q2 at *
  generalize c / w = q3 at *
  generalize k / w = q4 at *
  omega
theorem nrN_eq {g : Nat → Int32} {w h c : Nat} (h1 : 2 ≤ w) (h2 : w ≤ 6) (h4 : h ≤ 6) (hc : c < w * h) : ∀ n, n ≤ w * h → (nrN g w c 36 n = nrN g w c 100 n) ∨ ((∀ k, k < n → ¬ g k = 1) ∧ nrN g w c 36 n = 36 ∧ nrN g w c 100 n = 100)
  | 0, _ => Or.inr ⟨fun k hk => by omega, rfl, rfl⟩
  | n + 1, hn => by
    show (nrF g w c n (nrN g w c 36 n) = nrF g w c n (nrN g w c 100 n)) ∨ (_ ∧ nrF g w c n (nrN g w c 36 n) = 36 ∧ nrF g w c n (nrN g w c 100 n) = 100)
    rcases nrN_eq (g := g) h1 h2 h4 hc n (by omega) with e | ⟨e0, e1, e2⟩
    · rw [e]; exact Or.inl rfl
    · rw [e1, e2]
      have hd := dsN_lt h2 h4 h1 hc (show n < w * h by omega)
      unfold nrF
      by_cases q : g n = 1
      · rw [if_pos q, if_pos q, if_pos (show nI (dsN w c n) < 36 from nI_lt (a := dsN w c n) (b := 36) (by omega) (by omega)), if_pos (show nI (dsN w c n) < 100 from nI_lt (a := dsN w c n) (b := 100) (by omega) (by omega))]
        exact Or.inl rfl
      · rw [if_neg q, if_neg q]
        refine Or.inr ⟨fun k hk => ?_, rfl, rfl⟩
        by_cases qk : k = n
        · rw [qk]; exact q
        · exact e0 k (by omega)
theorem sumN_ex {g : Nat → Int32} : ∀ n, ¬ sumN g n = 0 → ∃ k, k < n ∧ ¬ g k = 0
  | 0, q => absurd rfl q
  | n + 1, q => by
    by_cases e : g n = 0
    · obtain ⟨k, hk, hg⟩ := sumN_ex n (fun z => q (by show sumN g n + g n = 0; rw [z, e]; rfl))
      exact ⟨k, by omega, hg⟩
    · exact ⟨n, by omega, e⟩
theorem nr_same {g : Nat → Int32} {w h c : Nat} (h1 : 2 ≤ w) (h2 : w ≤ 6) (h4 : h ≤ 6) (hc : c < w * h) (hg : ∀ k, k < w * h → g k = 0 ∨ g k = 1) (hs : ¬ sumN g (w * h) = 0) : nrN g w c 36 (w * h) = nrN g w c 100 (w * h) := by
  rcases nrN_eq (g := g) h1 h2 h4 hc (w * h) (Nat.le_refl _) with e | ⟨e, _, _⟩
  · exact e
  · obtain ⟨k, hk, z⟩ := sumN_ex _ hs
    rcases hg k hk with y | y
    · exact absurd y z
    · exact absurd y (e k hk)
theorem nr116 (sv mo : Nat → Int32) (x1 x2 m d s : Int32) (i : Nat) (k : Int32 × Int32 → Option Int32) : f_X8_nearest_116 sv mo x1 x2 m (nI i) d s k = k ((if s = 0 then m else if d < m then d else m), nI (i + 1)) := by
  unfold f_X8_nearest_116 f_X8_nearest_134 f_X8_nearest_135
  rw [nI_1, ← le_lt_if]
  by_cases q : s = 0
  · rw [if_pos q, if_pos q]
  · rw [if_neg q, if_neg q]
    by_cases q2 : m ≤ d
    · rw [if_pos q2, if_pos q2]
    · rw [if_neg q2, if_neg q2]
def gK (kd : Int32) (fi st : Nat → Int32) : Nat → Int32 := if kd = 0 then fi else st
theorem nr81 (sv mo : Nat → Int32) (x1 kd m a b : Int32) {i : Nat} (hi : i < 36) (k : Int32 × Int32 → Option Int32) : f_X8_nearest_81 sv mo x1 kd m (nI i) a b k = k ((if gK kd (fun c => sv (9 + c)) (sL_ (sv 7) mo) i = 1 then (if a + b < m then a + b else m) else m), nI (i + 1)) := by
  unfold f_X8_nearest_81 gK
  by_cases q : kd = 0
  · rw [if_pos q, if_pos q, show (9 : Int32) + nI i = nI (9 + i) from nI_add 9 i, if_pos (inb_nI (by omega) (by decide)), nI_clamp (by omega), nr116, nr116, if_neg (show ¬ (1 : Int32) = 0 by decide), if_pos (show (0 : Int32) = 0 from rfl)]
    by_cases z : sv (9 + i) = 1
    · rw [if_pos z, if_pos z]
    · rw [if_neg z, if_neg z]
  · rw [if_neg q, if_neg q, e8_isStill sv mo hi, ob1_s, nr116]
    rcases sL_01 (sv 7) mo i with z | z
    · rw [z, if_pos rfl, if_neg (show ¬ (0 : Int32) = 1 by decide)]
    · rw [z, if_neg (show ¬ (1 : Int32) = 0 by decide), if_pos rfl]
theorem nr68 (sv mo : Nat → Int32) (x1 kd m a b : Int32) {i : Nat} (hi : i < 36) (k : Int32 × Int32 → Option Int32) : f_X8_nearest_68 sv mo x1 kd m (nI i) b a k = k ((if gK kd (fun c => sv (9 + c)) (sL_ (sv 7) mo) i = 1 then (if a + (if 0 ≤ b then b else -b) < m then a + (if 0 ≤ b then b else -b) else m) else m), nI (i + 1)) := by
  unfold f_X8_nearest_68
  rw [nr81 _ _ _ _ _ _ _ hi, nr81 _ _ _ _ _ _ _ hi]
  by_cases q : 0 ≤ b
  · rw [if_pos q, if_pos q]
  · rw [if_neg q, if_neg q]
theorem e8_nearest {sv : Nat → Int32} {w h c : Nat} (h0 : sv 0 = nI w) (hh : sv 1 = nI h) (h1 : 2 ≤ w) (h2 : w ≤ 6) (h4 : h ≤ 6) (hc : c < w * h) (mo : Nat → Int32) (kd : Int32) : f_X8_nearest sv mo (nI c) kd = some (nrN (gK kd (fun c => sv (9 + c)) (sL_ (sv 7) mo)) w c 100 (w * h)) := by
  have h36 := mul36 h2 h4
  unfold f_X8_nearest f_X8_nearest_6
  refine (ox_for (r := nrN (gK kd (fun c => sv (9 + c)) (sL_ (sv 7) mo)) w c 100 (w * h)) (fun i => (nrN (gK kd (fun c => sv (9 + c)) (sL_ (sv 7) mo)) w c 100 i, nI i)) (w * h) rfl (by omega) ?_ ?_).trans ?_
  · intro i hi k
    show f_X8_nearest_6b sv mo (nI c) kd _ (nI i) k = k (nrF _ w c i (nrN _ w c 100 i), nI (i + 1))
    unfold f_X8_nearest_6b nrF vm_rem
    have hw : ¬ nI w = 0 := nI_ne0 (by omega) (by omega)
    have b1 : c % w < w := Nat.mod_lt _ (by omega)
    have b2 : i % w < w := Nat.mod_lt _ (by omega)
    have b3 : c / w ≤ c := Nat.div_le_self _ _
    have b4 : i / w ≤ i := Nat.div_le_self _ _
    rw [e8_cells h0 hh, ob1_s, if_neg (nI_ge hi (by omega)), h0, if_pos hw, if_pos hw, if_pos hw, if_pos hw, pk_rem (by omega) (by omega) (by omega), pk_rem (by omega) (by omega) (by omega), pk_div (by omega) (by omega) (by omega), pk_div (by omega) (by omega) (by omega)]
    rw [nr68 _ _ _ _ _ _ _ (by omega), nr68 _ _ _ _ _ _ _ (by omega)]
    have e1 := sub_abs (a := c % w) (b := i % w) (by omega) (by omega)
    have e2 := sub_abs (a := c / w) (b := i / w) (by omega) (by omega)
    have e3 : dsN w c i = ((c % w - i % w) + (i % w - c % w)) + ((c / w - i / w) + (i / w - c / w)) := by
      unfold dsN
      rw [Nat.add_comm (i % w - c % w), Nat.add_comm (i / w - c / w)]
    have e4 : nI (dsN w c i) = (if 0 ≤ nI (c % w) - nI (i % w) then nI (c % w) - nI (i % w) else -(nI (c % w) - nI (i % w))) + nI ((c / w - i / w) + (i / w - c / w)) := by rw [e1, nI_add, e3]
    rw [e2, e4]
    by_cases q : 0 ≤ nI (c % w) - nI (i % w)
    · rw [if_pos q, if_pos q]
    · rw [if_neg q, if_neg q]
  · intro k
    show f_X8_nearest_6b sv mo (nI c) kd _ (nI (w * h)) k = _
    unfold f_X8_nearest_6b
    rw [e8_cells h0 hh, ob1_s, if_pos (nI_le (Nat.le_refl _) (by omega))]
  · rfl
theorem sn91 (W H : Int32) (nu fi mo : Nat → Int32) (kd x y m r : Int32) (i : Nat) (k : Int32 × Int32 → Option Int32) : f_X2_stepsToNearest_91 W H nu fi mo kd x y m r (nI i) k = k (m, nI (i + 1)) := by
  unfold f_X2_stepsToNearest_91
  rw [nI_1]
theorem e_near19 {w x y j : Nat} (h2 : w ≤ 6) (hx : x < w) (hy : y < 6) (hj : j < 6) (H : Int32) (nu fi mo : Nat → Int32) (kd z : Int32) (k : Int32 × Int32 → Option Int32) :
    f_X2_stepsToNearest_19 (nI w) H nu fi mo kd (nI x) (nI y) (nrN (gK kd fi (stB_ nu mo)) w (w * y + x) z (w * j)) (nI j) 0 k = k (nrN (gK kd fi (stB_ nu mo)) w (w * y + x) z (w * (j + 1)), nI (j + 1)) := by
  have hwj : w * j + w ≤ 36 := by
    have : w * (j + 1) ≤ 6 * 6 := Nat.mul_le_mul h2 (by omega)
    rw [Nat.mul_succ] at this
    omega
  unfold f_X2_stepsToNearest_19
  refine (ox_for (r := nrN (gK kd fi (stB_ nu mo)) w (w * y + x) z (w * j + w)) (fun i => (nrN (gK kd fi (stB_ nu mo)) w (w * y + x) z (w * j + i), nI i)) w rfl (by omega) ?_ ?_).trans ?_
  · intro i hi k
    show f_X2_stepsToNearest_19b (nI w) H nu fi mo kd (nI x) (nI y) (nI j) _ (nI i) k = k (nrF _ w (w * y + x) (w * j + i) (nrN _ w (w * y + x) z (w * j + i)), nI (i + 1))
    unfold f_X2_stepsToNearest_19b f_X2_stepsToNearest_68 nrF
    have e1 := sub_abs (a := i) (b := x) (by omega) (by omega)
    have e2 := sub_abs (a := j) (b := y) (by omega) (by omega)
    have e3 : dsN w (w * y + x) (w * j + i) = ((i - x) + (x - i)) + ((j - y) + (y - j)) := by
      unfold dsN
      rw [cl_mod hi, cl_mod hx, cl_div hi, cl_div hx]
    rw [if_neg (nI_ge hi (by omega)), nI_cell, if_pos (inb_nI (by omega) (by decide)), nI_clamp (by omega), e1, e2, nI_add, ← e3, sn91, sn91, e_isStill nu mo (by omega), ob1_s]
    unfold gK
    by_cases q : kd = 0
    · rw [if_pos q, if_pos q]
      by_cases z : fi (w * j + i) = 1
      · rw [if_pos z, if_pos z]
      · rw [if_neg z, if_neg z]
    · rw [if_neg q, if_neg q, stB_L]
      rcases sL_01 (nu 5) mo (w * j + i) with z | z
      · rw [if_pos z, if_neg (show ¬ sL_ (nu 5) mo (w * j + i) = 1 by rw [z]; decide)]
      · rw [if_neg (by rw [z]; decide), if_pos z]
  · intro k
    show f_X2_stepsToNearest_19b (nI w) H nu fi mo kd (nI x) (nI y) (nI j) _ (nI w) k = _
    unfold f_X2_stepsToNearest_19b
    rw [if_pos (nI_le (Nat.le_refl _) (by omega))]
  · show f_X2_stepsToNearest_97 (nI w) H nu fi mo kd (nI x) (nI y) _ (nI j) k = _
    unfold f_X2_stepsToNearest_97
    rw [nI_1, Nat.mul_succ]
theorem e_nearest {w h x y : Nat} (h2 : w ≤ 6) (h4 : h ≤ 6) (hx : x < w) (hy : y < h) (nu fi mo : Nat → Int32) (kd : Int32) : f_X2_stepsToNearest (nI w) (nI h) nu fi mo kd (nI x) (nI y) = some (nrN (gK kd fi (stB_ nu mo)) w (w * y + x) 36 (w * h)) := by
  unfold f_X2_stepsToNearest f_X2_stepsToNearest_7
  refine (ox_for (r := nrN (gK kd fi (stB_ nu mo)) w (w * y + x) 36 (w * h)) (fun j => (nrN (gK kd fi (stB_ nu mo)) w (w * y + x) 36 (w * j), nI j)) h rfl (by omega) ?_ ?_).trans ?_
  · intro j hj k
    show f_X2_stepsToNearest_7b (nI w) (nI h) nu fi mo kd (nI x) (nI y) _ (nI j) k = _
    unfold f_X2_stepsToNearest_7b
    rw [if_neg (nI_ge hj (by omega)), e_near19 h2 hx (by omega) (by omega)]
  · intro k
    show f_X2_stepsToNearest_7b (nI w) (nI h) nu fi mo kd (nI x) (nI y) _ (nI h) k = _
    unfold f_X2_stepsToNearest_7b
    rw [if_pos (nI_le (Nat.le_refl _) (by omega))]
  · rfl
