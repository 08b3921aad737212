/-! the kept motions -/
def CV (C R : Int32) (nu kn : Nat → Int32) (mo : Nat → Nat → Int32) : Prop := ∀ p, p < 21 → kn p = 0 ∨ ∀ w h dr, C = nI w → R = nI h → nu 6 = nI dr → 2 ≤ w → w ≤ 6 → 2 ≤ h → h ≤ 6 → dr < w * h → ∀ c, c < w * h → mo p c = MOT w h nu p dr c
theorem MOT_congr {w h p dr c : Nat} {nu nv : Nat → Int32} (h1 : 2 ≤ w) (h2 : w ≤ 6) (h3 : 2 ≤ h) (h4 : h ≤ 6) (hn : ∀ k, k < 4 → nu k = nv k) (hc : c < w * h) : MOT w h nu p dr c = MOT w h nv p dr c := by
  have e : ∀ t, (HV w h nu p dr t).1 c = (HV w h nv p dr t).1 c := fun t => (run_congr (s := (fun _ => 0, fun _ => 0)) (s' := (fun _ => 0, fun _ => 0)) (p := p) (dr := dr) h1 h2 h3 h4 hn (fun _ _ => rfl) (fun _ _ => rfl) t).1 c hc
  unfold MOT hiC loC
  simp only [e]
def ofF (nu nv : Nat → Int32) (k : Nat) (f : Int32) : Int32 := if f = 0 then 0 else if k = 4 ∨ k = 5 then 1 else if nu k = nv k then 1 else 0
theorem ofF_it {nu nv : Nat → Int32} {z : Int32} (hz : z = 0 ∨ z = 1) : ∀ n, itN (ofF nu nv) z n = 0 ∨ (itN (ofF nu nv) z n = 1 ∧ z = 1 ∧ ∀ k, k < n → k ≠ 4 → k ≠ 5 → nu k = nv k)
  | 0 => by
    show z = 0 ∨ (z = 1 ∧ z = 1 ∧ _)
    rcases hz with e | e
    · exact Or.inl e
    · exact Or.inr ⟨e, e, fun k hk => by omega⟩
  | n + 1 => by
    show ofF nu nv n (itN (ofF nu nv) z n) = 0 ∨ (ofF nu nv n (itN (ofF nu nv) z n) = 1 ∧ _)
    unfold ofF
    rcases ofF_it (nu := nu) (nv := nv) hz n with e | ⟨e, hz1, ih⟩
    · rw [show itN (fun k f => if f = 0 then 0 else if k = 4 ∨ k = 5 then 1 else if nu k = nv k then 1 else 0) z n = 0 from e]
      exact Or.inl (if_pos rfl)
    · rw [show itN (fun k f => if f = 0 then 0 else if k = 4 ∨ k = 5 then 1 else if nu k = nv k then 1 else 0) z n = 1 from e, if_neg (show ¬ (1 : Int32) = 0 by decide)]
      by_cases q : n = 4 ∨ n = 5
      · rw [if_pos q]
        refine Or.inr ⟨rfl, hz1, fun k hk a b => ih k (by omega) a b⟩
      · rw [if_neg q]
        by_cases q2 : nu n = nv n
        · rw [if_pos q2]
          refine Or.inr ⟨rfl, hz1, fun k hk a b => ?_⟩
          by_cases qk : k = n
          · rw [qk]; exact q2
          · exact ih k (by omega) a b
        · rw [if_neg q2]
          exact Or.inl rfl
theorem e_isOf30 {nu nv : Nat → Int32} {z : Int32} (hz : z = 0 ∨ z = 1) : ∃ r, f_X1_isOf_30 nu nv z 0 = some r ∧ (r = 0 ∨ (r = 1 ∧ z = 1 ∧ ∀ k, k < 7 → k ≠ 4 → k ≠ 5 → nu k = nv k)) := by
  refine ⟨itN (ofF nu nv) z 7, ?_, ofF_it hz 7⟩
  unfold f_X1_isOf_30
  refine (ox_for (r := itN (ofF nu nv) z 7) (fun i => (itN (ofF nu nv) z i, nI i)) 7 rfl (by omega) ?_ ?_).trans ?_
  · intro i hi k
    show f_X1_isOf_30b nu nv (itN (ofF nu nv) z i) (nI i) k = k (ofF nu nv i (itN (ofF nu nv) z i), nI (i + 1))
    unfold f_X1_isOf_30b f_X1_isOf_50 f_X1_isOf_51 f_X1_isOf_77 f_X1_isOf_81 f_X1_isOf_82 ofF
    rw [if_neg (show ¬ (7 : Int32) ≤ nI i from nI_ge (a := i) (b := 7) hi (by omega)), nI_1]
    by_cases q0 : itN (fun k f => if f = 0 then (0 : Int32) else if k = 4 ∨ k = 5 then 1 else if nu k = nv k then 1 else 0) z i = 0
    · simp only [q0, if_true, ite_self]
    · simp only [q0, if_false]
      by_cases q4 : i = 4
      · rw [if_pos (show nI i = 4 by rw [q4]; decide), if_pos rfl, if_pos (Or.inl q4)]
      · rw [if_neg (show ¬ nI i = 4 from fun q => q4 ((nI_eq (a := i) (b := 4) (by omega) (by omega)).mp q))]
        by_cases q5 : i = 5
        · rw [if_pos (show nI i = 5 by rw [q5]; decide), if_pos rfl, if_pos (Or.inr q5)]
        · rw [if_neg (show ¬ nI i = 5 from fun q => q5 ((nI_eq (a := i) (b := 5) (by omega) (by omega)).mp q)), if_neg (show ¬ (1 : Int32) = 0 by decide), if_pos (inb_nI hi (by decide)), if_pos (inb_nI hi (by decide)), nI_clamp (by omega), if_neg (show ¬ (i = 4 ∨ i = 5) by omega)]
          by_cases q6 : nu i = nv i
          · rw [if_pos q6, if_pos q6]
          · rw [if_neg q6, if_neg q6]
  · intro k
    show f_X1_isOf_30b nu nv _ (nI 7) k = _
    unfold f_X1_isOf_30b
    rw [if_pos (show (7 : Int32) ≤ nI 7 by decide)]
  · show f_X1_isOf_89 (itN (ofF nu nv) z 7) = _
    unfold f_X1_isOf_89
    rcases ofF_it (nu := nu) (nv := nv) hz 7 with e | ⟨e, _, _⟩
    · rw [if_pos (Or.inl e)]
    · rw [if_pos (Or.inr e)]
theorem e_isOf (C R C' R' : Int32) (nu nv : Nat → Int32) : ∃ r, f_X1_isOf C R nu C' R' nv = some r ∧ (r = 0 ∨ (r = 1 ∧ C = C' ∧ R = R' ∧ ∀ k, k < 7 → k ≠ 4 → k ≠ 5 → nu k = nv k)) := by
  obtain ⟨r0, a0, b0⟩ := e_isOf30 (nu := nu) (nv := nv) (z := 0) (Or.inl rfl)
  obtain ⟨r1, a1, b1⟩ := e_isOf30 (nu := nu) (nv := nv) (z := 1) (Or.inr rfl)
  have z0 : r0 = 0 := by
    rcases b0 with e | ⟨_, e, _⟩
    · exact e
    · exact absurd e (by decide)
  unfold f_X1_isOf f_X1_isOf_26 f_X1_isOf_27
  by_cases q1 : C = C'
  · rw [if_pos q1]
    by_cases q2 : R = R'
    · rw [if_pos q2, a1]
      refine ⟨r1, rfl, ?_⟩
      rcases b1 with e | ⟨e, _, f⟩
      · exact Or.inl e
      · exact Or.inr ⟨e, q1, q2, f⟩
    · rw [if_neg q2, a0]
      exact ⟨r0, rfl, Or.inl z0⟩
  · rw [if_neg q1, a0]
    exact ⟨r0, rfl, Or.inl z0⟩
theorem nar_b0 : vp_nar .boolean 0 = 0 := by decide
theorem nar_b1 : vp_nar .boolean 1 = 1 := by decide
theorem e_become (kn nu nv : Nat → Int32) (C R : Int32) : f_X1_become kn nu C R nv = some (C, R, (fun k => if k < 21 then 0 else kn k), va_cpy nv nu 0 0 7) := by
  unfold f_X1_become f_X1_become_33
  refine (ox_for (r := fun k => if k < 21 then 0 else kn k) (fun i => ((fun k => if k < i then 0 else kn k), nI i)) 21 (by rw [← lt0]; rfl) (by omega) ?_ ?_).trans ?_
  · intro i hi k
    show f_X1_become_33b C R _ _ (nI i) k = _
    unfold f_X1_become_33b
    rw [if_neg (show ¬ (20 : Int32) < nI i from nI_nlt (a := 20) (b := i) (by omega) (by omega)), if_pos (inb_nI hi (by decide)), nI_clamp (by omega), nI_1, nar_b0, upd_lt (g := fun _ => 0) rfl]
  · intro k
    show f_X1_become_33b C R _ _ (nI 21) k = _
    unfold f_X1_become_33b
    rw [if_pos (show (20 : Int32) < nI 21 by decide)]
  · rfl
