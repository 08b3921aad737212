/-! the kept motions -/
def CV (C R : Int32) (nu kn : Nat → Int32) (mo : Nat → Nat → Int32) : Prop := ∀ p, p < 21 → kn p = 0 ∨ ∀ w h dr, C = nI w → R = nI h → nu 6 = nI dr → 2 ≤ w → w ≤ 6 → 2 ≤ h → h ≤ 6 → dr < w * h → ∀ c, c < w * h → mo p c = MOT w h nu p dr c
theorem MOT_congr {w h p dr c : Nat} {nu nv : Nat → Int32} (h1 : 2 ≤ w) (h2 : w ≤ 6) (h3 : 2 ≤ h) (h4 : h ≤ 6) (hn : ∀ k, k < 4 → nu k = nv k) (hc : c < w * h) : MOT w h nu p dr c = MOT w h nv p dr c := by
  have e : ∀ t, (HV w h nu p dr t).1 c = (HV w h nv p dr t).1 c := fun t => (run_congr (s := (fun _ => 0, fun _ => 0)) (s' := (fun _ => 0, fun _ => 0)) (p := p) (dr := dr) h1 h2 h3 h4 hn (fun _ _ => rfl) (fun _ _ => rfl) t).1 c hc
  unfold MOT hiC loC
  simp only [e]
def ofF (nu nv : Nat → Int32) (k : Nat) (f : Int32) : Int32 := if f = 0 then 0 else if k = 4 ∨ k = 5 then 1 else if nu k = nv k then 1 else 0
theorem ofF_it {nu nv : Nat → Int32} {z : Int32} (hz : z = 0 ∨ z = 1) : ∀ n, itN (ofF nu nv) z n = 0 ∨ (itN (ofF nu nv) z n = 1 ∧ z = 1 ∧ ∀ k, k < n → k ≠ 4 → k ≠ 5 → nu k = nv k)
  | 0 => by
    show z = 0 ∨ (z = 1 ∧ z = 1 ∧ _)
    rcases hz with e | e
    · exact Or.inl e
    · exact Or.inr ⟨e, e, fun k hk => by omega⟩
  | n + 1 => by
    show ofF nu nv n (itN (ofF nu nv) z n) = 0 ∨ (ofF nu nv n (itN (ofF nu nv) z n) = 1 ∧ _)
    unfold ofF
    rcases ofF_it (nu := nu) (nv := nv) hz n with e | ⟨e, hz1, ih⟩
    · rw [show itN (fun k f => if f = 0 then 0 else if k = 4 ∨ k = 5 then 1 else if nu k = nv k then 1 else 0) z n = 0 from e]
      exact Or.inl (if_pos rfl)
    · rw [show itN (fun k f => if f = 0 then 0 else if k = 4 ∨ k = 5 then 1 else if nu k = nv k then 1 else 0) z n = 1 from e, if_neg (show ¬ (1 : Int32) = 0 by decide)]
      by_cases q : n = 4 ∨ n = 5
      · rw [if_pos q]
        refine Or.inr ⟨rfl, hz1, fun k hk a b => ih k (by omega) a b⟩
      · rw [if_neg q]
        by_cases q2 : nu n = nv n
        · rw [if_pos q2]
          refine Or.inr ⟨rfl, hz1, fun k hk a b => ?_⟩
          by_cases qk : k = n
          · rw [qk]; exact q2
          · exact ih k (by omega) a b
        · rw [if_neg q2]
          exact Or.inl rfl
theorem e_isOf30 {nu nv : Nat → Int32} {z : Int32} (hz : z = 0 ∨ z = 1) : ∃ r, f_X1_isOf_30 nu nv z 0 = some r ∧ (r = 0 ∨ (r = 1 ∧ z = 1 ∧ ∀ k, k < 7 → k ≠ 4 → k ≠ 5 → nu k = nv k)) := by
  refine ⟨itN (ofF nu nv) z 7, ?_, ofF_it hz 7⟩
  unfold f_X1_isOf_30
  refine (ox_for (r := itN (ofF nu nv) z 7) (fun i => (itN (ofF nu nv) z i, nI i)) 7 rfl (by omega) ?_ ?_).trans ?_
  · intro i hi k
    show f_X1_isOf_30b nu nv (itN (ofF nu nv) z i) (nI i) k = k (ofF nu nv i (itN (ofF nu nv) z i), nI (i + 1))
    unfold f_X1_isOf_30b f_X1_isOf_50 f_X1_isOf_51 f_X1_isOf_77 f_X1_isOf_81 f_X1_isOf_82 ofF
    rw [if_neg (show ¬ (7 : Int32) ≤ nI i from nI_ge (a := i) (b := 7) hi (by omega)), nI_1]
    by_cases q0 : itN (fun k f => if f = 0 then (0 : Int32) else if k = 4 ∨ k = 5 then 1 else if nu k = nv k then 1 else 0) z i = 0
    · simp only [q0, if_true, ite_self]
    · simp only [q0, if_false]
      by_cases q4 : i = 4
      · rw [if_pos (show nI i = 4 by rw [q4]; decide), if_pos trivial, if_pos (Or.inl q4)]
      · rw [if_neg (show ¬ nI i = 4 from fun q => q4 ((nI_eq (a := i) (b := 4) (by omega) (by omega)).mp q))]
        by_cases q5 : i = 5
        · rw [if_pos (show nI i = 5 by rw [q5]; decide), if_pos trivial, if_pos (Or.inr q5)]
        · rw [if_neg (show ¬ nI i = 5 from fun q => q5 ((nI_eq (a := i) (b := 5) (by omega) (by omega)).mp q)), if_neg (show ¬ (1 : Int32) = 0 by decide), if_pos (inb_nI hi (by decide)), if_pos (inb_nI hi (by decide)), nI_clamp (by omega), if_neg (show ¬ (i = 4 ∨ i = 5) by omega)]
          by_cases q6 : nu i = nv i
          · rw [if_pos q6, if_pos q6]
          · rw [if_neg q6, if_neg q6]
  · intro k
    show f_X1_isOf_30b nu nv _ (nI 7) k = _
    unfold f_X1_isOf_30b
    rw [if_pos (show (7 : Int32) ≤ nI 7 by decide)]
  · show f_X1_isOf_89 (itN (ofF nu nv) z 7) = _
    unfold f_X1_isOf_89
    rcases ofF_it (nu := nu) (nv := nv) hz 7 with e | ⟨e, _, _⟩
    · rw [if_pos (Or.inl e)]
    · rw [if_pos (Or.inr e)]
theorem e_isOf (C R C' R' : Int32) (nu nv : Nat → Int32) : ∃ r, f_X1_isOf C R nu C' R' nv = some r ∧ (r = 0 ∨ (r = 1 ∧ C = C' ∧ R = R' ∧ ∀ k, k < 7 → k ≠ 4 → k ≠ 5 → nu k = nv k)) := by
  obtain ⟨r0, a0, b0⟩ := e_isOf30 (nu := nu) (nv := nv) (z := 0) (Or.inl rfl)
  obtain ⟨r1, a1, b1⟩ := e_isOf30 (nu := nu) (nv := nv) (z := 1) (Or.inr rfl)
  have z0 : r0 = 0 := by
    rcases b0 with e | ⟨_, e, _⟩
    · exact e
    · exact absurd e (by decide)
  unfold f_X1_isOf f_X1_isOf_26 f_X1_isOf_27
  by_cases q1 : C = C'
  · rw [if_pos q1]
    by_cases q2 : R = R'
    · rw [if_pos q2, a1]
      refine ⟨r1, rfl, ?_⟩
      rcases b1 with e | ⟨e, _, f⟩
      · exact Or.inl e
      · exact Or.inr ⟨e, q1, q2, f⟩
    · rw [if_neg q2, a0]
      exact ⟨r0, rfl, Or.inl z0⟩
  · rw [if_neg q1, a0]
    exact ⟨r0, rfl, Or.inl z0⟩
theorem nar_b0 : vp_nar .boolean 0 = 0 := by decide
theorem nar_b1 : vp_nar .boolean 1 = 1 := by decide
theorem e_become (kn nu nv : Nat → Int32) (C R : Int32) : f_X1_become kn nu C R nv = some (C, R, (fun k => if k < 21 then 0 else kn k), va_cpy nv nu 0 0 7) := by
  unfold f_X1_become f_X1_become_33
  refine (ox_for (r := fun k => if k < 21 then 0 else kn k) (fun i => ((fun k => if k < i then 0 else kn k), nI i)) 21 (by rw [← lt0]; rfl) (by omega) ?_ ?_).trans ?_
  · intro i hi k
    show f_X1_become_33b C R _ _ (nI i) k = _
    unfold f_X1_become_33b
    rw [if_neg (show ¬ (20 : Int32) < nI i from nI_nlt (a := 20) (b := i) (by omega) (by omega)), if_pos (inb_nI hi (by decide)), nI_clamp (by omega), nI_1, nar_b0, upd_lt (g := fun _ => 0) rfl]
  · intro k
    show f_X1_become_33b C R _ _ (nI 21) k = _
    unfold f_X1_become_33b
    rw [if_pos (show (20 : Int32) < nI 21 by decide)]
  · rfl
theorem e_by13 {nu nk kn : Nat → Int32} {mo : Nat → Nat → Int32} {w h p dr lo : Nat} (h1 : 2 ≤ w) (h2 : w ≤ 6) (h3 : 2 ≤ h) (h4 : h ≤ 6) (hp : 0 < p) (hp2 : p < 21) (hlo : nu 2 = nI lo) (hlo1 : 0 < lo) (hlo2 : lo < 1000) (hdr : nu 6 = nI dr) (hdr2 : dr < w * h) (hk : ∀ k, k < 7 → k ≠ 4 → k ≠ 5 → nk k = nu k) (hcv : CV (nI w) (nI h) nk kn mo) (a b lw : Nat → Int32) :
    ∃ H V L kn' mo', f_X1_by_13 (nI w) (nI h) a b lw kn nk (nI w) (nI h) nu mo (nI p) = some (nI p, nI w, nI h, H, V, L, kn', nk, mo') ∧ CV (nI w) (nI h) nk kn' mo' ∧ ∀ c, c < w * h → mo' p c = MOT w h nu p dr c := by
  have h36 := mul36 h2 h4
  have hkd : nk 6 = nI dr := by rw [hk 6 (by omega) (by omega) (by omega), hdr]
  unfold f_X1_by_13 f_X1_by_43
  rw [if_pos (inb_nI hp2 (by decide)), if_pos (inb_nI hp2 (by decide)), nI_clamp (by omega)]
  by_cases q : kn p = 0
  · obtain ⟨H, V, L, M, e, hm⟩ := e_workOut h1 h2 h3 h4 hp (by omega) hlo hlo1 hlo2 hdr hdr2 a b lw (mo p)
    rw [if_pos q, e, ob4_s, if_pos (inb_nI hp2 (by decide))]
    refine ⟨_, _, _, _, _, rfl, ?_, ?_⟩
    · intro r hr
      by_cases qr : r = p
      · right
        intro w' h' dr' e1 e2 e3 b1 b2 b3 b4 b5 c hc
        have f1 : w' = w := ((nI_eq (by omega) (by omega)).mp e1).symm
        have f2 : h' = h := ((nI_eq (by omega) (by omega)).mp e2).symm
        subst f1 f2
        have f3 : dr' = dr := ((nI_eq (by omega) (by omega)).mp (hkd.symm.trans e3)).symm
        subst f3
        rw [qr, va_up_self, hm c hc]
        exact MOT_congr h1 h2 h3 h4 (fun k hk4 => (hk k (by omega) (by omega) (by omega)).symm) hc
      · rcases hcv r hr with z | z
        · left
          rw [pk_un qr]; exact z
        · right
          rw [va_up_ne _ _ qr]; exact z
    · intro c hc
      rw [va_up_self]; exact hm c hc
  · rw [if_neg q]
    refine ⟨_, _, _, _, _, rfl, hcv, ?_⟩
    intro c hc
    rcases hcv p hp2 with z | z
    · exact absurd z q
    · rw [z w h dr rfl rfl hkd h1 h2 h3 h4 hdr2 c hc]
      exact MOT_congr h1 h2 h3 h4 (fun k hk4 => hk k (by omega) (by omega) (by omega)) hc
theorem e_by {nu nk kn : Nat → Int32} {mo : Nat → Nat → Int32} {C R : Int32} {w h p dr lo : Nat} (h1 : 2 ≤ w) (h2 : w ≤ 6) (h3 : 2 ≤ h) (h4 : h ≤ 6) (hp : 0 < p) (hp2 : p < 21) (hlo : nu 2 = nI lo) (hlo1 : 0 < lo) (hlo2 : lo < 1000) (hdr : nu 6 = nI dr) (hdr2 : dr < w * h) (hcv : CV C R nk kn mo) (a b lw : Nat → Int32) :
    ∃ C' R' H V L kn' nk' mo', f_X1_by C R a b lw kn nk (nI w) (nI h) nu mo (nI p) = some (nI p, C', R', H, V, L, kn', nk', mo') ∧ CV C' R' nk' kn' mo' ∧ ∀ c, c < w * h → mo' p c = MOT w h nu p dr c := by
  unfold f_X1_by
  obtain ⟨r, e, hr⟩ := e_isOf C R (nI w) (nI h) nk nu
  rw [e, ob1_s]
  rcases hr with z | ⟨z, rfl, rfl, hk⟩
  · rw [if_pos z, e_become, ob4_s]
    obtain ⟨H, V, L, kn', mo', e1, e2, e3⟩ := e_by13 (nk := va_cpy nu nk 0 0 7) (kn := fun k => if k < 21 then 0 else kn k) (mo := mo) h1 h2 h3 h4 hp hp2 hlo hlo1 hlo2 hdr hdr2 (fun k hk _ _ => by rw [pk_cpy_in (by omega) (by omega)]; simp) (fun q hq => Or.inl (if_pos hq)) a b lw
    exact ⟨_, _, _, _, _, _, _, _, e1, e2, e3⟩
  · rw [if_neg (by rw [z]; decide)]
    obtain ⟨H, V, L, kn', mo', e1, e2, e3⟩ := e_by13 h1 h2 h3 h4 hp hp2 hlo hlo1 hlo2 hdr hdr2 hk hcv a b lw
    exact ⟨_, _, _, _, _, _, _, _, e1, e2, e3⟩
