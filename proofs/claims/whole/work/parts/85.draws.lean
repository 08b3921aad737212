/-! drawing, sand, images -/
theorem PW_fig {w h c : Nat} {nu fi gr sv : Nat → Int32} {v : Int32} (q : PW w h nu fi gr sv) (hc : c < 36) (hv : v = 0 ∨ v = 1) : PW w h nu (upd fi c v) gr (upd sv (9 + c) v) := by
  obtain ⟨⟨a1, a2, a3, a4⟩, ⟨b1, b2⟩, b3, b4, d1, d2, d3⟩ := q
  refine ⟨⟨a1, a2, a3, a4⟩, ⟨by rw [pk_un (by omega), b1], by rw [pk_un (by omega), b2]⟩, fun k hk => by rw [pk_un (by omega)]; exact b3 k hk, b4, fun k hk => ?_, fun k hk => by rw [pk_un (by omega)]; exact d2 k hk, d3⟩
  by_cases e : k = c
  · rw [e, pk_us, pk_us]; exact ⟨rfl, hv⟩
  · rw [pk_un (show 9 + k ≠ 9 + c by omega), pk_un e]; exact d1 k hk
theorem PW_figs {w h : Nat} {nu fi gr sv : Nat → Int32} (q : PW w h nu fi gr sv) : sumN (fun c => sv (9 + c)) (w * h) = sumN fi (w * h) := by
  obtain ⟨⟨a1, a2, a3, a4⟩, _, _, _, d1, _⟩ := q
  have h36 := mul36 a2 a4
  exact sumN_congr _ (fun k hk => (d1 k (by omega)).1)
theorem e_draws {kn w h : Nat} (hk : kn ≤ 6) {pW pH : Nat → Int32} {pN pF pG : Nat → Nat → Int32} {nu fi gr sv bf : Nat → Int32} (had : Nat → Nat) (hH : HI kn pW pH pN pF pG bf) (hP : PW w h nu fi gr sv) (x y v : Int32) :
    ∃ r fi' k' had' pW' pH' pN' pF' pG' sv' b', k' ≤ 6 ∧ f_X7_draws (nI w) (nI h) nu fi gr (nI kn) had pW pH pN pF pG x y v = some (r, fi', nI k', had', pW', pH', pN', pF', pG') ∧ f_X8_draws (nI kn) sv bf x y v = some (r, nI k', sv', b') ∧ PW w h nu fi' gr sv' ∧ HI k' pW' pH' pN' pF' pG' b' := by
  obtain ⟨⟨a1, a2, a3, a4⟩, ⟨b1, b2⟩, b3, b4, d1, d2, d3⟩ := id hP
  unfold f_X7_draws f_X8_draws f_X7_draws_25 f_X8_draws_19 f_X8_draws_53
  rcases cell_cases b1 b2 (by omega) a2 (by omega) a4 x y with ⟨i, j, hi, hj, rfl, rfl, c1, c2⟩ | ⟨c1, c2⟩
  · have hc := cellN_lt hi hj
    have h36 := mul36 a2 a4
    rw [c1, c2, ob1_s, ob1_s, if_neg (nI_pos (n := w * j + i) (by omega)), if_neg (show ¬ (1 : Int32) = 0 by decide), show (1 : Int64) = (nI 2 - 1).toInt64 by decide]
    rcases pk_ix v (n := 2) (by omega) with q | q | ⟨z, hz, rfl⟩
    · rw [if_pos q, in_no1 _ q, ob1_s, if_pos rfl]
      exact ⟨_, _, kn, _, _, _, _, _, _, _, _, hk, rfl, rfl, hP, hH⟩
    · rw [if_neg (ge_nn (by omega) q), if_neg (show ¬ v ≤ 1 from fun y => by
          have a1 := Int32.le_iff_toInt_le.mp q
          have a2 := Int32.le_iff_toInt_le.mp y
          rw [nI_toInt (by omega)] at a1
          have : (1 : Int32).toInt = 1 := by decide
          omega), in_no2 (by omega) (by omega) q, ob1_s, if_pos rfl]
      exact ⟨_, _, kn, _, _, _, _, _, _, _, _, hk, rfl, rfl, hP, hH⟩
    · have h01 : nI z = 0 ∨ nI z = 1 := by
        rcases (show z = 0 ∨ z = 1 by omega) with e | e <;> subst e
        · exact Or.inl rfl
        · exact Or.inr rfl
      obtain ⟨d1a, d1b⟩ := d1 (w * j + i) (by omega)
      have e9 : (9 : Int32) + nI w * nI j + nI i = nI (9 + (w * j + i)) := by
        rw [pk_mul, show (9 : Int32) + nI (w * j) = nI (9 + w * j) from nI_add 9 _, nI_add, Nat.add_assoc]
      unfold f_X8_becomes
      rw [if_neg (nI_pos (n := z) (by omega)), if_pos (show nI z ≤ 1 from nI_le (a := z) (b := 1) (by omega) (by omega)), in_yes hz (by omega), ob1_s, if_neg (show ¬ (1 : Int32) = 0 by decide), b1, e9, if_pos (inb_nI (show 9 + (w * j + i) < 81 by omega) (by decide)), if_pos (inb_nI (show w * j + i < 36 by omega) (by decide)), nI_clamp (by omega), nI_clamp (by omega), d1a]
      by_cases q : fi (w * j + i) = nI z
      · rw [if_pos q, if_pos q, ob4_s, if_pos rfl]
        exact ⟨_, _, kn, _, _, _, _, _, _, _, _, hk, rfl, rfl, hP, hH⟩
      · obtain ⟨k', had', pW', pH', pN', pF', pG', b', f1, f2, f3, f4⟩ := e_record hk had hH ⟨w, h, rfl, rfl, hP⟩
        have hP' := PW_fig hP (c := w * j + i) (v := nI z) (by omega) h01
        rw [if_neg q, if_neg q, f2, f3, ob7_s, ob2_s, if_pos (inb_nI (show 9 + (w * j + i) < 81 by omega) (by decide)), if_pos (inb_nI (show w * j + i < 36 by omega) (by decide)), ob4_s, if_neg (show ¬ fi (w * j + i) = -2 by rcases d1b with e | e <;> rw [e] <;> decide), e_cellsOfFigure h36, ob1_s, e8_figure hP'.2.1.1 hP'.2.1.2 h36, ob1_s, PW_figs hP']
        exact ⟨_, _, k', _, _, _, _, _, _, _, _, f1, rfl, rfl, hP', f4⟩
  · rw [c1, c2, ob1_s, ob1_s, if_pos (show (-1 : Int32) < 0 by decide), if_pos rfl]
    exact ⟨_, _, kn, _, _, _, _, _, _, _, _, hk, rfl, rfl, hP, hH⟩
theorem sum_not (g : Nat → Int32) : ∀ n, nI n - sumN (fun c => if g c = 1 then 1 else 0) n = sumN (fun c => if g c = 1 then 0 else 1) n
  | 0 => by show nI 0 - (0 : Int32) = 0; decide
  | n + 1 => by
    have ih := sum_not g n
    show nI (n + 1) - (sumN (fun c => if g c = 1 then 1 else 0) n + (if g n = 1 then 1 else 0)) = sumN (fun c => if g c = 1 then 0 else 1) n + (if g n = 1 then 0 else 1)
    rw [← ih, ← nI_1]
    by_cases q : g n = 1
    · rw [if_pos q, if_pos q]; grind
    · rw [if_neg q, if_neg q]; grind
theorem nsum_one : ∀ n, nsum (fun _ => 1) n = n
  | 0 => rfl
  | n + 1 => by show nsum (fun _ => 1) n + 1 = n + 1; rw [nsum_one n]
theorem PW_sand {w h : Nat} {nu fi gr sv gr' sv' : Nat → Int32} (q : PW w h nu fi gr sv) (e1 : ∀ k, k < 45 → sv' k = sv k) (e2 : ∀ k, k < w * h → sv' (45 + k) = gr' k) (e3 : GR (w * h) gr') : PW w h nu fi gr' sv' := by
  obtain ⟨⟨a1, a2, a3, a4⟩, ⟨b1, b2⟩, b3, b4, d1, d2, d3⟩ := q
  exact ⟨⟨a1, a2, a3, a4⟩, ⟨by rw [e1 0 (by omega), b1], by rw [e1 1 (by omega), b2]⟩, fun k hk => by rw [e1 _ (by omega)]; exact b3 k hk, b4, fun k hk => by rw [e1 _ (by omega)]; exact d1 k hk, e2, e3⟩
theorem e_sands52 (u : Int32) (sv bf : Nat → Int32) (r : Int32) : f_X8_sands_52 u sv bf r 0 = some (r, u, (fun c => if 45 ≤ c ∧ c < 45 + 36 then 1 else sv c), bf) := by
  unfold f_X8_sands_52
  refine (ox_for (r := fun c => if 45 ≤ c ∧ c < 45 + 36 then 1 else sv c) (fun i => ((fun c => if 45 ≤ c ∧ c < 45 + i then 1 else sv c), nI i)) 36 (by rw [seg0 (fun _ => 1) sv 45]; rfl) (by omega) ?_ ?_).trans ?_
  · intro i hi k
    show f_X8_sands_52b u bf r _ (nI i) k = _
    unfold f_X8_sands_52b
    rw [if_neg (show ¬ (36 : Int32) ≤ nI i from nI_ge (a := i) (b := 36) hi (by omega)), show (45 : Int32) + nI i = nI (45 + i) from nI_add 45 i, if_pos (inb_nI (by omega) (by decide)), nI_clamp (by omega), nI_1, upd_seg (g := fun _ => 1) rfl]
  · intro k
    show f_X8_sands_52b u bf r _ (nI 36) k = _
    unfold f_X8_sands_52b
    rw [if_pos (show (36 : Int32) ≤ nI 36 by decide)]
  · rfl
theorem e_sands4 {sv : Nat → Int32} {w h : Nat} (h0 : sv 0 = nI w) (hh : sv 1 = nI h) (h36 : w * h ≤ 36) (u : Int32) (bf : Nat → Int32) : f_X8_sands u sv bf = f_X8_sands_39 u sv bf (sumN (fun c => if sv (45 + c) = 1 then 0 else 1) (w * h)) := by
  unfold f_X8_sands f_X8_sands_4
  refine (ox_for (r := sumN (fun c => if sv (45 + c) = 1 then 0 else 1) (w * h)) (fun i => (sumN (fun c => if sv (45 + c) = 1 then 0 else 1) i, nI i)) (w * h) rfl (by omega) ?_ ?_)
  · intro i hi k
    show f_X8_sands_4b u sv bf (sumN (fun c => if sv (45 + c) = 1 then 0 else 1) i) (nI i) k = k (sumN (fun c => if sv (45 + c) = 1 then 0 else 1) i + (if sv (45 + i) = 1 then 0 else 1), nI (i + 1))
    unfold f_X8_sands_4b f_X8_sands_31
    rw [e8_cells h0 hh, ob1_s, if_neg (nI_ge hi (by omega)), show (45 : Int32) + nI i = nI (45 + i) from nI_add 45 i, if_pos (inb_nI (by omega) (by decide)), nI_clamp (by omega), nI_1]
    by_cases q : sv (45 + i) = 1
    · rw [if_pos q, if_pos q]
    · rw [if_neg q, if_neg q]
  · intro k
    show f_X8_sands_4b u sv bf _ (nI (w * h)) k = _
    unfold f_X8_sands_4b
    rw [e8_cells h0 hh, ob1_s, if_pos (nI_le (Nat.le_refl _) (by omega))]
theorem e_sands {kn w h : Nat} (hk : kn ≤ 6) {pW pH : Nat → Int32} {pN pF pG : Nat → Nat → Int32} {nu fi gr sv bf : Nat → Int32} (had : Nat → Nat) (hH : HI kn pW pH pN pF pG bf) (hP : PW w h nu fi gr sv) :
    ∃ r gr' k' had' pW' pH' pN' pF' pG' sv' b', k' ≤ 6 ∧ f_X7_sands (nI w) (nI h) nu fi gr (nI kn) had pW pH pN pF pG = some (r, gr', nI k', had', pW', pH', pN', pF', pG') ∧ f_X8_sands (nI kn) sv bf = some (r, nI k', sv', b') ∧ PW w h nu fi gr' sv' ∧ HI k' pW' pH' pN' pF' pG' b' := by
  obtain ⟨⟨a1, a2, a3, a4⟩, ⟨b1, b2⟩, b3, b4, d1, d2, d3⟩ := id hP
  have h36 := mul36 a2 a4
  have e : sumN (fun c => if sv (45 + c) = 1 then (0 : Int32) else 1) (w * h) = sumN (fun c => if gr c = 1 then 0 else 1) (w * h) := sumN_congr _ (fun k hk => by rw [d2 k hk])
  rw [e_sands4 b1 b2 h36, e]
  unfold f_X7_sands f_X8_sands_39 f_X2_layGrains
  rw [e_cells, ob1_s, e_cellsWithGrains h36, ob1_s, sum_not]
  by_cases q : sumN (fun c => if gr c = 1 then (0 : Int32) else 1) (w * h) = 0
  · rw [if_pos q, if_pos q]
    exact ⟨_, _, kn, _, _, _, _, _, _, _, _, hk, rfl, rfl, hP, hH⟩
  · obtain ⟨k', had', pW', pH', pN', pF', pG', b', f1, f2, f3, f4⟩ := e_record hk had hH ⟨w, h, rfl, rfl, hP⟩
    rw [if_neg q, if_neg q, f2, f3, ob7_s, ob2_s, e_fill (by decide), ob1_s, ob1_s, e_sands52]
    refine ⟨_, _, k', _, _, _, _, _, _, _, _, f1, rfl, rfl, PW_sand hP (fun k hk => if_neg (by omega)) (fun k hk => ?_) ⟨fun _ => 1, fun k hk => ?_, nsum_one _⟩, f4⟩
    · rw [if_pos (show 45 ≤ 45 + k ∧ 45 + k < 45 + 36 by omega), if_pos (show k < 36 by omega)]
    · show (if k < 36 then 1 else gr k) = nI 1
      rw [if_pos (show k < 36 by omega)]; rfl
