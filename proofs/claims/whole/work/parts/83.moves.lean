/-! the history on both sides; changes of the plate -/
theorem rot_ne {α : Type} (f : Nat → α) {i : Nat} (h : ¬ i = 5) : rot6 f i = f (i + 1) := if_neg h
theorem e_record {kn : Nat} (hk : kn ≤ 6) {pW pH : Nat → Int32} {pN pF pG : Nat → Nat → Int32} {W H : Int32} {nu fi gr sv bf : Nat → Int32} (had : Nat → Nat) (hH : HI kn pW pH pN pF pG bf) (hP : PR W H nu fi gr sv) :
    ∃ k' had' pW' pH' pN' pF' pG' b', k' ≤ 6 ∧ f_X0_record (nI kn) had pW pH pN pF pG W H nu fi gr = some (nI k', had', pW', pH', pN', pF', pG') ∧ f_X8_note (nI kn) sv bf = some (nI k', b') ∧ HI k' pW' pH' pN' pF' pG' b' := by
  obtain ⟨b', e8, hb⟩ := e_note8 hk sv bf
  unfold f_X0_record
  by_cases q : kn < 6
  · rw [if_pos q] at e8
    rw [if_pos (show nI kn < 6 from nI_lt (a := kn) (b := 6) q (by omega)), e_rec13 q]
    refine ⟨kn + 1, _, _, _, _, _, _, b', by omega, rfl, e8, fun i hi => ?_⟩
    by_cases e : i = kn
    · subst e
      simp only [va_up_self]
      exact PR_take _ _ _ hP (fun k hk81 => by rw [hb i q k hk81, if_pos q, if_pos rfl])
    · simp only [va_up_ne _ _ e]
      exact PR_congr (hH i (by omega)) (fun _ _ => rfl) (fun _ _ => rfl) (fun _ _ => rfl) (fun k hk81 => by rw [hb i (by omega) k hk81, if_pos q, if_neg e])
  · have e6 : kn = 6 := by omega
    subst e6
    rw [if_neg q] at e8
    unfold f_X0_loseOldest
    rw [if_neg (show ¬ nI 6 < 6 by decide), ob7_s, show (5 : Int32) = nI 5 by decide, e_rec13 (by omega)]
    refine ⟨6, _, _, _, _, _, _, b', by omega, rfl, e8, fun i hi => ?_⟩
    by_cases e : i = 5
    · subst e
      simp only [va_up_self]
      exact PR_take _ _ _ hP (fun k hk81 => by rw [hb 5 (by omega) k hk81, if_neg q, if_pos rfl])
    · simp only [va_up_ne _ _ e, rot_ne _ e]
      exact PR_congr (hH (i + 1) (by omega)) (fun _ _ => rfl) (fun _ _ => rfl) (fun _ _ => rfl) (fun k hk81 => by rw [hb i (by omega) k hk81, if_neg q, if_neg e])
theorem HI_le {kn j : Nat} {pW pH : Nat → Int32} {pN pF pG : Nat → Nat → Int32} {bf : Nat → Int32} (h : HI kn pW pH pN pF pG bf) (hj : j ≤ kn) : HI j pW pH pN pF pG bf := fun i hi => h i (by omega)
theorem e_undo22 {j : Nat} (hj : j < 6) (sv bf : Nat → Int32) : f_X8_undo_22 (nI j) sv bf 0 = some (nI j, nI j, fun c => if c < 81 then blk bf j c else sv c) := by
  unfold f_X8_undo_22
  refine (ox_for (r := fun c => if c < 81 then blk bf j c else sv c) (fun i => ((fun c => if c < i then blk bf j c else sv c), nI i)) 81 (by rw [← lt0]; rfl) (by omega) ?_ ?_).trans ?_
  · intro i hi k
    show f_X8_undo_22b (nI j) bf _ (nI i) k = _
    unfold f_X8_undo_22b
    rw [if_neg (show ¬ (81 : Int32) ≤ nI i from nI_ge (a := i) (b := 81) hi (by omega)), show (81 : Int32) * nI j = nI (81 * j) from pk_mul 81 j, nI_add, if_pos (inb_nI (by omega) (by decide)), if_pos (inb_nI hi (by decide)), nI_clamp (by omega), nI_clamp (by omega), nI_1, upd_lt (g := blk bf j) (show bf (81 * j + i) = blk bf j i from rfl)]
  · intro k
    show f_X8_undo_22b (nI j) bf _ (nI 81) k = _
    unfold f_X8_undo_22b
    rw [if_pos (show (81 : Int32) ≤ nI 81 by decide)]
  · rfl
theorem e_back0 {j : Nat} (hj : j < 6) (had : Nat → Nat) (pW pH : Nat → Int32) (pN pF pG : Nat → Nat → Int32) (W H : Int32) (nu fi gr : Nat → Int32) :
    f_X0_takeBack (nI (j + 1)) had pW pH pN pF pG W H nu fi gr = some (1, nI j, pW j, pH j, tk7 (pN j) nu, tk36 (pF j) fi, tk36 (pG j) gr) := by
  unfold f_X0_takeBack
  simp only [e_take, ob5_s]
  rw [if_pos (show (0 : Int32) < nI (j + 1) from nI_lt (a := 0) (by omega) (by omega)), nI_pred]
  rcases (show j = 0 ∨ j = 1 ∨ j = 2 ∨ j = 3 ∨ j = 4 ∨ j = 5 by omega) with e | e | e | e | e | e <;> subst e
  · rw [if_pos (show nI 0 = 0 by decide)]
  · rw [if_neg (show ¬ nI 1 = 0 by decide), if_pos (show nI 1 = 1 by decide)]
  · rw [if_neg (show ¬ nI 2 = 0 by decide), if_neg (show ¬ nI 2 = 1 by decide), if_pos (show nI 2 = 2 by decide)]
  · rw [if_neg (show ¬ nI 3 = 0 by decide), if_neg (show ¬ nI 3 = 1 by decide), if_neg (show ¬ nI 3 = 2 by decide), if_pos (show nI 3 = 3 by decide)]
  · rw [if_neg (show ¬ nI 4 = 0 by decide), if_neg (show ¬ nI 4 = 1 by decide), if_neg (show ¬ nI 4 = 2 by decide), if_neg (show ¬ nI 4 = 3 by decide), if_pos (show nI 4 = 4 by decide)]
  · rw [if_neg (show ¬ nI 5 = 0 by decide), if_neg (show ¬ nI 5 = 1 by decide), if_neg (show ¬ nI 5 = 2 by decide), if_neg (show ¬ nI 5 = 3 by decide), if_neg (show ¬ nI 5 = 4 by decide), if_pos (show nI 5 = 5 by decide)]
theorem e_undo {kn : Nat} (hk : kn ≤ 6) {pW pH : Nat → Int32} {pN pF pG : Nat → Nat → Int32} {W H : Int32} {nu fi gr sv bf : Nat → Int32} (had : Nat → Nat) (hH : HI kn pW pH pN pF pG bf) (hP : PR W H nu fi gr sv) :
    ∃ r W' H' nu' fi' gr' k' sv', k' ≤ 6 ∧ f_X7_undo W H nu fi gr (nI kn) had pW pH pN pF pG = some (r, W', H', nu', fi', gr', nI k') ∧ f_X8_undo (nI kn) sv bf = some (r, nI k', sv') ∧ PR W' H' nu' fi' gr' sv' ∧ HI k' pW pH pN pF pG bf := by
  unfold f_X7_undo f_X8_undo f_X7_undo_26
  cases kn with
  | zero =>
    refine ⟨-2, W, H, nu, fi, gr, 0, sv, by omega, ?_, ?_, hP, hH⟩
    · unfold f_X0_takeBack
      rw [if_neg (show ¬ (0 : Int32) < nI 0 by decide), ob7_s, if_pos rfl]
    · rw [if_pos (show nI 0 = 0 by decide)]
  | succ j =>
    refine ⟨nI j, pW j, pH j, tk7 (pN j) nu, tk36 (pF j) fi, tk36 (pG j) gr, j, fun c => if c < 81 then blk bf j c else sv c, by omega, ?_, ?_, ?_, HI_le hH (by omega)⟩
    · rw [e_back0 (by omega), ob7_s, if_neg (show ¬ (1 : Int32) = 0 by decide)]
    · rw [if_neg (show ¬ nI (j + 1) = 0 from nI_ne0 (by omega) (by omega)), nI_pred, e_undo22 (by omega)]
    · exact PR_take _ _ _ (hH j (by omega)) (fun k hk81 => if_pos hk81)
theorem PW_num {w h j : Nat} {nu fi gr sv : Nat → Int32} {v : Int32} (q : PW w h nu fi gr sv) (hj : j < 7) (hn : NR w h (upd nu j v)) : PW w h (upd nu j v) fi gr (upd sv (2 + j) v) := by
  obtain ⟨⟨a1, a2, a3, a4⟩, ⟨b1, b2⟩, b3, _, d1, d2, d3⟩ := q
  refine ⟨⟨a1, a2, a3, a4⟩, ⟨by rw [pk_un (by omega), b1], by rw [pk_un (by omega), b2]⟩, fun k hk => ?_, hn, fun k hk => by rw [pk_un (by omega)]; exact d1 k hk, fun k hk => by rw [pk_un (by omega)]; exact d2 k hk, d3⟩
  by_cases e : k = j
  · rw [e, pk_us, pk_us]
  · rw [pk_un (show 2 + k ≠ 2 + j by omega), pk_un e, b3 k hk]
theorem e_change {kn w h j : Nat} (hk : kn ≤ 6) {pW pH : Nat → Int32} {pN pF pG : Nat → Nat → Int32} {nu fi gr sv bf : Nat → Int32} {v : Int32} (had : Nat → Nat) (hH : HI kn pW pH pN pF pG bf) (hP : PW w h nu fi gr sv) (hj : j < 7) (hn : NR w h (upd nu j v)) :
    ∃ r nu' k' had' pW' pH' pN' pF' pG' sv' b', k' ≤ 6 ∧ f_X7_change (nI w) (nI h) nu fi gr (nI kn) had pW pH pN pF pG (nI j) v = some (r, nu', nI k', had', pW', pH', pN', pF', pG') ∧ f_X8_becomes (nI kn) sv bf (nI (2 + j)) v = some (r, nI k', sv', b') ∧ PW w h nu' fi gr sv' ∧ HI k' pW' pH' pN' pF' pG' b' := by
  unfold f_X7_change f_X8_becomes
  have h81 : sv (2 + j) = nu j := hP.2.2.1 j hj
  rw [if_pos (inb_nI hj (by decide)), if_pos (inb_nI (show 2 + j < 81 by omega) (by decide)), nI_clamp (by omega), nI_clamp (by omega), h81]
  by_cases q : nu j = v
  · rw [if_pos q, if_pos q]
    exact ⟨_, _, kn, _, _, _, _, _, _, _, _, hk, rfl, rfl, hP, hH⟩
  · obtain ⟨k', had', pW', pH', pN', pF', pG', b', f1, f2, f3, f4⟩ := e_record hk had hH ⟨w, h, rfl, rfl, hP⟩
    rw [if_neg q, if_neg q, f2, f3, ob7_s, ob2_s, if_pos (inb_nI hj (by decide)), if_pos (inb_nI (show 2 + j < 81 by omega) (by decide))]
    exact ⟨_, _, k', _, _, _, _, _, _, _, _, f1, rfl, rfl, PW_num hP hj hn, f4⟩
theorem may94_0 : f_X8_may_94 0 = some 0 := by decide
theorem may94_1 : f_X8_may_94 1 = some 1 := by decide
theorem may94 (P : Prop) [Decidable P] : f_X8_may_94 (if P then 1 else 0) = some (if P then 1 else 0) := by
  by_cases q : P
  · rw [if_pos q, may94_1]
  · rw [if_neg q, may94_0]
theorem e_may {j : Nat} (hj : j < 6) (v : Int32) : f_X8_may (nI j) v = some (if tbl1 j ≤ v ∧ v ≤ tbl2 j then 1 else 0) := by
  unfold f_X8_may f_X8_may_41 f_X8_may_93
  rw [show (0 : Int64) = (0 : Int32).toInt64 by decide, show (1 : Int64) = (1 : Int32).toInt64 by decide, show (7 : Int64) = (7 : Int32).toInt64 by decide, show (2 : Int64) = (2 : Int32).toInt64 by decide, show (20 : Int64) = (20 : Int32).toInt64 by decide, show (99 : Int64) = (99 : Int32).toInt64 by decide]
  simp only [e8_inI, ob1_s, may94]
  rcases (show j = 0 ∨ j = 1 ∨ j = 2 ∨ j = 3 ∨ j = 4 ∨ j = 5 by omega) with e | e | e | e | e | e <;> subst e
  · rw [if_pos (show nI 0 = 0 by decide)]; rfl
  · rw [if_neg (show ¬ nI 1 = 0 by decide), if_pos (show nI 1 = 1 by decide)]; rfl
  · rw [if_neg (show ¬ nI 2 = 0 by decide), if_neg (show ¬ nI 2 = 1 by decide), if_pos (show nI 2 = 2 by decide)]; rfl
  · rw [if_neg (show ¬ nI 3 = 0 by decide), if_neg (show ¬ nI 3 = 1 by decide), if_neg (show ¬ nI 3 = 2 by decide), if_neg (show ¬ nI 3 = 4 by decide), if_pos (show nI 3 = 3 by decide)]; rfl
  · rw [if_neg (show ¬ nI 4 = 0 by decide), if_neg (show ¬ nI 4 = 1 by decide), if_neg (show ¬ nI 4 = 2 by decide), if_pos (show nI 4 = 4 by decide)]; rfl
  · rw [if_neg (show ¬ nI 5 = 0 by decide), if_neg (show ¬ nI 5 = 1 by decide), if_neg (show ¬ nI 5 = 2 by decide), if_neg (show ¬ nI 5 = 4 by decide), if_neg (show ¬ nI 5 = 3 by decide), if_pos (show nI 5 = 5 by decide)]
    show _ = some (if 0 ≤ v ∧ v ≤ 99 then 1 else 0)
    by_cases q : 0 ≤ v ∧ v ≤ 99
    · rw [if_pos q, if_neg (show ¬ (1 : Int32) = 0 by decide), may94_1]
    · rw [if_neg q, if_pos rfl, may94_0]
