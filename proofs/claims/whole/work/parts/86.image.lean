/-! kept images -/
def II (iW iH : Nat → Int32) (iN iF iG : Nat → Nat → Int32) (kp : Nat → Int32) (z o : Int32) (im : Nat → Int32) : Prop := (z = 0 ∨ z = 1) ∧ (o = 0 ∨ o = 1) ∧ kp 0 = z ∧ kp 1 = o ∧ (z = 1 → PR (iW 0) (iH 0) (iN 0) (iF 0) (iG 0) (blk im 0)) ∧ (o = 1 → PR (iW 1) (iH 1) (iN 1) (iF 1) (iG 1) (blk im 1))
theorem e_keep14 {j : Nat} (hj : j < 2) (z o : Int32) (sv im : Nat → Int32) : f_X8_keep_14 z o sv im (nI j) 0 = f_X8_keep_43 z o sv (fun c => if 81 * j ≤ c ∧ c < 81 * j + 81 then sv (c - 81 * j) else im c) (nI j) := by
  unfold f_X8_keep_14
  refine (ox_for (r := fun c => if 81 * j ≤ c ∧ c < 81 * j + 81 then sv (c - 81 * j) else im c) (fun i => ((fun c => if 81 * j ≤ c ∧ c < 81 * j + i then sv (c - 81 * j) else im c), nI i)) 81 (by rw [seg0]; rfl) (by omega) ?_ ?_)
  · intro i hi k
    show f_X8_keep_14b z o sv (nI j) _ (nI i) k = _
    unfold f_X8_keep_14b
    rw [if_neg (show ¬ (81 : Int32) ≤ nI i from nI_ge (a := i) (b := 81) hi (by omega)), if_pos (inb_nI hi (by decide)), show (81 : Int32) * nI j = nI (81 * j) from pk_mul 81 j, nI_add, if_pos (inb_nI (by omega) (by decide)), nI_clamp (by omega), nI_clamp (by omega), nI_1, upd_seg rfl]
  · intro k
    show f_X8_keep_14b z o sv (nI j) _ (nI 81) k = _
    unfold f_X8_keep_14b
    rw [if_pos (show (81 : Int32) ≤ nI 81 by decide)]
theorem blk_seg {sv im : Nat → Int32} {i j k : Nat} (hk : k < 81) : blk (fun c => if 81 * j ≤ c ∧ c < 81 * j + 81 then sv (c - 81 * j) else im c) i k = if i = j then sv k else blk im i k := by
  show (if 81 * j ≤ 81 * i + k ∧ 81 * i + k < 81 * j + 81 then sv (81 * i + k - 81 * j) else im (81 * i + k)) = _
  by_cases e : i = j
  · rw [if_pos (by omega), if_pos e, show 81 * i + k - 81 * j = k by omega]
  · rw [if_neg (by omega), if_neg e]; rfl
theorem k81_1 {sv : Nat → Int32} {w h : Nat} (h0 : sv 0 = nI w) (hh : sv 1 = nI h) (z : Int32) (im : Nat → Int32) : f_X8_keep_81 z sv im 1 = some (nI (w * h), z, 1, im) := by
  unfold f_X8_keep_81
  rw [if_pos (Or.inr rfl), e8_cells h0 hh, ob1_s]
theorem k81_0 {sv : Nat → Int32} {w h : Nat} (h0 : sv 0 = nI w) (hh : sv 1 = nI h) (z : Int32) (im : Nat → Int32) : f_X8_keep_81 z sv im 0 = some (nI (w * h), z, 0, im) := by
  unfold f_X8_keep_81
  rw [if_pos (Or.inl rfl), e8_cells h0 hh, ob1_s]
theorem e_keep {w h : Nat} {nu fi gr sv : Nat → Int32} {iW iH : Nat → Int32} {iN iF iG : Nat → Nat → Int32} {kp : Nat → Int32} {z o : Int32} {im : Nat → Int32} (hP : PW w h nu fi gr sv) (hI : II iW iH iN iF iG kp z o im) (ad : Nat → Nat) (x : Int32) :
    ∃ r iW' iH' iN' iF' iG' kp' z' o' im', f_X7_keep (nI w) (nI h) nu fi gr ad iW iH iN iF iG kp x = some (r, iW', iH', iN', iF', iG', kp') ∧ f_X8_keep z o sv im x = some (r, z', o', im') ∧ II iW' iH' iN' iF' iG' kp' z' o' im' := by
  obtain ⟨⟨a1, a2, a3, a4⟩, ⟨b1, b2⟩, _⟩ := id hP
  unfold f_X7_keep f_X8_keep f_X7_keep_9
  rw [show (1 : Int64) = (nI 2 - 1).toInt64 by decide]
  rcases pk_ix x (n := 2) (by omega) with q | q | ⟨j, hj, rfl⟩
  · rw [if_pos q, in_no1 _ q, ob1_s, if_pos rfl]
    exact ⟨_, _, _, _, _, _, _, _, _, _, rfl, rfl, hI⟩
  · rw [if_neg (ge_nn (by omega) q), if_neg (show ¬ x < 2 from i_nlt q), in_no2 (by omega) (by omega) q, ob1_s, if_pos rfl]
    exact ⟨_, _, _, _, _, _, _, _, _, _, rfl, rfl, hI⟩
  · rw [if_neg (nI_pos (n := j) (by omega)), if_pos (show nI j < 2 from nI_lt (a := j) (b := 2) hj (by omega)), in_yes hj (by omega), ob1_s, if_neg (show ¬ (1 : Int32) = 0 by decide), e_keep14 hj]
    unfold f_X8_keep_43 f_X8_keep_55 f_X8_keep_60 f_X8_keep_76
    simp only [k81_1 b1 b2, k81_0 b1 b2, e_take, ob5_s, e_cells, ob1_s, nar_b1]
    obtain ⟨i1, i2, i3, i4, i5, i6⟩ := hI
    have hPR : PR (nI w) (nI h) nu fi gr sv := ⟨w, h, rfl, rfl, hP⟩
    rcases (show j = 0 ∨ j = 1 by omega) with e | e <;> subst e
    · rw [if_pos (show nI 0 = 0 by decide), if_pos (inb_nI (show 0 < 2 by omega) (by decide)), nI_clamp (by omega)]
      refine ⟨_, _, _, _, _, _, _, 1, o, (fun c => if 81 * 0 ≤ c ∧ c < 81 * 0 + 81 then sv (c - 81 * 0) else im c), rfl, ?_, Or.inr rfl, i2, by rw [pk_us], by rw [pk_un (by omega), i4], fun _ => ?_, fun ho => ?_⟩
      · rcases i1 with e | e <;> rcases i2 with f | f <;> subst e <;> subst f <;> rfl
      · simp only [va_up_self]
        exact PR_take _ _ _ hPR (fun k hk => by rw [blk_seg hk, if_pos rfl])
      · simp only [va_up_ne _ _ (show 1 ≠ 0 by omega)]
        exact PR_congr (i6 ho) (fun _ _ => rfl) (fun _ _ => rfl) (fun _ _ => rfl) (fun k hk => by rw [blk_seg hk, if_neg (by omega)])
    · rw [if_neg (show ¬ nI 1 = 0 by decide), if_pos (show nI 1 = 1 by decide), if_pos (inb_nI (show 1 < 2 by omega) (by decide)), nI_clamp (by omega)]
      refine ⟨_, _, _, _, _, _, _, z, 1, (fun c => if 81 * 1 ≤ c ∧ c < 81 * 1 + 81 then sv (c - 81 * 1) else im c), rfl, ?_, i1, Or.inr rfl, by rw [pk_un (by omega), i3], by rw [pk_us], fun hz => ?_, fun _ => ?_⟩
      · rcases i1 with e | e <;> rcases i2 with f | f <;> subst e <;> subst f <;> rfl
      · simp only [va_up_ne _ _ (show 0 ≠ 1 by omega)]
        exact PR_congr (i5 hz) (fun _ _ => rfl) (fun _ _ => rfl) (fun _ _ => rfl) (fun k hk => by rw [blk_seg hk, if_neg (by omega)])
      · simp only [va_up_self]
        exact PR_take _ _ _ hPR (fun k hk => by rw [blk_seg hk, if_pos rfl])
theorem e_back38 {j : Nat} (hj : j < 2) (sv im : Nat → Int32) : f_X8_back_38 sv im (nI j) 0 = f_X8_back_67 (fun c => if c < 81 then blk im j c else sv c) := by
  unfold f_X8_back_38
  refine (ox_for (r := fun c => if c < 81 then blk im j c else sv c) (fun i => ((fun c => if c < i then blk im j c else sv c), nI i)) 81 (by rw [← lt0]; rfl) (by omega) ?_ ?_)
  · intro i hi k
    show f_X8_back_38b im (nI j) _ (nI i) k = _
    unfold f_X8_back_38b
    rw [if_neg (show ¬ (81 : Int32) ≤ nI i from nI_ge (a := i) (b := 81) hi (by omega)), show (81 : Int32) * nI j = nI (81 * j) from pk_mul 81 j, nI_add, if_pos (inb_nI (by omega) (by decide)), if_pos (inb_nI hi (by decide)), nI_clamp (by omega), nI_clamp (by omega), nI_1, upd_lt (g := blk im j) (show im (81 * j + i) = blk im j i from rfl)]
  · intro k
    show f_X8_back_38b im (nI j) _ (nI 81) k = _
    unfold f_X8_back_38b
    rw [if_pos (show (81 : Int32) ≤ nI 81 by decide)]
theorem e_back {kn : Nat} (hk : kn ≤ 6) {W H : Int32} {nu fi gr sv : Nat → Int32} {iW iH : Nat → Int32} {iN iF iG : Nat → Nat → Int32} {kp : Nat → Int32} {z o : Int32} {im : Nat → Int32} (hP : PR W H nu fi gr sv) (hI : II iW iH iN iF iG kp z o im) (ad : Nat → Nat) (x : Int32) :
    ∃ r W' H' nu' fi' gr' k' sv', k' ≤ kn ∧ f_X7_back W H nu fi gr (nI kn) ad iW iH iN iF iG kp x = some (r, W', H', nu', fi', gr', nI k') ∧ f_X8_back (nI kn) z o sv im x = some (r, nI k', sv') ∧ PR W' H' nu' fi' gr' sv' := by
  unfold f_X7_back f_X8_back f_X7_back_9 f_X8_back_33 f_X8_back_36
  rw [show (1 : Int64) = (nI 2 - 1).toInt64 by decide]
  rcases pk_ix x (n := 2) (by omega) with q | q | ⟨j, hj, rfl⟩
  · rw [if_pos q, in_no1 _ q, ob1_s, if_pos rfl]
    exact ⟨_, _, _, _, _, _, kn, _, Nat.le_refl _, rfl, rfl, hP⟩
  · rw [if_neg (ge_nn (by omega) q), if_neg (show ¬ x < 2 from i_nlt q), in_no2 (by omega) (by omega) q, ob1_s, if_pos rfl]
    exact ⟨_, _, _, _, _, _, kn, _, Nat.le_refl _, rfl, rfl, hP⟩
  · rw [if_neg (nI_pos (n := j) (by omega)), if_pos (show nI j < 2 from nI_lt (a := j) (b := 2) hj (by omega)), in_yes hj (by omega), ob1_s, if_neg (show ¬ (1 : Int32) = 0 by decide), if_pos (inb_nI hj (by decide)), nI_clamp (by omega), e_back38 hj]
    unfold f_X8_back_67
    simp only [e_take, ob5_s]
    obtain ⟨i1, i2, i3, i4, i5, i6⟩ := hI
    have hN : ∀ i, PR (iW i) (iH i) (iN i) (iF i) (iG i) (blk im i) → ∃ w h, iW i = nI w ∧ iH i = nI h ∧ (fun c => if c < 81 then blk im i c else sv c) 0 = nI w ∧ (fun c => if c < 81 then blk im i c else sv c) 1 = nI h ∧ PR (iW i) (iH i) (tk7 (iN i) nu) (tk36 (iF i) fi) (tk36 (iG i) gr) (fun c => if c < 81 then blk im i c else sv c) := fun i hi => by
      have hT := PR_take (sv' := fun c => if c < 81 then blk im i c else sv c) nu fi gr hi (fun k hk81 => if_pos hk81)
      obtain ⟨w, h, e1, e2, e3⟩ := id hT
      exact ⟨w, h, e1, e2, e3.2.1.1, e3.2.1.2, hT⟩
    rcases (show j = 0 ∨ j = 1 by omega) with e | e <;> subst e
    · rw [if_pos (show nI 0 = 0 by decide), if_pos (show nI 0 = 0 by decide), i3]
      by_cases y : z = 0
      · rw [if_pos y, if_pos y]
        exact ⟨_, _, _, _, _, _, kn, _, Nat.le_refl _, rfl, rfl, hP⟩
      · obtain ⟨w, h, e1, e2, e3, e4, e5⟩ := hN 0 (i5 (by rcases i1 with s | s; exact absurd s y; exact s))
        rw [if_neg y, if_neg y, e8_cells (sv := fun c => if c < 81 then blk im 0 c else sv c) e3 e4, ob1_s]
        refine ⟨_, _, _, _, _, _, 0, _, Nat.zero_le _, ?_, rfl, e5⟩
        rw [e1, e2, e_cells, ob1_s]; rfl
    · rw [if_neg (show ¬ nI 1 = 0 by decide), if_neg (show ¬ nI 1 = 0 by decide), if_pos (show nI 1 = 1 by decide), i4]
      by_cases y : o = 0
      · rw [if_pos y, if_pos y]
        exact ⟨_, _, _, _, _, _, kn, _, Nat.le_refl _, rfl, rfl, hP⟩
      · obtain ⟨w, h, e1, e2, e3, e4, e5⟩ := hN 1 (i6 (by rcases i2 with s | s; exact absurd s y; exact s))
        rw [if_neg y, if_neg y, e8_cells (sv := fun c => if c < 81 then blk im 1 c else sv c) e3 e4, ob1_s]
        refine ⟨_, _, _, _, _, _, 0, _, Nat.zero_le _, ?_, rfl, e5⟩
        rw [e1, e2, e_cells, ob1_s]; rfl
