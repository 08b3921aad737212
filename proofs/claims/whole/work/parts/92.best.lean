/-! the period that comes nearest -/
theorem sum01 {f : Nat → Int32} : ∀ n, (∀ k, k < n → f k = 0 ∨ f k = 1) → ∃ m, m ≤ n ∧ sumN f n = nI m
  | 0, _ => ⟨0, Nat.le_refl _, rfl⟩
  | n + 1, h => by
    obtain ⟨m, hm, e⟩ := sum01 n (fun k hk => h k (by omega))
    show ∃ m, m ≤ n + 1 ∧ sumN f n + f n = nI m
    rw [e]
    rcases h n (by omega) with z | z
    · exact ⟨m, by omega, by rw [z]; exact nI_add m 0⟩
    · exact ⟨m + 1, by omega, by rw [z, nI_1]⟩
def bsF (lk : Nat → Int32) (i : Nat) (t : Int32 × Int32) : Int32 × Int32 := if lk i ≤ t.2 then t else (nI (2 + i), lk i)
def bsN (lk : Nat → Int32) (z : Int32 × Int32) (n : Nat) : Int32 × Int32 := itN (bsF lk) z n
theorem bs_same {lk : Nat → Int32} (h : ¬ lk 0 ≤ -1) (a b : Int32) : ∀ n, bsN lk (a, -1) (n + 1) = bsN lk (b, -1) (n + 1)
  | 0 => by
    show bsF lk 0 (a, -1) = bsF lk 0 (b, -1)
    unfold bsF
    rw [if_neg h, if_neg h]
  | n + 1 => by
    show bsF lk (n + 1) (bsN lk (a, -1) (n + 1)) = bsF lk (n + 1) (bsN lk (b, -1) (n + 1))
    rw [bs_same h a b n]
def lkM (w h : Nat) (nu fi : Nat → Int32) (dr i : Nat) : Int32 := sumN (lkL (nu 5) fi (MOT w h nu (2 + i) dr)) (w * h)
theorem lkL_01 (lim : Int32) (fi mo : Nat → Int32) (c : Nat) : lkL lim fi mo c = 0 ∨ lkL lim fi mo c = 1 := by
  unfold lkL
  by_cases q : sL_ lim mo c = (if fi c = 1 then 1 else 0)
  · rw [if_pos q]; exact Or.inr rfl
  · rw [if_neg q]; exact Or.inl rfl
theorem lkM_nn {w h : Nat} (h36 : w * h ≤ 36) (nu fi : Nat → Int32) (dr i : Nat) : ¬ lkM w h nu fi dr i ≤ -1 := by
  obtain ⟨m, hm, e⟩ := sum01 (f := lkL (nu 5) fi (MOT w h nu (2 + i) dr)) (w * h) (fun k _ => lkL_01 _ _ _ k)
  unfold lkM
  rw [e]
  intro q
  have a := Int32.le_iff_toInt_le.mp q
  rw [nI_toInt (by omega)] at a
  have : (-1 : Int32).toInt = -1 := by decide
  omega
theorem e_best18 {w h dr lo : Nat} {nu fi nk kn : Nat → Int32} {mo : Nat → Nat → Int32} {C R : Int32} (h1 : 2 ≤ w) (h2 : w ≤ 6) (h3 : 2 ≤ h) (h4 : h ≤ 6) (hlo : nu 2 = nI lo) (hlo1 : 0 < lo) (hlo2 : lo < 1000) (hdr : nu 6 = nI dr) (hdr2 : dr < w * h) (hcv : CV C R nk kn mo) (a b lw : Nat → Int32) (x : Int32) :
    ∃ C' R' H V L kn' nk' mo', CV C' R' nk' kn' mo' ∧ f_X7_best_18 (nI w) (nI h) nu fi C R a b lw kn nk mo x 2 (-1) 2 = f_X7_best_65 C' R' H V L kn' nk' mo' x (bsN (lkM w h nu fi dr) (2, -1) 19).1 (bsN (lkM w h nu fi dr) (2, -1) 19).2 := by
  have h36 := mul36 h2 h4
  obtain ⟨r, hr, e⟩ := vm_rel (step := f_X7_best_18s (nI w) (nI h) nu fi x) (s := (C, R, a, b, lw, kn, nk, mo, 2, -1, 2)) (fun i s => CV s.1 s.2.1 s.2.2.2.2.2.2.1 s.2.2.2.2.2.1 s.2.2.2.2.2.2.2.1 ∧ s.2.2.2.2.2.2.2.2.1 = (bsN (lkM w h nu fi dr) (2, -1) i).1 ∧ s.2.2.2.2.2.2.2.2.2.1 = (bsN (lkM w h nu fi dr) (2, -1) i).2 ∧ s.2.2.2.2.2.2.2.2.2.2 = nI (2 + i)) (fun s => CV s.1 s.2.1 s.2.2.2.2.2.2.1 s.2.2.2.2.2.1 s.2.2.2.2.2.2.2.1 ∧ s.2.2.2.2.2.2.2.2.1 = (bsN (lkM w h nu fi dr) (2, -1) 19).1 ∧ s.2.2.2.2.2.2.2.2.2 = (bsN (lkM w h nu fi dr) (2, -1) 19).2) 19 (by omega) ⟨hcv, rfl, rfl, rfl⟩ (by
    intro i hi s hR
    obtain ⟨y1, y2, y3, y4, y5, y6, y7, y8, y9, y10, y11⟩ := s
    obtain ⟨e1, e2, e3, e4⟩ := hR
    have e1 : CV y1 y2 y7 y6 y8 := e1
    have e2 : y9 = (bsN (lkM w h nu fi dr) (2, -1) i).1 := e2
    have e3 : y10 = (bsN (lkM w h nu fi dr) (2, -1) i).2 := e3
    have e4 : y11 = nI (2 + i) := e4
    have hs : ∀ k, f_X7_best_18s (nI w) (nI h) nu fi x (y1, y2, y3, y4, y5, y6, y7, y8, y9, y10, y11) k = f_X7_best_18b (nI w) (nI h) nu fi x y1 y2 y3 y4 y5 y6 y7 y8 y9 y10 y11 k := fun k => rfl
    by_cases q : i = 19
    · right
      subst q
      refine ⟨(y1, y2, y3, y4, y5, y6, y7, y8, y9, y10), ⟨e1, e2, e3⟩, fun k => ?_⟩
      rw [hs]
      unfold f_X7_best_18b
      rw [if_pos (by rw [e4]; decide)]
    · left
      obtain ⟨C', R', H, V, L, kn', nk', mo', f1, f2, f3⟩ := e_by h1 h2 h3 h4 (show 0 < 2 + i by omega) (show 2 + i < 21 by omega) hlo hlo1 hlo2 hdr hdr2 e1 y3 y4 y5
      have hl : sumN (lkS nu fi (mo' (2 + i))) (w * h) = lkM w h nu fi dr i := sumN_congr _ (fun k hk => by
        unfold lkS lkL
        rw [stB_L, sL_eq (f3 k hk)])
      have hb : bsN (lkM w h nu fi dr) (2, -1) (i + 1) = if lkM w h nu fi dr i ≤ y10 then (y9, y10) else (nI (2 + i), lkM w h nu fi dr i) := by
        show bsF (lkM w h nu fi dr) i (bsN (lkM w h nu fi dr) (2, -1) i) = _
        rw [e2, e3] <;> rfl
      have hx : ∀ k, f_X7_best_18s (nI w) (nI h) nu fi x (y1, y2, y3, y4, y5, y6, y7, y8, y9, y10, y11) k = k (C', R', H, V, L, kn', nk', mo', (bsN (lkM w h nu fi dr) (2, -1) (i + 1)).1, (bsN (lkM w h nu fi dr) (2, -1) (i + 1)).2, nI (2 + (i + 1))) := fun k => by
        rw [hs]
        unfold f_X7_best_18b f_X7_best_59
        rw [e4, if_neg (show ¬ (20 : Int32) < nI (2 + i) from nI_nlt (a := 20) (b := 2 + i) (by omega) (by omega)), f1, ob9_s, if_pos (inb_nI (by omega) (by decide)), nI_clamp (by omega), e_likeness h36, ob1_s, hl, nI_1, hb]
        by_cases z : lkM w h nu fi dr i ≤ y10
        · rw [if_pos z, if_pos z] <;> rfl
        · rw [if_neg z, if_neg z] <;> rfl
      exact ⟨by omega, _, ⟨f2, rfl, rfl, rfl⟩, hx⟩)
  obtain ⟨y1, y2, y3, y4, y5, y6, y7, y8, y9, y10⟩ := r
  obtain ⟨e1, e2, e3⟩ := hr
  have e2 : y9 = (bsN (lkM w h nu fi dr) (2, -1) 19).1 := e2
  have e3 : y10 = (bsN (lkM w h nu fi dr) (2, -1) 19).2 := e3
  refine ⟨y1, y2, y3, y4, y5, y6, y7, y8, e1, ?_⟩
  unfold f_X7_best_18
  rw [e, obx_s, ← e2, ← e3]
  exact Eq.refl _
theorem e8_best19 {w h dr lo : Nat} {nu fi sv : Nat → Int32} (h0 : sv 0 = nI w) (hh : sv 1 = nI h) (hn : ∀ k, k < 7 → sv (2 + k) = nu k) (h1 : 2 ≤ w) (h2 : w ≤ 6) (h3 : 2 ≤ h) (h4 : h ≤ 6) (hlo : nu 2 = nI lo) (hlo1 : 0 < lo) (hlo2 : lo < 1000) (hdr : nu 6 = nI dr) (hdr2 : dr < w * h) (hf : ∀ k, k < w * h → sv (9 + k) = fi k) (a b t l m : Nat → Int32) (x : Int32) :
    ∃ H V T L M, f_X8_best_19 sv a b t l m x 0 (-1) 2 = f_X8_best_70 H V T L M x (bsN (lkM w h nu fi dr) (0, -1) 19).1 (bsN (lkM w h nu fi dr) (0, -1) 19).2 := by
  have h36 := mul36 h2 h4
  have h7 : sv 7 = nu 5 := hn 5 (by omega)
  obtain ⟨r, hr, e⟩ := vm_rel (step := f_X8_best_19s sv x) (s := (a, b, t, l, m, 0, -1, 2)) (fun i s => s.2.2.2.2.2.1 = (bsN (lkM w h nu fi dr) (0, -1) i).1 ∧ s.2.2.2.2.2.2.1 = (bsN (lkM w h nu fi dr) (0, -1) i).2 ∧ s.2.2.2.2.2.2.2 = nI (2 + i)) (fun s => s.2.2.2.2.2.1 = (bsN (lkM w h nu fi dr) (0, -1) 19).1 ∧ s.2.2.2.2.2.2 = (bsN (lkM w h nu fi dr) (0, -1) 19).2) 19 (by omega) ⟨rfl, rfl, rfl⟩ (by
    intro i hi s hR
    obtain ⟨y1, y2, y3, y4, y5, y9, y10, y11⟩ := s
    obtain ⟨e2, e3, e4⟩ := hR
    have e2 : y9 = (bsN (lkM w h nu fi dr) (0, -1) i).1 := e2
    have e3 : y10 = (bsN (lkM w h nu fi dr) (0, -1) i).2 := e3
    have e4 : y11 = nI (2 + i) := e4
    have hs : ∀ k, f_X8_best_19s sv x (y1, y2, y3, y4, y5, y9, y10, y11) k = f_X8_best_19b sv x y1 y2 y3 y4 y5 y9 y10 y11 k := fun k => rfl
    by_cases q : i = 19
    · right
      subst q
      refine ⟨(y1, y2, y3, y4, y5, y9, y10), ⟨e2, e3⟩, fun k => ?_⟩
      rw [hs]
      unfold f_X8_best_19b
      rw [if_pos (by rw [e4]; decide)]
    · left
      obtain ⟨H, V, T, L, M, f1, f3⟩ := e8_runs h0 hh hn h1 h2 h3 h4 (show 0 < 2 + i by omega) (show 2 + i < 100 by omega) hlo hlo1 hlo2 hdr hdr2 y1 y2 y3 y4 y5
      have hl : sumN (lkL (sv 7) (fun c => sv (9 + c)) M) (w * h) = lkM w h nu fi dr i := sumN_congr _ (fun k hk => by
        unfold lkL
        rw [h7, sL_eq (f3 k hk), show (fun c => sv (9 + c)) k = fi k from hf k hk])
      have hb : bsN (lkM w h nu fi dr) (0, -1) (i + 1) = if lkM w h nu fi dr i ≤ y10 then (y9, y10) else (nI (2 + i), lkM w h nu fi dr i) := by
        show bsF (lkM w h nu fi dr) i (bsN (lkM w h nu fi dr) (0, -1) i) = _
        rw [e2, e3] <;> rfl
      have hx : ∀ k, f_X8_best_19s sv x (y1, y2, y3, y4, y5, y9, y10, y11) k = k (H, V, T, L, M, (bsN (lkM w h nu fi dr) (0, -1) (i + 1)).1, (bsN (lkM w h nu fi dr) (0, -1) (i + 1)).2, nI (2 + (i + 1))) := fun k => by
        rw [hs]
        unfold f_X8_best_19b f_X8_best_50 f_X8_best_63
        rw [e4, if_neg (show ¬ (21 : Int32) ≤ nI (2 + i) from nI_ge (a := 2 + i) (b := 21) (by omega) (by omega)), f1, ob5_s, e8_likeness h0 hh h36, ob1_s, hl, nI_1, hb]
        by_cases z : lkM w h nu fi dr i ≤ y10
        · rw [if_pos z, if_pos z, if_pos z] <;> rfl
        · rw [if_neg z, if_neg z, if_neg z] <;> rfl
      exact ⟨by omega, _, ⟨rfl, rfl, rfl⟩, hx⟩)
  obtain ⟨y1, y2, y3, y4, y5, y9, y10⟩ := r
  obtain ⟨e2, e3⟩ := hr
  have e2 : y9 = (bsN (lkM w h nu fi dr) (0, -1) 19).1 := e2
  have e3 : y10 = (bsN (lkM w h nu fi dr) (0, -1) 19).2 := e3
  refine ⟨y1, y2, y3, y4, y5, ?_⟩
  unfold f_X8_best_19
  rw [e, obx_s, ← e2, ← e3]
  exact Eq.refl _
theorem e_best {w h : Nat} {nu fi gr sv nk kn : Nat → Int32} {mo : Nat → Nat → Int32} {C R : Int32} (hP : PW w h nu fi gr sv) (hcv : CV C R nk kn mo) (a b lw a8 b8 t8 l8 m8 : Nat → Int32) (x : Int32) :
    ∃ r C' R' H V L kn' nk' mo' H8 V8 T8 L8 M8, f_X7_best (nI w) (nI h) nu fi C R a b lw kn nk mo x = some (r, C', R', H, V, L, kn', nk', mo') ∧ f_X8_best sv a8 b8 t8 l8 m8 x = some (r, H8, V8, T8, L8, M8) ∧ CV C' R' nk' kn' mo' := by
  obtain ⟨⟨a1, a2, a3, a4⟩, ⟨b1, b2⟩, b3, ⟨lo, pe, dr, c1, c2, c3, c4, c5, c6, c7, c8⟩, d1, d2, d3⟩ := id hP
  have h36 := mul36 a2 a4
  obtain ⟨C', R', H, V, L, kn', nk', mo', f1, f2⟩ := e_best18 (fi := fi) a1 a2 a3 a4 c1 (by omega) (by omega) c7 c8 hcv a b lw x
  obtain ⟨H8, V8, T8, L8, M8, f3⟩ := e8_best19 (fi := fi) b1 b2 b3 a1 a2 a3 a4 c1 (by omega) (by omega) c7 c8 (fun k hk => (d1 k (by omega)).1) a8 b8 t8 l8 m8 x
  have hs := bs_same (lk := lkM w h nu fi dr) (lkM_nn h36 nu fi dr 0) 2 0 18
  unfold f_X7_best f_X8_best f_X7_best_9
  rw [show (0 : Int64) = (0 : Int32).toInt64 by decide, show (1 : Int64) = (1 : Int32).toInt64 by decide, e8_inI, ob1_s]
  by_cases hx : 0 ≤ x ∧ x ≤ 1
  · rw [if_pos hx, if_neg (show ¬ (1 : Int32) = 0 by decide), if_neg (i_nlt hx.1), if_pos hx.2, f2, f3, ← hs]
    unfold f_X7_best_65 f_X8_best_70 f_X7_best_74 f_X8_best_79
    by_cases z : x = 0
    · rw [if_pos z, if_pos z]
      exact ⟨_, _, _, _, _, _, _, _, _, _, _, _, _, _, rfl, rfl, f1⟩
    · rw [if_neg z, if_neg z]
      exact ⟨_, _, _, _, _, _, _, _, _, _, _, _, _, _, rfl, rfl, f1⟩
  · rw [if_neg hx, if_pos rfl]
    by_cases z : x < 0
    · rw [if_pos z]
      exact ⟨_, _, _, _, _, _, _, _, _, _, _, _, _, _, rfl, rfl, hcv⟩
    · rw [if_neg z, if_neg (fun y => hx ⟨i_le_of z, y⟩)]
      exact ⟨_, _, _, _, _, _, _, _, _, _, _, _, _, _, rfl, rfl, hcv⟩
