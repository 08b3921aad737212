/-! loops by a relation; where grains go; a shake -/
theorem vm_rel_it {σ ρ : Type} {step : σ → (σ → Option ρ) → Option ρ} (R : Nat → σ → Prop) (Q : ρ → Prop) (n : Nat)
    (hs : ∀ i, i ≤ n → ∀ s, R i s → (i < n ∧ ∃ s', R (i + 1) s' ∧ ∀ k, step s k = k s') ∨ (∃ r, Q r ∧ ∀ k, step s k = some r)) :
    ∀ (F i : Nat) (s : σ), i ≤ n → n < i + F → R i s → ∃ r, Q r ∧ vm_it step F s = some r := by
  intro F
  induction F with
  | zero => intro i s h1 h2; omega
  | succ F ih =>
    intro i s h1 h2 hR
    show ∃ r, Q r ∧ step s (vm_it step F) = some r
    rcases hs i h1 s hR with ⟨q, s', hR', e⟩ | ⟨r, hQ, e⟩
    · obtain ⟨r, hQ, er⟩ := ih (i + 1) s' q (by omega) hR'
      exact ⟨r, hQ, by rw [e]; exact er⟩
    · exact ⟨r, hQ, by rw [e]⟩
theorem vm_rel {σ ρ : Type} {step : σ → (σ → Option ρ) → Option ρ} {s : σ} (R : Nat → σ → Prop) (Q : ρ → Prop) (n : Nat) (hn : n < 1000) (h0 : R 0 s)
    (hs : ∀ i, i ≤ n → ∀ s, R i s → (i < n ∧ ∃ s', R (i + 1) s' ∧ ∀ k, step s k = k s') ∨ (∃ r, Q r ∧ ∀ k, step s k = some r)) :
    ∃ r, Q r ∧ vm_it step FU s = some r :=
  vm_rel_it R Q n hs FU 0 s (Nat.zero_le n) (by unfold FU; omega) h0
theorem vm_two_it {σ ρ τ π : Type} {f : σ → (σ → Option ρ) → Option ρ} {g : τ → (τ → Option π) → Option π} (R : Nat → σ → τ → Prop) (Q : ρ → π → Prop) (n : Nat)
    (hs : ∀ i, i ≤ n → ∀ a b, R i a b → (i < n ∧ ∃ a' b', R (i + 1) a' b' ∧ (∀ k, f a k = k a') ∧ (∀ k, g b k = k b')) ∨ (∃ u v, Q u v ∧ (∀ k, f a k = some u) ∧ (∀ k, g b k = some v))) :
    ∀ (F i : Nat) (a : σ) (b : τ), i ≤ n → n < i + F → R i a b → ∃ u v, Q u v ∧ vm_it f F a = some u ∧ vm_it g F b = some v := by
  intro F
  induction F with
  | zero => intro i a b h1 h2; omega
  | succ F ih =>
    intro i a b h1 h2 hR
    show ∃ u v, Q u v ∧ f a (vm_it f F) = some u ∧ g b (vm_it g F) = some v
    rcases hs i h1 a b hR with ⟨q, a', b', hR', e1, e2⟩ | ⟨u, v, hQ, e1, e2⟩
    · obtain ⟨u, v, hQ, u1, v1⟩ := ih (i + 1) a' b' q (by omega) hR'
      exact ⟨u, v, hQ, by rw [e1]; exact u1, by rw [e2]; exact v1⟩
    · exact ⟨u, v, hQ, by rw [e1], by rw [e2]⟩
theorem vm_two {σ ρ τ π : Type} {f : σ → (σ → Option ρ) → Option ρ} {g : τ → (τ → Option π) → Option π} {a : σ} {b : τ} (R : Nat → σ → τ → Prop) (Q : ρ → π → Prop) (n : Nat) (hn : n < 1000) (h0 : R 0 a b)
    (hs : ∀ i, i ≤ n → ∀ a b, R i a b → (i < n ∧ ∃ a' b', R (i + 1) a' b' ∧ (∀ k, f a k = k a') ∧ (∀ k, g b k = k b')) ∨ (∃ u v, Q u v ∧ (∀ k, f a k = some u) ∧ (∀ k, g b k = some v))) :
    ∃ u v, Q u v ∧ vm_it f FU a = some u ∧ vm_it g FU b = some v :=
  vm_two_it R Q n hs FU 0 a b (Nat.zero_le n) (by unfold FU; omega) h0
/-! where the grains of a cell go -/
def goF (w h : Nat) (mo : Nat → Int32) (c d t : Nat) : Nat := match nxt w h c d with
  | none => t
  | some k => if mo t ≤ mo k then t else k
def goN (w h : Nat) (lim : Int32) (mo : Nat → Int32) (c : Nat) : Nat := if sL_ lim mo c = 0 then itN (goF w h mo c) c 4 else c
theorem goI {w h c : Nat} {mo : Nat → Int32} (h1 : 2 ≤ w) (h2 : w ≤ 6) (h3 : 2 ≤ h) (h4 : h ≤ 6) (hc : c < w * h) : ∀ n, n ≤ 4 → itN (goF w h mo c) c n < w * h ∧ (itN (goF w h mo c) c n = c ∨ mo (itN (goF w h mo c) c n) < mo c)
  | 0, _ => ⟨hc, Or.inl rfl⟩
  | n + 1, hn => by
    obtain ⟨i1, i2⟩ := goI (mo := mo) h1 h2 h3 h4 hc n (by omega)
    show goF w h mo c n (itN (goF w h mo c) c n) < w * h ∧ (goF w h mo c n (itN (goF w h mo c) c n) = c ∨ mo (goF w h mo c n (itN (goF w h mo c) c n)) < mo c)
    obtain ⟨t, ht⟩ : ∃ t, t = itN (goF w h mo c) c n := ⟨_, rfl⟩
    rw [← ht] at i1 i2 ⊢
    unfold goF
    cases hx : nxt w h c n with
    | none => exact ⟨i1, i2⟩
    | some k =>
      have hk := nxt_lt h1 h2 h3 h4 hc (by omega) hx
      show (if mo t ≤ mo k then t else k) < w * h ∧ ((if mo t ≤ mo k then t else k) = c ∨ mo (if mo t ≤ mo k then t else k) < mo c)
      by_cases q : mo t ≤ mo k
      · rw [if_pos q]; exact ⟨i1, i2⟩
      · rw [if_neg q]
        refine ⟨hk, Or.inr ?_⟩
        have q' := Int32.lt_iff_toInt_lt.mp (i_lt_of q)
        rcases i2 with e | e
        · rw [← e]; exact i_lt_of q
        · have e' := Int32.lt_iff_toInt_lt.mp e
          exact Int32.lt_iff_toInt_lt.mpr (by omega)
theorem goN_lt {w h c : Nat} {lim : Int32} {mo : Nat → Int32} (h1 : 2 ≤ w) (h2 : w ≤ 6) (h3 : 2 ≤ h) (h4 : h ≤ 6) (hc : c < w * h) : goN w h lim mo c < w * h := by
  unfold goN
  by_cases q : sL_ lim mo c = 0
  · rw [if_pos q]; exact (goI h1 h2 h3 h4 hc 4 (by omega)).1
  · rw [if_neg q]; exact hc
theorem goF_congr {w h c d t : Nat} {mo mp : Nat → Int32} (h1 : 2 ≤ w) (h2 : w ≤ 6) (h3 : 2 ≤ h) (h4 : h ≤ 6) (hc : c < w * h) (hd : d < 4) (ht : t < w * h) (e : ∀ k, k < w * h → mo k = mp k) : goF w h mo c d t = goF w h mp c d t := by
  unfold goF
  cases hx : nxt w h c d with
  | none => rfl
  | some k =>
    show (if mo t ≤ mo k then t else k) = (if mp t ≤ mp k then t else k)
    rw [e t ht, e k (nxt_lt h1 h2 h3 h4 hc hd hx)]
theorem goI_congr {w h c : Nat} {mo mp : Nat → Int32} (h1 : 2 ≤ w) (h2 : w ≤ 6) (h3 : 2 ≤ h) (h4 : h ≤ 6) (hc : c < w * h) (e : ∀ k, k < w * h → mo k = mp k) (n : Nat) (hn : n ≤ 4) : itN (goF w h mo c) c n = itN (goF w h mp c) c n := by
  induction n with
  | zero => exact (Eq.refl c : c = c)
  | succ n ih =>
    have ih := ih (by omega)
    have gl := (goI (mo := mo) h1 h2 h3 h4 hc n (by omega)).1
    exact (goF_congr h1 h2 h3 h4 hc (by omega) gl e).trans (congrArg (goF w h mp c n) ih)
theorem goN_congr {w h c : Nat} {lim : Int32} {mo mp : Nat → Int32} (h1 : 2 ≤ w) (h2 : w ≤ 6) (h3 : 2 ≤ h) (h4 : h ≤ 6) (hc : c < w * h) (e : ∀ k, k < w * h → mo k = mp k) : goN w h lim mo c = goN w h lim mp c := by
  unfold goN sL_
  rw [e c hc, goI_congr h1 h2 h3 h4 hc e 4 (by omega)]
theorem at_next_d : ∀ w : Fin 7, ∀ h : Fin 7, ∀ x : Fin 6, ∀ y : Fin 6, ∀ d : Fin 4, 2 ≤ w.val → 2 ≤ h.val → x.val < w.val → y.val < h.val → f_X2_cellAt (nI w.val) (nI h.val) (nI x.val + tbl3 d.val) (nI y.val + tbl4 d.val) = some (nxtI w.val h.val (w.val * y.val + x.val) d.val) := by decide +kernel
theorem at_next {w h x y d : Nat} (h1 : 2 ≤ w) (h2 : w ≤ 6) (h3 : 2 ≤ h) (h4 : h ≤ 6) (hx : x < w) (hy : y < h) (hd : d < 4) : f_X2_cellAt (nI w) (nI h) (nI x + tbl3 d) (nI y + tbl4 d) = some (nxtI w h (w * y + x) d) :=
  at_next_d ⟨w, by omega⟩ ⟨h, by omega⟩ ⟨x, by omega⟩ ⟨y, by omega⟩ ⟨d, hd⟩ h1 h3 hx hy
theorem e_goal {w h x y : Nat} (h1 : 2 ≤ w) (h2 : w ≤ 6) (h3 : 2 ≤ h) (h4 : h ≤ 6) (hx : x < w) (hy : y < h) (nu mo : Nat → Int32) : f_X3_goal (nI w) (nI h) nu mo (nI x) (nI y) = some (nI (goN w h (nu 5) mo (w * y + x))) := by
  have h36 := mul36 h2 h4
  have hc := cl_lt hx hy
  unfold f_X3_goal goN
  rw [nI_cell, e_isStill nu mo (by omega), ob1_s, stB_L]
  by_cases q : sL_ (nu 5) mo (w * y + x) = 0
  · rw [if_pos q, if_pos q]
    unfold f_X3_goal_26
    refine (ox_for (r := nI (itN (goF w h mo (w * y + x)) (w * y + x) 4)) (fun i => (nI (itN (goF w h mo (w * y + x)) (w * y + x) i), nI i)) 4 rfl (by omega) ?_ ?_).trans ?_
    · intro i hi k
      have ht := (goI (mo := mo) h1 h2 h3 h4 hc i (by omega)).1
      show f_X3_goal_26b (nI w) (nI h) mo (nI x) (nI y) (nI (itN (goF w h mo (w * y + x)) (w * y + x) i)) (nI i) k = k (nI (goF w h mo (w * y + x) i (itN (goF w h mo (w * y + x)) (w * y + x) i)), nI (i + 1))
      obtain ⟨t, et⟩ : ∃ t, t = itN (goF w h mo (w * y + x)) (w * y + x) i := ⟨_, rfl⟩
      rw [← et] at ht ⊢
      unfold f_X3_goal_26b f_X3_goal_77
      rw [if_neg (show ¬ (4 : Int32) ≤ nI i from nI_ge (a := i) (b := 4) hi (by omega)), if_pos (inb_nI hi (by decide)), if_pos (inb_nI hi (by decide)), nI_clamp (by omega), at_next h1 h2 h3 h4 hx hy hi, ob1_s, nI_1]
      unfold nxtI goF
      cases hn : nxt w h (w * y + x) i with
      | none =>
        show (if (-1 : Int32) < 0 then _ else _) = _
        rw [if_pos (by decide)]
      | some j =>
        have hj := nxt_lt h1 h2 h3 h4 hc hi hn
        show (if nI j < 0 then _ else _) = k (nI (if mo t ≤ mo j then t else j), _)
        rw [if_neg (nI_pos (by omega)), if_pos (inb_nI (by omega) (by decide)), if_pos (inb_nI (by omega) (by decide)), nI_clamp (by omega), nI_clamp (by omega)]
        by_cases z : mo t ≤ mo j
        · rw [if_pos z, if_pos z]
        · rw [if_neg z, if_neg z]
    · intro k
      show f_X3_goal_26b (nI w) (nI h) mo (nI x) (nI y) _ (nI 4) k = _
      unfold f_X3_goal_26b
      rw [if_pos (show (4 : Int32) ≤ nI 4 by decide)]
    · rfl
  · rw [if_neg q, if_neg q]
def goM (c t : Nat) : Int32 := if t = c then -1 else nI t
theorem e8_goesTo {sv : Nat → Int32} {w h c : Nat} (h0 : sv 0 = nI w) (hh : sv 1 = nI h) (h1 : 2 ≤ w) (h2 : w ≤ 6) (h3 : 2 ≤ h) (h4 : h ≤ 6) (hc : c < w * h) (mo : Nat → Int32) : f_X8_goesTo sv mo (nI c) = some (goM c (goN w h (sv 7) mo c)) := by
  have h36 := mul36 h2 h4
  unfold f_X8_goesTo goN f_X8_goesTo_4
  by_cases q : sL_ (sv 7) mo c = 0
  · rw [if_pos q]
    refine (ox_for (r := goM c (itN (goF w h mo c) c 4)) (fun i => (goM c (itN (goF w h mo c) c i), nI i)) 4 (by show ((-1 : Int32), (0 : Int32)) = (goM c c, nI 0); unfold goM; rw [if_pos rfl] <;> rfl) (by omega) ?_ ?_).trans ?_
    · intro i hi k
      obtain ⟨ht, ht2⟩ := goI (mo := mo) h1 h2 h3 h4 hc i (by omega)
      show f_X8_goesTo_4b sv mo (nI c) (goM c (itN (goF w h mo c) c i)) (nI i) k = k (goM c (goF w h mo c i (itN (goF w h mo c) c i)), nI (i + 1))
      obtain ⟨t, et⟩ : ∃ t, t = itN (goF w h mo c) c i := ⟨_, rfl⟩
      rw [← et] at ht ht2 ⊢
      unfold f_X8_goesTo_4b f_X8_goesTo_71 f_X8_goesTo_66 f_X8_goesTo_72
      rw [if_neg (show ¬ (4 : Int32) ≤ nI i from nI_ge (a := i) (b := 4) hi (by omega)), e8_isStill sv mo (by omega), ob1_s, if_pos q, e8_next h0 hh h1 h2 h3 h4 hc hi, ob1_s, nI_1]
      unfold nxtI goF
      cases hn : nxt w h c i with
      | none =>
        show (if (-1 : Int32) < 0 then _ else _) = _
        rw [if_pos (by decide)]
      | some j =>
        have hj := nxt_lt h1 h2 h3 h4 hc hi hn
        show (if nI j < 0 then _ else _) = k (goM c (if mo t ≤ mo j then t else j), _)
        rw [if_neg (nI_pos (by omega)), if_pos (inb_nI (show j < 36 by omega) (by decide)), if_pos (inb_nI (show c < 36 by omega) (by decide)), nI_clamp (by omega), nI_clamp (by omega)]
        by_cases e : t = c
        · have eg : goM c t = -1 := if_pos e
          by_cases z : mo c ≤ mo j
          · rw [if_pos z, if_pos (show mo t ≤ mo j by rw [e]; exact z)]
          · have ej : ¬ j = c := fun y => by
              rw [y] at z
              exact z (Int32.le_iff_toInt_le.mpr (Int.le_refl _))
            have eg2 : goM c j = nI j := if_neg ej
            rw [if_neg z, if_neg (show ¬ mo t ≤ mo j by rw [e]; exact z), eg, if_pos (show (-1 : Int32) < 0 by decide), eg2]
        · have eg : goM c t = nI t := if_neg e
          have lt : mo t < mo c := by
            rcases ht2 with y | y
            · exact absurd y e
            · exact y
          have lt' := Int32.lt_iff_toInt_lt.mp lt
          by_cases z : mo t ≤ mo j
          · rw [if_pos z, eg]
            by_cases z2 : mo c ≤ mo j
            · rw [if_pos z2]
            · rw [if_neg z2, if_neg (nI_pos (by omega)), if_pos (inb_nI (show j < 36 by omega) (by decide)), if_pos (inb_nI (show t < 36 by omega) (by decide)), nI_clamp (by omega), if_pos z]
          · have z' := Int32.lt_iff_toInt_lt.mp (i_lt_of z)
            have z2 : ¬ mo c ≤ mo j := fun y => by
              have := Int32.le_iff_toInt_le.mp y
              omega
            have ej : ¬ j = c := fun y => by
              rw [y] at z'
              omega
            have eg2 : goM c j = nI j := if_neg ej
            rw [if_neg z, eg, if_neg z2, if_neg (nI_pos (by omega)), if_pos (inb_nI (show j < 36 by omega) (by decide)), if_pos (inb_nI (show t < 36 by omega) (by decide)), nI_clamp (by omega), if_neg z, eg2]
    · intro k
      show f_X8_goesTo_4b sv mo (nI c) _ (nI 4) k = _
      unfold f_X8_goesTo_4b
      rw [if_pos (show (4 : Int32) ≤ nI 4 by decide)]
    · rfl
  · rw [if_neg q]
    refine (ox_for (r := (-1 : Int32)) (fun _ => ((-1 : Int32), (0 : Int32))) 0 rfl (by omega) (fun i hi => absurd hi (by omega)) ?_).trans ?_
    · intro k
      show f_X8_goesTo_4b sv mo (nI c) (-1) 0 k = _
      unfold f_X8_goesTo_4b
      rw [if_neg (show ¬ (4 : Int32) ≤ 0 by decide), e8_isStill sv mo (by omega), ob1_s, if_neg q]
    · show f_X8_goesTo_79 (-1) = _
      unfold f_X8_goesTo_79 goM
      rw [if_pos rfl]
