/-! motions on both sides; lies, shakes -/
theorem by_both {w h p : Nat} {nu fi gr sv nk kn : Nat → Int32} {mo : Nat → Nat → Int32} {C R : Int32} (hP : PW w h nu fi gr sv) (hp : 0 < p) (hp2 : p < 21) (hcv : CV C R nk kn mo) (a b lw a8 b8 t8 l8 m8 : Nat → Int32) :
    ∃ C' R' H V L kn' nk' mo' H8 V8 T8 L8 M8, f_X1_by C R a b lw kn nk (nI w) (nI h) nu mo (nI p) = some (nI p, C', R', H, V, L, kn', nk', mo') ∧ CV C' R' nk' kn' mo' ∧ f_X8_runs sv a8 b8 t8 l8 m8 (nI p) = some (H8, V8, T8, L8, M8) ∧ ∀ c, c < w * h → mo' p c = M8 c := by
  obtain ⟨⟨a1, a2, a3, a4⟩, ⟨b1, b2⟩, b3, ⟨lo, pe, dr, c1, c2, c3, c4, c5, c6, c7, c8⟩, _⟩ := hP
  obtain ⟨C', R', H, V, L, kn', nk', mo', e1, e2, e3⟩ := e_by a1 a2 a3 a4 hp hp2 c1 (by omega) (by omega) c7 c8 hcv a b lw
  obtain ⟨H8, V8, T8, L8, M8, f1, f2⟩ := e8_runs b1 b2 b3 a1 a2 a3 a4 hp (by omega) c1 (by omega) (by omega) c7 c8 a8 b8 t8 l8 m8
  exact ⟨C', R', H, V, L, kn', nk', mo', H8, V8, T8, L8, M8, e1, e2, f1, fun c hc => (e3 c hc).trans (f2 c hc).symm⟩
theorem now_both {w h : Nat} {nu fi gr sv nk kn : Nat → Int32} {mo : Nat → Nat → Int32} {C R : Int32} (hP : PW w h nu fi gr sv) (hcv : CV C R nk kn mo) (a b lw a8 b8 t8 l8 m8 : Nat → Int32) :
    ∃ p C' R' H V L kn' nk' mo' H8 V8 T8 L8 M8, p < 21 ∧ f_X7_motionNow (nI w) (nI h) nu C R a b lw kn nk mo = some (nI p, C', R', H, V, L, kn', nk', mo') ∧ CV C' R' nk' kn' mo' ∧ f_X8_runs sv a8 b8 t8 l8 m8 (sv 6) = some (H8, V8, T8, L8, M8) ∧ ∀ c, c < w * h → mo' p c = M8 c := by
  obtain ⟨_, _, b3, ⟨lo, pe, dr, c1, c2, c3, c4, c5, c6, c7, c8⟩, _⟩ := id hP
  obtain ⟨C', R', H, V, L, kn', nk', mo', H8, V8, T8, L8, M8, e1, e2, e3, e4⟩ := by_both (p := pe) hP (by omega) (by omega) hcv a b lw a8 b8 t8 l8 m8
  refine ⟨pe, C', R', H, V, L, kn', nk', mo', H8, V8, T8, L8, M8, by omega, ?_, e2, ?_, e4⟩
  · unfold f_X7_motionNow
    rw [c4, e1, ob9_s, if_pos (inb_nI (by omega) (by decide))]
  · rw [show sv 6 = nu 4 from b3 4 (by omega), c4, e3]
theorem li_ex (P : Nat → Prop) : ∀ m, ∃ n, n ≤ m ∧ (∀ i, i < n → ¬ P i) ∧ (n < m → P n)
  | 0 => ⟨0, Nat.le_refl _, fun i hi => by omega, fun h => by omega⟩
  | m + 1 => by
    obtain ⟨n, h1, h2, h3⟩ := li_ex P m
    by_cases q : n < m
    · exact ⟨n, by omega, h2, fun _ => h3 q⟩
    · have e : n = m := by omega
      subst e
      by_cases z : P n
      · exact ⟨n, by omega, h2, fun _ => z⟩
      · refine ⟨n + 1, Nat.le_refl _, fun i hi => ?_, fun h => by omega⟩
        by_cases y : i = n
        · rw [y]; exact z
        · exact h2 i (by omega)
def gsN (N : Nat) (go g : Nat → Nat) (i : Nat) : Nat → Nat := itN (fun _ t => SH N go t) g i
theorem gs_sum {N : Nat} {go : Nat → Nat} (hg : ∀ c, c < N → go c < N) (g : Nat → Nat) : ∀ i, nsum (gsN N go g i) N = nsum g N
  | 0 => rfl
  | i + 1 => by
    show nsum (SH N go (gsN N go g i)) N = _
    rw [SH_sum N go _ N hg, gs_sum hg g i]
theorem e_lies18 {w h p n : Nat} (h1 : 2 ≤ w) (h2 : w ≤ 6) (h3 : 2 ≤ h) (h4 : h ≤ 6) (hp : p < 21) {nu gr : Nat → Int32} {mo : Nat → Nat → Int32} {go g : Nat → Nat} (hgo : ∀ c, c < w * h → goN w h (nu 5) (mo p) c = go c) (hlg : ∀ c, c < w * h → go c < w * h) (hg : ∀ k, k < w * h → gr k = nI (g k)) (hsum : nsum g (w * h) = w * h) (hn : n ≤ 100) (hlt : ∀ i, i < n → ¬ MV (w * h) go (gsN (w * h) go g i) = 0) (hend : n < 100 → MV (w * h) go (gsN (w * h) go g n) = 0) (mc mr : Int32) (mh ms ml mk mn cm : Nat → Int32) :
    ∃ G S, f_X7_lies_18 (nI w) (nI h) nu mc mr mh ms ml mk mn gr cm mo (nI p) 0 = some ((if n < 100 then nI n else -9), mc, mr, mh, ms, ml, mk, mn, G, S, mo) := by
  have h36 := mul36 h2 h4
  obtain ⟨r, hr, e⟩ := vm_rel (step := f_X7_lies_18s (nI w) (nI h) nu mc mr mh ms ml mk mn mo (nI p)) (s := (gr, cm, 0)) (fun i s => s.2.2 = nI i ∧ ∀ k, k < w * h → s.1 k = nI (gsN (w * h) go g i k)) (fun r => (∃ G S, n = 100 ∧ r = Sum.inl (G, S)) ∨ (∃ G S, n < 100 ∧ r = Sum.inr (G, S, nI n))) n (by omega) ⟨rfl, hg⟩ (by
    intro i hi s hR
    obtain ⟨x1, x2, x3⟩ := s
    obtain ⟨e1, e2⟩ := hR
    have e1 : x3 = nI i := e1
    subst e1
    have hs : ∀ k, f_X7_lies_18s (nI w) (nI h) nu mc mr mh ms ml mk mn mo (nI p) (x1, x2, nI i) k = f_X7_lies_18b (nI w) (nI h) nu mc mr mh ms ml mk mn mo (nI p) x1 x2 (nI i) k := fun k => rfl
    by_cases q : i = 100
    · right
      refine ⟨Sum.inl (x1, x2), Or.inl ⟨x1, x2, by omega, rfl⟩, fun k => ?_⟩
      rw [hs]
      unfold f_X7_lies_18b
      rw [if_pos (by rw [q]; decide)]
    · obtain ⟨gr', cm', f1, f2⟩ := e_shakeOnce h1 h2 h3 h4 nu (mo p) x1 x2 hgo e2
      have hb : MV (w * h) go (gsN (w * h) go g i) ≤ 36 := by
        have := MV_le (w * h) go (gsN (w * h) go g i)
        rw [gs_sum hlg, hsum] at this
        omega
      have hx : ∀ k, f_X7_lies_18s (nI w) (nI h) nu mc mr mh ms ml mk mn mo (nI p) (x1, x2, nI i) k = if nI (MV (w * h) go (gsN (w * h) go g i)) = 0 then some (Sum.inr (gr', cm', nI i)) else k (gr', cm', nI (i + 1)) := fun k => by
        rw [hs]
        unfold f_X7_lies_18b
        rw [if_neg (show ¬ (99 : Int32) < nI i from nI_nlt (a := 99) (b := i) (by omega) (by omega)), nI_clamp (by omega), f1, ob3_s, nI_1]
      by_cases z : i < n
      · left
        refine ⟨z, (gr', cm', nI (i + 1)), ⟨rfl, fun k hk => f2 k (by omega)⟩, fun k => ?_⟩
        rw [hx, if_neg (nI_ne0 (Nat.pos_of_ne_zero (hlt i z)) (by omega))]
      · have en : i = n := by omega
        subst en
        right
        refine ⟨Sum.inr (gr', cm', nI i), Or.inr ⟨gr', cm', by omega, rfl⟩, fun k => ?_⟩
        rw [hx, hend (by omega), if_pos nI_0])
  unfold f_X7_lies_18
  rw [e, obx_s]
  rcases hr with ⟨G, S, hn2, rfl⟩ | ⟨G, S, hn2, rfl⟩
  · refine ⟨G, S, ?_⟩
    rw [if_neg (by omega)]
    show f_X7_lies_47 mc mr mh ms ml mk mn G S mo = _
    unfold f_X7_lies_47
    exact Eq.refl _
  · refine ⟨G, S, ?_⟩
    rw [if_pos hn2]
    show f_X7_lies_39 mc mr mh ms ml mk mn G S mo (nI n) = _
    unfold f_X7_lies_39
    exact Eq.refl _
theorem e8_lies6 {w h n : Nat} {sv : Nat → Int32} (h0 : sv 0 = nI w) (hh : sv 1 = nI h) (h1 : 2 ≤ w) (h2 : w ≤ 6) (h3 : 2 ≤ h) (h4 : h ≤ 6) {mo tr : Nat → Int32} {go g : Nat → Nat} (hgo : ∀ c, c < w * h → goN w h (sv 7) mo c = go c) (hlg : ∀ c, c < w * h → go c < w * h) (hg : ∀ k, k < w * h → tr k = nI (g k)) (hsum : nsum g (w * h) = w * h) (hn : n ≤ 100) (hlt : ∀ i, i < n → ¬ MV (w * h) go (gsN (w * h) go g i) = 0) (hend : n < 100 → MV (w * h) go (gsN (w * h) go g n) = 0) (a b t l lie : Nat → Int32) :
    ∃ G S, f_X8_lies_6 sv a b t l mo lie tr 0 = some ((if n < 100 then nI n else -9), a, b, t, l, mo, G, S) := by
  have h36 := mul36 h2 h4
  obtain ⟨r, hr, e⟩ := vm_rel (step := f_X8_lies_6s sv a b t l mo) (s := (lie, tr, 0)) (fun i s => s.2.2 = nI i ∧ ∀ k, k < w * h → s.2.1 k = nI (gsN (w * h) go g i k)) (fun r => (∃ G S, n = 100 ∧ r = Sum.inl (G, S)) ∨ (∃ G S, n < 100 ∧ r = Sum.inr (G, S, nI n))) n (by omega) ⟨rfl, hg⟩ (by
    intro i hi s hR
    obtain ⟨x1, x2, x3⟩ := s
    obtain ⟨e1, e2⟩ := hR
    have e1 : x3 = nI i := e1
    subst e1
    have hs : ∀ k, f_X8_lies_6s sv a b t l mo (x1, x2, nI i) k = f_X8_lies_6b sv a b t l mo x1 x2 (nI i) k := fun k => rfl
    by_cases q : i = 100
    · right
      refine ⟨Sum.inl (x1, x2), Or.inl ⟨x1, x2, by omega, rfl⟩, fun k => ?_⟩
      rw [hs]
      unfold f_X8_lies_6b
      rw [if_pos (by rw [q]; decide)]
    · obtain ⟨li', tr', f1, f2⟩ := e8_shakeT h0 hh h1 h2 h3 h4 mo x1 x2 hgo e2
      have hb : MV (w * h) go (gsN (w * h) go g i) ≤ 36 := by
        have := MV_le (w * h) go (gsN (w * h) go g i)
        rw [gs_sum hlg, hsum] at this
        omega
      have hx : ∀ k, f_X8_lies_6s sv a b t l mo (x1, x2, nI i) k = if nI (MV (w * h) go (gsN (w * h) go g i)) = 0 then some (Sum.inr (li', tr', nI i)) else k (li', tr', nI (i + 1)) := fun k => by
        rw [hs]
        unfold f_X8_lies_6b
        rw [if_neg (show ¬ (100 : Int32) ≤ nI i from nI_ge (a := i) (b := 100) (by omega) (by omega)), f1, ob3_s, nI_1]
      by_cases z : i < n
      · left
        refine ⟨z, (li', tr', nI (i + 1)), ⟨rfl, f2⟩, fun k => ?_⟩
        rw [hx, if_neg (nI_ne0 (Nat.pos_of_ne_zero (hlt i z)) (by omega))]
      · have en : i = n := by omega
        subst en
        right
        refine ⟨Sum.inr (li', tr', nI i), Or.inr ⟨li', tr', by omega, rfl⟩, fun k => ?_⟩
        rw [hx, hend (by omega), if_pos nI_0])
  unfold f_X8_lies_6
  rw [e, obx_s]
  rcases hr with ⟨G, S, hn2, rfl⟩ | ⟨G, S, hn2, rfl⟩
  · refine ⟨G, S, ?_⟩
    rw [if_neg (by omega)]
    show f_X8_lies_32 a b t l mo G S = _
    unfold f_X8_lies_32
    exact Eq.refl _
  · refine ⟨G, S, ?_⟩
    rw [if_pos hn2]
    show f_X8_lies_24 a b t l mo G S (nI n) = _
    unfold f_X8_lies_24
    exact Eq.refl _
theorem e8_tries {sv a b t l m H V T L M : Nat → Int32} (e : f_X8_runs sv a b t l m (sv 6) = some (H, V, T, L, M)) (tr : Nat → Int32) : f_X8_tries sv a b t l m tr = some (H, V, T, L, M, fun c => if c < 36 then sv (45 + c) else tr c) := by
  unfold f_X8_tries
  rw [e, ob5_s]
  unfold f_X8_tries_13
  refine (ox_for (r := fun c => if c < 36 then sv (45 + c) else tr c) (fun i => ((fun c => if c < i then sv (45 + c) else tr c), nI i)) 36 (by rw [← lt0]; rfl) (by omega) ?_ ?_).trans ?_
  · intro i hi k
    show f_X8_tries_13b sv H V T L M _ (nI i) k = _
    unfold f_X8_tries_13b
    rw [if_neg (show ¬ (36 : Int32) ≤ nI i from nI_ge (a := i) (b := 36) hi (by omega)), show (45 : Int32) + nI i = nI (45 + i) from nI_add 45 i, if_pos (inb_nI (show 45 + i < 81 by omega) (by decide)), if_pos (inb_nI hi (by decide)), nI_clamp (show i < 2 ^ 31 by omega), nI_clamp (show 45 + i < 2 ^ 31 by omega), nI_1, upd_lt (g := fun c => sv (45 + c)) rfl]
  · intro k
    show f_X8_tries_13b sv H V T L M _ (nI 36) k = _
    unfold f_X8_tries_13b
    rw [if_pos (show (36 : Int32) ≤ nI 36 by decide)]
  · rfl
theorem e_lies {w h : Nat} {nu fi gr sv nk kn : Nat → Int32} {mo : Nat → Nat → Int32} {C R : Int32} (hP : PW w h nu fi gr sv) (hcv : CV C R nk kn mo) (a b lw sg sc a8 b8 t8 l8 m8 lie tr : Nat → Int32) :
    ∃ r C' R' H V L kn' nk' G S mo' H8 V8 T8 L8 M8 G8 S8, f_X7_lies (nI w) (nI h) nu gr C R a b lw kn nk sg sc mo = some (r, C', R', H, V, L, kn', nk', G, S, mo') ∧ f_X8_lies sv a8 b8 t8 l8 m8 lie tr = some (r, H8, V8, T8, L8, M8, G8, S8) ∧ CV C' R' nk' kn' mo' := by
  obtain ⟨p, C', R', H, V, L, kn', nk', mo', H8, V8, T8, L8, M8, e0, e1, e2, e3, e4⟩ := now_both hP hcv a b lw a8 b8 t8 l8 m8
  obtain ⟨⟨a1, a2, a3, a4⟩, ⟨b1, b2⟩, b3, b4, d1, d2, ⟨g, d3, d4⟩⟩ := id hP
  have h36 := mul36 a2 a4
  have h7 : sv 7 = nu 5 := b3 5 (by omega)
  obtain ⟨n, hn, hlt, hend⟩ := li_ex (fun i => MV (w * h) (goN w h (nu 5) M8) (gsN (w * h) (goN w h (nu 5) M8) g i) = 0) 100
  have hlg : ∀ c, c < w * h → goN w h (nu 5) M8 c < w * h := fun c hc => goN_lt a1 a2 a3 a4 hc
  obtain ⟨G, S, f1⟩ := e_lies18 (go := goN w h (nu 5) M8) (g := g) (mo := mo') (p := p) (gr := va_cpy gr sg 0 0 36) a1 a2 a3 a4 e0 (fun c hc => goN_congr a1 a2 a3 a4 hc e4) hlg (fun k hk => by rw [cpy7 (by omega), d3 k hk]) d4 hn hlt hend C' R' H V L kn' nk' sc
  obtain ⟨G8, S8, f2⟩ := e8_lies6 (go := goN w h (nu 5) M8) (g := g) (mo := M8) (tr := fun c => if c < 36 then sv (45 + c) else tr c) b1 b2 a1 a2 a3 a4 (fun c hc => by rw [h7]) hlg (fun k hk => by show (if k < 36 then sv (45 + k) else tr k) = _; rw [if_pos (by omega), d2 k hk, d3 k hk]) d4 hn hlt hend H8 V8 T8 L8 lie
  refine ⟨(if n < 100 then nI n else -9), C', R', H, V, L, kn', nk', G, S, mo', H8, V8, T8, L8, M8, G8, S8, ?_, ?_, e2⟩
  · unfold f_X7_lies f_X3_takeFrom
    rw [ob1_s, e1, ob9_s, if_pos (inb_nI e0 (by decide)), f1]
  · unfold f_X8_lies
    rw [e8_tries e3, ob6_s, f2]
