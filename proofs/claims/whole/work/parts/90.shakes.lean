/-! shakes on both sides -/
theorem MV_congr {N : Nat} {go f g : Nat → Nat} (h : ∀ k, k < N → f k = g k) : MV N go f = MV N go g :=
  nsum_congr N (fun k hk => by rw [h k hk])
theorem SH_congr {N : Nat} {go f g : Nat → Nat} (h : ∀ k, k < N → f k = g k) (j : Nat) : SH N go f j = SH N go g j :=
  nsum_congr N (fun k hk => by rw [h k hk])
def tmN (N : Nat) (go g : Nat → Nat) (i : Nat) : Nat := nsum (fun j => MV N go (gsN N go g j)) i
theorem gs_0 {N : Nat} {go g : Nat → Nat} (h : MV N go g = 0) : ∀ i, ∀ k, k < N → gsN N go g i k = g k
  | 0, _, _ => rfl
  | i + 1, k, hk => by
    show SH N go (gsN N go g i) k = g k
    rw [SH_congr (gs_0 h i) k, MV_0 h hk]
theorem tm_0 {N : Nat} {go g : Nat → Nat} (h : MV N go g = 0) : ∀ i, tmN N go g i = 0
  | 0 => rfl
  | i + 1 => by
    show tmN N go g i + MV N go (gsN N go g i) = 0
    rw [tm_0 h i, MV_congr (gs_0 h i), h]
theorem tm_ge (N : Nat) (go g : Nat → Nat) : ∀ i, MV N go g ≤ tmN N go g (i + 1)
  | 0 => by
    show MV N go g ≤ 0 + MV N go g
    omega
  | i + 1 => by
    have := tm_ge N go g i
    show MV N go g ≤ tmN N go g (i + 1) + MV N go (gsN N go g (i + 1))
    omega
theorem tm_le {N : Nat} {go : Nat → Nat} (hg : ∀ c, c < N → go c < N) (g : Nat → Nat) : ∀ i, tmN N go g i ≤ nsum g N * i
  | 0 => Nat.zero_le _
  | i + 1 => by
    have a := tm_le hg g i
    have b := MV_le N go (gsN N go g i)
    rw [gs_sum hg] at b
    show tmN N go g i + MV N go (gsN N go g i) ≤ _
    rw [Nat.mul_succ]
    omega
theorem e_shakes34 {w h p m kh : Nat} (h1 : 2 ≤ w) (h2 : w ≤ 6) (h3 : 2 ≤ h) (h4 : h ≤ 6) (hp : p < 21) {nu fi gq gr : Nat → Int32} {mo : Nat → Nat → Int32} {go g : Nat → Nat} (hgo : ∀ c, c < w * h → goN w h (nu 5) (mo p) c = go c) (hg : ∀ k, k < w * h → gr k = nI (g k)) (hm : m ≤ 20) (had : Nat → Nat) (pW pH : Nat → Int32) (pN pF pG : Nat → Nat → Int32) (mc mr : Int32) (mh ms ml mk mn cm : Nat → Int32) :
    ∃ G S, (∀ k, k < w * h → G k = nI (gsN (w * h) go g m k)) ∧ f_X7_shakes_34 (nI w) (nI h) nu fi gq (nI kh) had pW pH pN pF pG mc mr mh ms ml mk mn gr cm mo (nI m) (nI p) 0 0 = f_X7_shakes_61 (nI w) (nI h) nu fi gq (nI kh) had pW pH pN pF pG mc mr mh ms ml mk mn G S mo (nI (tmN (w * h) go g m)) := by
  have h36 := mul36 h2 h4
  obtain ⟨r, hr, e⟩ := vm_rel (step := f_X7_shakes_34s (nI w) (nI h) nu fi gq (nI kh) had pW pH pN pF pG mc mr mh ms ml mk mn mo (nI m) (nI p)) (s := (gr, cm, 0, 0)) (fun i s => s.2.2.2 = nI i ∧ s.2.2.1 = nI (tmN (w * h) go g i) ∧ ∀ k, k < w * h → s.1 k = nI (gsN (w * h) go g i k)) (fun r => r.2.2 = nI (tmN (w * h) go g m) ∧ ∀ k, k < w * h → r.1 k = nI (gsN (w * h) go g m k)) m (by omega) ⟨rfl, rfl, hg⟩ (by
    intro i hi s hR
    obtain ⟨x1, x2, x3, x4⟩ := s
    obtain ⟨e1, e2, e3⟩ := hR
    have e1 : x4 = nI i := e1
    have e2 : x3 = nI (tmN (w * h) go g i) := e2
    subst e1 e2
    have hs : ∀ k, f_X7_shakes_34s (nI w) (nI h) nu fi gq (nI kh) had pW pH pN pF pG mc mr mh ms ml mk mn mo (nI m) (nI p) (x1, x2, nI (tmN (w * h) go g i), nI i) k = f_X7_shakes_34b (nI w) (nI h) nu fi gq (nI kh) had pW pH pN pF pG mc mr mh ms ml mk mn mo (nI m) (nI p) x1 x2 (nI (tmN (w * h) go g i)) (nI i) k := fun k => rfl
    by_cases q : i = m
    · right
      subst q
      refine ⟨(x1, x2, nI (tmN (w * h) go g i)), ⟨rfl, e3⟩, fun k => ?_⟩
      rw [hs]
      unfold f_X7_shakes_34b
      rw [if_pos (nI_le (Nat.le_refl _) (by omega))]
    · left
      obtain ⟨gr', cm', f1, f2⟩ := e_shakeOnce h1 h2 h3 h4 nu (mo p) x1 x2 hgo e3
      refine ⟨by omega, (gr', cm', nI (tmN (w * h) go g (i + 1)), nI (i + 1)), ⟨rfl, rfl, fun k hk => f2 k (by omega)⟩, fun k => ?_⟩
      rw [hs]
      unfold f_X7_shakes_34b
      rw [if_neg (nI_ge (show i < m by omega) (by omega)), nI_clamp (by omega), f1, ob3_s, nI_1, nI_add] <;> rfl)
  obtain ⟨G, S, T⟩ := r
  obtain ⟨hT, hG⟩ := hr
  have hT : T = nI (tmN (w * h) go g m) := hT
  refine ⟨G, S, hG, ?_⟩
  unfold f_X7_shakes_34
  rw [e, obx_s, hT]
  exact Eq.refl _
theorem e8_shakes41 {w h m : Nat} {sv : Nat → Int32} (h0 : sv 0 = nI w) (hh : sv 1 = nI h) (h1 : 2 ≤ w) (h2 : w ≤ 6) (h3 : 2 ≤ h) (h4 : h ≤ 6) {mo : Nat → Int32} {go g : Nat → Nat} (hgo : ∀ c, c < w * h → goN w h (sv 7) mo c = go c) (hg : ∀ k, k < w * h → sv (45 + k) = nI (g k)) (hm : m ≤ 20) (u : Int32) (bf a b t l tr lie : Nat → Int32) :
    ∃ sv' li', (∀ k, k < 45 → sv' k = sv k) ∧ (∀ k, k < w * h → sv' (45 + k) = nI (gsN (w * h) go g m k)) ∧ f_X8_shakes_41 u sv bf a b t l mo lie tr (nI m) 0 0 = some (nI (tmN (w * h) go g m), u, sv', bf, a, b, t, l, mo, li', tr) := by
  have h36 := mul36 h2 h4
  obtain ⟨r, hr, e⟩ := vm_rel (step := f_X8_shakes_41s u bf a b t l mo tr (nI m)) (s := (sv, lie, 0, 0)) (fun i s => s.2.2.2 = nI i ∧ s.2.2.1 = nI (tmN (w * h) go g i) ∧ (∀ k, k < 45 → s.1 k = sv k) ∧ ∀ k, k < w * h → s.1 (45 + k) = nI (gsN (w * h) go g i k)) (fun r => r.2.2 = nI (tmN (w * h) go g m) ∧ (∀ k, k < 45 → r.1 k = sv k) ∧ ∀ k, k < w * h → r.1 (45 + k) = nI (gsN (w * h) go g m k)) m (by omega) ⟨rfl, rfl, fun _ _ => rfl, hg⟩ (by
    intro i hi s hR
    obtain ⟨x1, x2, x3, x4⟩ := s
    obtain ⟨e1, e2, e3, e4⟩ := hR
    have e1 : x4 = nI i := e1
    have e2 : x3 = nI (tmN (w * h) go g i) := e2
    subst e1 e2
    have e3 : ∀ k, k < 45 → x1 k = sv k := e3
    have e4 : ∀ k, k < w * h → x1 (45 + k) = nI (gsN (w * h) go g i k) := e4
    have hs : ∀ k, f_X8_shakes_41s u bf a b t l mo tr (nI m) (x1, x2, nI (tmN (w * h) go g i), nI i) k = f_X8_shakes_41b u bf a b t l mo tr (nI m) x1 x2 (nI (tmN (w * h) go g i)) (nI i) k := fun k => rfl
    by_cases q : i = m
    · right
      subst q
      refine ⟨(x1, x2, nI (tmN (w * h) go g i)), ⟨rfl, e3, e4⟩, fun k => ?_⟩
      rw [hs]
      unfold f_X8_shakes_41b
      rw [if_pos (nI_le (Nat.le_refl _) (by omega))]
    · left
      obtain ⟨li', sv', f1, f2, f3⟩ := e8_shakeS (sv := x1) (w := w) (h := h) (by rw [e3 0 (by omega), h0]) (by rw [e3 1 (by omega), hh]) h1 h2 h3 h4 mo x2 (go := go) (fun c hc => by rw [e3 7 (by omega)]; exact hgo c hc) e4
      refine ⟨by omega, (sv', li', nI (tmN (w * h) go g (i + 1)), nI (i + 1)), ⟨rfl, rfl, fun k hk => (f3 k hk).trans (e3 k hk), f2⟩, fun k => ?_⟩
      rw [hs]
      unfold f_X8_shakes_41b
      rw [if_neg (nI_ge (show i < m by omega) (by omega)), f1, ob3_s, nI_1, nI_add] <;> rfl)
  obtain ⟨G, S, T⟩ := r
  obtain ⟨hT, hA, hG⟩ := hr
  have hT : T = nI (tmN (w * h) go g m) := hT
  refine ⟨G, S, hA, hG, ?_⟩
  unfold f_X8_shakes_41
  rw [e, obx_s, hT]
  show f_X8_shakes_69 u G bf a b t l mo S tr (nI (tmN (w * h) go g m)) = _
  unfold f_X8_shakes_69
  exact Eq.refl _
theorem e_shakes {kh w h : Nat} (hk : kh ≤ 6) {pW pH : Nat → Int32} {pN pF pG : Nat → Nat → Int32} {nu fi gr sv bf nk kn : Nat → Int32} {mo : Nat → Nat → Int32} {C R : Int32} (had : Nat → Nat) (hH : HI kh pW pH pN pF pG bf) (hP : PW w h nu fi gr sv) (hcv : CV C R nk kn mo) (a b lw sg sc a8 b8 t8 l8 m8 lie tr : Nat → Int32) (x : Int32) :
    ∃ r gr' k' had' pW' pH' pN' pF' pG' C' R' H V L kn' nk' G S mo' sv' b' H8 V8 T8 L8 M8 G8 S8, k' ≤ 6 ∧ f_X7_shakes (nI w) (nI h) nu fi gr (nI kh) had pW pH pN pF pG C R a b lw kn nk sg sc mo x = some (r, gr', nI k', had', pW', pH', pN', pF', pG', C', R', H, V, L, kn', nk', G, S, mo') ∧ f_X8_shakes (nI kh) sv bf a8 b8 t8 l8 m8 lie tr x = some (r, nI k', sv', b', H8, V8, T8, L8, M8, G8, S8) ∧ PW w h nu fi gr' sv' ∧ HI k' pW' pH' pN' pF' pG' b' ∧ CV C' R' nk' kn' mo' := by
  unfold f_X7_shakes f_X8_shakes f_X7_shakes_11
  rw [show (1 : Int64) = (1 : Int32).toInt64 by decide, show (20 : Int64) = (20 : Int32).toInt64 by decide, e8_inI, ob1_s]
  by_cases hx : 1 ≤ x ∧ x ≤ 20
  · obtain ⟨m, m1, m2, rfl⟩ := rng (a := 1) (b := 20) (by omega) (by omega) (show nI 1 ≤ x from hx.1) (show x ≤ nI 20 from hx.2)
    rw [if_pos hx, if_neg (show ¬ (1 : Int32) = 0 by decide), if_neg (i_nlt hx.1), if_pos hx.2]
    obtain ⟨p, C', R', H, V, L, kn', nk', mo', H8, V8, T8, L8, M8, e0, e1, e2, e3, e4⟩ := now_both hP hcv a b lw a8 b8 t8 l8 m8
    obtain ⟨⟨a1, a2, a3, a4⟩, ⟨b1, b2⟩, b3, b4, d1, d2, ⟨g, d3, d4⟩⟩ := id hP
    have h36 := mul36 a2 a4
    have h7 : sv 7 = nu 5 := b3 5 (by omega)
    have hlg : ∀ c, c < w * h → goN w h (nu 5) M8 c < w * h := fun c hc => goN_lt a1 a2 a3 a4 hc
    obtain ⟨G, S, hG, f1⟩ := e_shakes34 (kh := kh) (m := m) (fi := fi) (gq := gr) (go := goN w h (nu 5) M8) (g := g) (mo := mo') (p := p) (gr := va_cpy gr sg 0 0 36) a1 a2 a3 a4 e0 (fun c hc => goN_congr a1 a2 a3 a4 hc e4) (fun k hk => by rw [cpy7 (by omega), d3 k hk]) m2 had pW pH pN pF pG C' R' H V L kn' nk' sc
    obtain ⟨lt, tt, g1, g2⟩ := e8_shakeT (go := goN w h (nu 5) M8) (g := g) (tr := fun c => if c < 36 then sv (45 + c) else tr c) b1 b2 a1 a2 a3 a4 M8 lie (fun c hc => by rw [h7]) (fun k hk => by show (if k < 36 then sv (45 + k) else tr k) = _; rw [if_pos (by omega), d2 k hk, d3 k hk])
    have hmv : MV (w * h) (goN w h (nu 5) M8) g ≤ 36 := by
      have := MV_le (w * h) (goN w h (nu 5) M8) g
      omega
    unfold f_X3_takeFrom
    rw [ob1_s, e1, ob9_s, if_pos (inb_nI e0 (by decide)), f1, e8_tries e3, ob6_s, g1, ob3_s]
    unfold f_X7_shakes_61
    by_cases z : MV (w * h) (goN w h (nu 5) M8) g = 0
    · rw [z, tm_0 z, if_pos nI_0, if_pos nI_0]
      exact ⟨_, _, kh, _, _, _, _, _, _, _, _, _, _, _, _, _, _, _, _, _, _, _, _, _, _, _, _, _, hk, rfl, rfl, hP, hH, e2⟩
    · obtain ⟨k', had', pW', pH', pN', pF', pG', b', r1, r2, r3, r4⟩ := e_record hk had hH ⟨w, h, rfl, rfl, hP⟩
      obtain ⟨sv', li', s1, s2, s3⟩ := e8_shakes41 (go := goN w h (nu 5) M8) (g := g) (m := m) b1 b2 a1 a2 a3 a4 (fun c hc => by rw [h7]) (fun k hk => by rw [d2 k hk, d3 k hk]) m2 (nI k') b' H8 V8 T8 L8 tt lt
      have t1 := tm_le hlg g m
      have t2 : MV (w * h) (goN w h (nu 5) M8) g ≤ tmN (w * h) (goN w h (nu 5) M8) g m := by
        have := tm_ge (w * h) (goN w h (nu 5) M8) g (m - 1)
        rw [show m - 1 + 1 = m by omega] at this
        exact this
      have t3 : nsum g (w * h) * m ≤ 36 * 20 := Nat.mul_le_mul (by omega) m2
      unfold f_X3_layOn
      rw [if_neg (nI_ne0 (by omega) (by omega)), if_neg (nI_ne0 (by omega) (by omega)), r2, ob7_s, ob1_s, r3, ob2_s, s3]
      refine ⟨_, _, k', _, _, _, _, _, _, _, _, _, _, _, _, _, _, _, _, _, _, _, _, _, _, _, _, _, r1, rfl, rfl, PW_sand hP s1 (fun k hk => ?_) ⟨gsN (w * h) (goN w h (nu 5) M8) g m, fun k hk => ?_, by rw [gs_sum hlg, d4]⟩, r4, e2⟩
      · rw [cpy7 (by omega), hG k hk, s2 k hk]
      · rw [cpy7 (by omega), hG k hk]
  · rw [if_neg hx, if_pos rfl]
    by_cases z : x < 1
    · rw [if_pos z]
      exact ⟨_, _, kh, _, _, _, _, _, _, _, _, _, _, _, _, _, _, _, _, _, _, _, _, _, _, _, _, _, hk, rfl, rfl, hP, hH, hcv⟩
    · rw [if_neg z, if_neg (fun y => hx ⟨i_le_of z, y⟩)]
      exact ⟨_, _, kh, _, _, _, _, _, _, _, _, _, _, _, _, _, _, _, _, _, _, _, _, _, _, _, _, _, hk, rfl, rfl, hP, hH, hcv⟩
