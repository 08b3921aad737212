/-! one plate on both sides; the history -/
def NR (w h : Nat) (nu : Nat → Int32) : Prop := ∃ lo pe dr, nu 2 = nI lo ∧ 2 ≤ lo ∧ lo ≤ 20 ∧ nu 4 = nI pe ∧ 2 ≤ pe ∧ pe ≤ 20 ∧ nu 6 = nI dr ∧ dr < w * h
def nsum (g : Nat → Nat) : Nat → Nat
  | 0 => 0
  | n + 1 => nsum g n + g n
def GR (n : Nat) (gr : Nat → Int32) : Prop := ∃ g : Nat → Nat, (∀ k, k < n → gr k = nI (g k)) ∧ nsum g n = n
def PW (w h : Nat) (nu fi gr sv : Nat → Int32) : Prop := (2 ≤ w ∧ w ≤ 6 ∧ 2 ≤ h ∧ h ≤ 6) ∧ (sv 0 = nI w ∧ sv 1 = nI h) ∧ (∀ k, k < 7 → sv (2 + k) = nu k) ∧ NR w h nu ∧ (∀ k, k < 36 → sv (9 + k) = fi k ∧ (fi k = 0 ∨ fi k = 1)) ∧ (∀ k, k < w * h → sv (45 + k) = gr k) ∧ GR (w * h) gr
def PR (W H : Int32) (nu fi gr sv : Nat → Int32) : Prop := ∃ w h, W = nI w ∧ H = nI h ∧ PW w h nu fi gr sv
theorem PW_congr {w h : Nat} {nu fi gr sv nu' fi' gr' sv' : Nat → Int32} (q : PW w h nu fi gr sv) (e1 : ∀ k, k < 7 → nu' k = nu k) (e2 : ∀ k, k < 36 → fi' k = fi k) (e3 : ∀ k, k < 36 → gr' k = gr k) (e4 : ∀ k, k < 81 → sv' k = sv k) : PW w h nu' fi' gr' sv' := by
  obtain ⟨⟨a1, a2, a3, a4⟩, ⟨b1, b2⟩, b3, ⟨lo, pe, dr, c1, c2, c3, c4, c5, c6, c7, c8⟩, d1, d2, g, g1, g2⟩ := q
  have h36 := mul36 a2 a4
  refine ⟨⟨a1, a2, a3, a4⟩, ⟨by rw [e4 0 (by omega), b1], by rw [e4 1 (by omega), b2]⟩, fun k hk => by rw [e4 _ (by omega), e1 k hk, b3 k hk], ⟨lo, pe, dr, by rw [e1 2 (by omega), c1], c2, c3, by rw [e1 4 (by omega), c4], c5, c6, by rw [e1 6 (by omega), c7], c8⟩, fun k hk => by rw [e4 _ (by omega), e2 k hk]; exact d1 k hk, fun k hk => by rw [e4 _ (by omega), e3 k (by omega)]; exact d2 k hk, g, fun k hk => by rw [e3 k (by omega)]; exact g1 k hk, g2⟩
theorem PR_congr {W H : Int32} {nu fi gr sv nu' fi' gr' sv' : Nat → Int32} (q : PR W H nu fi gr sv) (e1 : ∀ k, k < 7 → nu' k = nu k) (e2 : ∀ k, k < 36 → fi' k = fi k) (e3 : ∀ k, k < 36 → gr' k = gr k) (e4 : ∀ k, k < 81 → sv' k = sv k) : PR W H nu' fi' gr' sv' := by
  obtain ⟨w, h, a, b, q⟩ := q
  exact ⟨w, h, a, b, PW_congr q e1 e2 e3 e4⟩
def blk (s : Nat → Int32) (i : Nat) : Nat → Int32 := fun k => s (81 * i + k)
def HI (kn : Nat) (pW pH : Nat → Int32) (pN pF pG : Nat → Nat → Int32) (bf : Nat → Int32) : Prop := ∀ i, i < kn → PR (pW i) (pH i) (pN i) (pF i) (pG i) (blk bf i)
theorem cpy7 {f g : Nat → Int32} {n k : Nat} (hk : k < n) : va_cpy f g 0 0 n k = f k := by
  rw [pk_cpy_in (Nat.zero_le _) (by omega), Nat.zero_add, Nat.sub_zero]
theorem upd_seg {g bf : Nat → Int32} {o i : Nat} {v : Int32} (hv : v = g i) : upd (fun c => if o ≤ c ∧ c < o + i then g (c - o) else bf c) (o + i) v = fun c => if o ≤ c ∧ c < o + (i + 1) then g (c - o) else bf c := by
  funext c
  by_cases q : c = o + i
  · rw [q, pk_us, if_pos (by omega), show o + i - o = i by omega, hv]
  · rw [pk_un q]
    by_cases q2 : o ≤ c ∧ c < o + i
    · rw [if_pos q2, if_pos (by omega)]
    · rw [if_neg q2, if_neg (by omega)]
theorem seg0 (g bf : Nat → Int32) (o : Nat) : (fun c => if o ≤ c ∧ c < o + 0 then g (c - o) else bf c) = bf := by
  funext c
  rw [if_neg (by omega)]
theorem e_note51 {kn : Nat} (hk : kn < 6) (sv bf : Nat → Int32) : f_X8_note_51 (nI kn) sv bf 0 = some (nI (kn + 1), fun c => if 81 * kn ≤ c ∧ c < 81 * kn + 81 then sv (c - 81 * kn) else bf c) := by
  unfold f_X8_note_51
  refine (ox_for (r := fun c => if 81 * kn ≤ c ∧ c < 81 * kn + 81 then sv (c - 81 * kn) else bf c) (fun i => ((fun c => if 81 * kn ≤ c ∧ c < 81 * kn + i then sv (c - 81 * kn) else bf c), nI i)) 81 (by rw [seg0]; rfl) (by omega) ?_ ?_).trans ?_
  · intro i hi k
    show f_X8_note_51b (nI kn) sv _ (nI i) k = _
    unfold f_X8_note_51b
    rw [if_neg (show ¬ (81 : Int32) ≤ nI i from nI_ge (a := i) (b := 81) hi (by omega)), if_pos (inb_nI hi (by decide)), show (81 : Int32) * nI kn = nI (81 * kn) from pk_mul 81 kn, nI_add, if_pos (inb_nI (by omega) (by decide)), nI_clamp (by omega), nI_clamp (by omega), nI_1, upd_seg rfl]
  · intro k
    show f_X8_note_51b (nI kn) sv _ (nI 81) k = _
    unfold f_X8_note_51b
    rw [if_pos (show (81 : Int32) ≤ nI 81 by decide)]
  · show f_X8_note_83 (nI kn) _ = _
    unfold f_X8_note_83
    rw [nI_1]
theorem e_note11 (sv bf : Nat → Int32) : f_X8_note_11 (nI 6) sv bf 0 = f_X8_note_39 (nI 6) sv (fun c => if c < 405 then bf (81 + c) else bf c) := by
  unfold f_X8_note_11
  refine (ox_for (r := fun c => if c < 405 then bf (81 + c) else bf c) (fun i => ((fun c => if c < i then bf (81 + c) else bf c), nI i)) 405 (by rw [← lt0]; rfl) (by omega) ?_ ?_)
  · intro i hi k
    show f_X8_note_11b (nI 6) sv _ (nI i) k = _
    unfold f_X8_note_11b
    rw [if_neg (show ¬ (405 : Int32) ≤ nI i from nI_ge (a := i) (b := 405) hi (by omega)), show (81 : Int32) + nI i = nI (81 + i) from nI_add 81 i, if_pos (inb_nI (by omega) (by decide)), if_pos (inb_nI (by omega) (by decide)), nI_clamp (by omega), nI_clamp (by omega), nI_1, upd_lt (g := fun c => bf (81 + c)) (if_neg (by omega))]
  · intro k
    show f_X8_note_11b (nI 6) sv _ (nI 405) k = _
    unfold f_X8_note_11b
    rw [if_pos (show (405 : Int32) ≤ nI 405 by decide)]
theorem e_note8 {kn : Nat} (hk : kn ≤ 6) (sv bf : Nat → Int32) : ∃ b', f_X8_note (nI kn) sv bf = some (nI (if kn < 6 then kn + 1 else 6), b') ∧ ∀ i, i < 6 → ∀ k, k < 81 → blk b' i k = if kn < 6 then (if i = kn then sv k else blk bf i k) else (if i = 5 then sv k else blk bf (i + 1) k) := by
  unfold f_X8_note f_X8_note_49
  by_cases q : kn < 6
  · rw [if_neg (show ¬ nI kn = 6 from fun z => by have := (nI_eq (a := kn) (b := 6) (by omega) (by omega)).mp z; omega), e_note51 q]
    refine ⟨_, by rw [if_pos q], fun i hi k hk81 => ?_⟩
    rw [if_pos q]
    show (if 81 * kn ≤ 81 * i + k ∧ 81 * i + k < 81 * kn + 81 then sv (81 * i + k - 81 * kn) else bf (81 * i + k)) = _
    by_cases e : i = kn
    · rw [if_pos (by omega), if_pos e, show 81 * i + k - 81 * kn = k by omega]
    · rw [if_neg (by omega), if_neg e]; rfl
  · have e6 : kn = 6 := by omega
    subst e6
    rw [if_pos (show nI 6 = 6 by decide), e_note11]
    unfold f_X8_note_39 f_X8_note_49
    rw [show nI 6 - 1 = nI 5 by decide, e_note51 (by omega)]
    refine ⟨_, rfl, fun i hi k hk81 => ?_⟩
    rw [if_neg q]
    show (if 81 * 5 ≤ 81 * i + k ∧ 81 * i + k < 81 * 5 + 81 then sv (81 * i + k - 81 * 5) else (if 81 * i + k < 405 then bf (81 + (81 * i + k)) else bf (81 * i + k))) = _
    by_cases e : i = 5
    · rw [if_pos (by omega), if_pos e, show 81 * i + k - 81 * 5 = k by omega]
    · rw [if_neg (by omega), if_neg e, if_pos (by omega)]
      show _ = bf (81 * (i + 1) + k)
      rw [show 81 + (81 * i + k) = 81 * (i + 1) + k by omega]
def tk7 (f g : Nat → Int32) : Nat → Int32 := va_cpy f g 0 0 7
def tk36 (f g : Nat → Int32) : Nat → Int32 := va_cpy f g 0 0 36
theorem e_take (a b c : Nat → Int32) (W H : Int32) (nu fi gr : Nat → Int32) : f_X2_takeFrom a b c W H nu fi gr = some (W, H, tk7 nu a, tk36 fi b, tk36 gr c) := by
  unfold f_X2_takeFrom tk7 tk36; exact (Eq.refl _)
theorem PR_take {W H : Int32} {nu fi gr sv sv' : Nat → Int32} (a b c : Nat → Int32) (q : PR W H nu fi gr sv) (e : ∀ k, k < 81 → sv' k = sv k) : PR W H (tk7 nu a) (tk36 fi b) (tk36 gr c) sv' :=
  PR_congr q (fun _ hk => cpy7 hk) (fun _ hk => cpy7 hk) (fun _ hk => cpy7 hk) e
theorem e_rec13 {kn : Nat} (hk : kn < 6) (had : Nat → Nat) (pW pH : Nat → Int32) (pN pF pG : Nat → Nat → Int32) (W H : Int32) (nu fi gr : Nat → Int32) :
    f_X0_record_13 (nI kn) had pW pH pN pF pG W H nu fi gr = some (nI (kn + 1), had, va_up pW kn W, va_up pH kn H, va_up pN kn (tk7 nu (pN kn)), va_up pF kn (tk36 fi (pF kn)), va_up pG kn (tk36 gr (pG kn))) := by
  have ne : ∀ j, j < 6 → ¬ kn = j → ¬ nI kn = nI j := fun j hj q z => q ((nI_eq (by omega) (by omega)).mp z)
  unfold f_X0_record_13
  simp only [e_take, ob5_s, nI_1]
  rcases (show kn = 0 ∨ kn = 1 ∨ kn = 2 ∨ kn = 3 ∨ kn = 4 ∨ kn = 5 by omega) with e | e | e | e | e | e <;> subst e
  · rw [if_pos (show nI 0 = 0 by decide)]
  · rw [if_neg (show ¬ nI 1 = 0 by decide), if_pos (show nI 1 = 1 by decide)]
  · rw [if_neg (show ¬ nI 2 = 0 by decide), if_neg (show ¬ nI 2 = 1 by decide), if_pos (show nI 2 = 2 by decide)]
  · rw [if_neg (show ¬ nI 3 = 0 by decide), if_neg (show ¬ nI 3 = 1 by decide), if_neg (show ¬ nI 3 = 2 by decide), if_pos (show nI 3 = 3 by decide)]
  · rw [if_neg (show ¬ nI 4 = 0 by decide), if_neg (show ¬ nI 4 = 1 by decide), if_neg (show ¬ nI 4 = 2 by decide), if_neg (show ¬ nI 4 = 3 by decide), if_pos (show nI 4 = 4 by decide)]
  · rw [if_neg (show ¬ nI 5 = 0 by decide), if_neg (show ¬ nI 5 = 1 by decide), if_neg (show ¬ nI 5 = 2 by decide), if_neg (show ¬ nI 5 = 3 by decide), if_neg (show ¬ nI 5 = 4 by decide), if_pos (show nI 5 = 5 by decide)]
