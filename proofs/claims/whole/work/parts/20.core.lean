/-! loops as fuelled iteration in continuation form; checks; sequencing by the number of results -/
def vm_it {σ ρ : Type} (step : σ → (σ → Option ρ) → Option ρ) : Nat → σ → Option ρ
  | 0, _ => none
  | n + 1, s => step s (vm_it step n)
theorem vm_it_0 {σ ρ : Type} {step : σ → (σ → Option ρ) → Option ρ} {s : σ} {o : ρ} (h : vm_it step 0 s = some o) : False := by
  cases h
def FU : Nat := 1000
/-- a loop that runs through the states S 0 .. S n -/
theorem vm_it_for {σ ρ : Type} {step : σ → (σ → Option ρ) → Option ρ} {r : ρ} (S : Nat → σ) (n : Nat) (hs : ∀ i, i < n → ∀ k, step (S i) k = k (S (i + 1))) (he : ∀ k, step (S n) k = some r) : ∀ (F i : Nat), i ≤ n → n < i + F → vm_it step F (S i) = some r := by
  intro F
  induction F with
  | zero => intro i h1 h2; omega
  | succ F ih =>
    intro i h1 h2
    show step (S i) (vm_it step F) = some r
    rcases Nat.lt_or_ge i n with q | q
    · rw [hs i q]; exact ih (i + 1) q (by omega)
    · have e : i = n := by omega
      subst e; exact he _
theorem vm_for {σ ρ : Type} {step : σ → (σ → Option ρ) → Option ρ} {r : ρ} {s : σ} (S : Nat → σ) (n : Nat) (h0 : s = S 0) (hn : n < 1000) (hs : ∀ i, i < n → ∀ k, step (S i) k = k (S (i + 1))) (he : ∀ k, step (S n) k = some r) : vm_it step FU s = some r := by
  subst h0
  exact vm_it_for S n hs he FU 0 (Nat.zero_le n) (by unfold FU; omega)
def inb (i : Int32) (n : Nat) : Bool := decide (0 ≤ i.toInt ∧ i.toInt < (n : Int))
theorem inb_vp {i : Int32} {n : Nat} (h : inb i n = true) : vp_in i n := vp_in_iff.mpr (of_decide_eq_true h)
theorem inb_nI {k n : Nat} (h : k < n) (hn : n < 2 ^ 31) : inb (nI k) n = true := decide_eq_true (vp_in_iff.mp (vp_in_nI h hn))
theorem vm_ck {α : Type} {c : Prop} [Decidable c] {a : Option α} {o : α} (h : (if c then a else none) = some o) : c ∧ a = some o := by
  by_cases hc : c
  · rw [if_pos hc] at h; exact ⟨hc, h⟩
  · rw [if_neg hc] at h; cases h
theorem vm_pos {α : Type} {c : Prop} [Decidable c] {a b : Option α} {o : α} (hc : c) (h : (if c then a else b) = some o) : a = some o := by
  rw [if_pos hc] at h; exact h
theorem vm_neg {α : Type} {c : Prop} [Decidable c] {a b : Option α} {o : α} (hc : ¬ c) (h : (if c then a else b) = some o) : b = some o := by
  rw [if_neg hc] at h; exact h
def ob0 {δ : Type} (a : Option Unit) (f : Option δ) : Option δ := a.bind (fun _ => f)
def ob1 {α δ : Type} (a : Option α) (f : α → Option δ) : Option δ := a.bind f
def ob2 {α β δ : Type} (a : Option (α × β)) (f : α → β → Option δ) : Option δ := a.bind (fun t => f t.1 t.2)
def ob3 {α β γ δ : Type} (a : Option (α × β × γ)) (f : α → β → γ → Option δ) : Option δ := a.bind (fun t => f t.1 t.2.1 t.2.2)
def ob4 {α β γ ε δ : Type} (a : Option (α × β × γ × ε)) (f : α → β → γ → ε → Option δ) : Option δ := a.bind (fun t => f t.1 t.2.1 t.2.2.1 t.2.2.2)
def ob5 {α β γ ε ζ δ : Type} (a : Option (α × β × γ × ε × ζ)) (f : α → β → γ → ε → ζ → Option δ) : Option δ := a.bind (fun t => f t.1 t.2.1 t.2.2.1 t.2.2.2.1 t.2.2.2.2)
def ob6 {α β γ ε ζ η δ : Type} (a : Option (α × β × γ × ε × ζ × η)) (f : α → β → γ → ε → ζ → η → Option δ) : Option δ := a.bind (fun t => f t.1 t.2.1 t.2.2.1 t.2.2.2.1 t.2.2.2.2.1 t.2.2.2.2.2)
def ob7 {α β γ ε ζ η θ δ : Type} (a : Option (α × β × γ × ε × ζ × η × θ)) (f : α → β → γ → ε → ζ → η → θ → Option δ) : Option δ := a.bind (fun t => f t.1 t.2.1 t.2.2.1 t.2.2.2.1 t.2.2.2.2.1 t.2.2.2.2.2.1 t.2.2.2.2.2.2)
def ob8 {α β γ ε ζ η θ ι δ : Type} (a : Option (α × β × γ × ε × ζ × η × θ × ι)) (f : α → β → γ → ε → ζ → η → θ → ι → Option δ) : Option δ := a.bind (fun t => f t.1 t.2.1 t.2.2.1 t.2.2.2.1 t.2.2.2.2.1 t.2.2.2.2.2.1 t.2.2.2.2.2.2.1 t.2.2.2.2.2.2.2)
def ob9 {α β γ ε ζ η θ ι κ δ : Type} (a : Option (α × β × γ × ε × ζ × η × θ × ι × κ)) (f : α → β → γ → ε → ζ → η → θ → ι → κ → Option δ) : Option δ := a.bind (fun t => f t.1 t.2.1 t.2.2.1 t.2.2.2.1 t.2.2.2.2.1 t.2.2.2.2.2.1 t.2.2.2.2.2.2.1 t.2.2.2.2.2.2.2.1 t.2.2.2.2.2.2.2.2)
def obx {α δ : Type} (a : Option α) (f : α → Option δ) : Option δ := a.bind f
theorem ob0_some {δ : Type} {a : Option Unit} {f : Option δ} {o : δ} (h : ob0 a f = some o) : a = some () ∧ f = some o := by
  cases a with
  | none => cases h
  | some t => exact ⟨rfl, h⟩
theorem ob1_some {α δ : Type} {a : Option α} {f : α → Option δ} {o : δ} (h : ob1 a f = some o) : ∃ x, a = some x ∧ f x = some o := by
  cases a with
  | none => cases h
  | some t => exact ⟨t, rfl, h⟩
theorem obx_some {α δ : Type} {a : Option α} {f : α → Option δ} {o : δ} (h : obx a f = some o) : ∃ x, a = some x ∧ f x = some o := by
  cases a with
  | none => cases h
  | some t => exact ⟨t, rfl, h⟩
theorem ob2_some {α β δ : Type} {a : Option (α × β)} {f : α → β → Option δ} {o : δ} (h : ob2 a f = some o) : ∃ x1 x2, a = some (x1, x2) ∧ f x1 x2 = some o := by
  cases a with
  | none => cases h
  | some t => exact ⟨t.1, t.2, rfl, h⟩
theorem ob3_some {α β γ δ : Type} {a : Option (α × β × γ)} {f : α → β → γ → Option δ} {o : δ} (h : ob3 a f = some o) : ∃ x1 x2 x3, a = some (x1, x2, x3) ∧ f x1 x2 x3 = some o := by
  cases a with
  | none => cases h
  | some t => exact ⟨t.1, t.2.1, t.2.2, rfl, h⟩
theorem ob4_some {α β γ ε δ : Type} {a : Option (α × β × γ × ε)} {f : α → β → γ → ε → Option δ} {o : δ} (h : ob4 a f = some o) : ∃ x1 x2 x3 x4, a = some (x1, x2, x3, x4) ∧ f x1 x2 x3 x4 = some o := by
  cases a with
  | none => cases h
  | some t => exact ⟨t.1, t.2.1, t.2.2.1, t.2.2.2, rfl, h⟩
theorem ob5_some {α β γ ε ζ δ : Type} {a : Option (α × β × γ × ε × ζ)} {f : α → β → γ → ε → ζ → Option δ} {o : δ} (h : ob5 a f = some o) : ∃ x1 x2 x3 x4 x5, a = some (x1, x2, x3, x4, x5) ∧ f x1 x2 x3 x4 x5 = some o := by
  cases a with
  | none => cases h
  | some t => exact ⟨t.1, t.2.1, t.2.2.1, t.2.2.2.1, t.2.2.2.2, rfl, h⟩
theorem ob6_some {α β γ ε ζ η δ : Type} {a : Option (α × β × γ × ε × ζ × η)} {f : α → β → γ → ε → ζ → η → Option δ} {o : δ} (h : ob6 a f = some o) : ∃ x1 x2 x3 x4 x5 x6, a = some (x1, x2, x3, x4, x5, x6) ∧ f x1 x2 x3 x4 x5 x6 = some o := by
  cases a with
  | none => cases h
  | some t => exact ⟨t.1, t.2.1, t.2.2.1, t.2.2.2.1, t.2.2.2.2.1, t.2.2.2.2.2, rfl, h⟩
theorem ob7_some {α β γ ε ζ η θ δ : Type} {a : Option (α × β × γ × ε × ζ × η × θ)} {f : α → β → γ → ε → ζ → η → θ → Option δ} {o : δ} (h : ob7 a f = some o) : ∃ x1 x2 x3 x4 x5 x6 x7, a = some (x1, x2, x3, x4, x5, x6, x7) ∧ f x1 x2 x3 x4 x5 x6 x7 = some o := by
  cases a with
  | none => cases h
  | some t => exact ⟨t.1, t.2.1, t.2.2.1, t.2.2.2.1, t.2.2.2.2.1, t.2.2.2.2.2.1, t.2.2.2.2.2.2, rfl, h⟩
theorem ob8_some {α β γ ε ζ η θ ι δ : Type} {a : Option (α × β × γ × ε × ζ × η × θ × ι)} {f : α → β → γ → ε → ζ → η → θ → ι → Option δ} {o : δ} (h : ob8 a f = some o) : ∃ x1 x2 x3 x4 x5 x6 x7 x8, a = some (x1, x2, x3, x4, x5, x6, x7, x8) ∧ f x1 x2 x3 x4 x5 x6 x7 x8 = some o := by
  cases a with
  | none => cases h
  | some t => exact ⟨t.1, t.2.1, t.2.2.1, t.2.2.2.1, t.2.2.2.2.1, t.2.2.2.2.2.1, t.2.2.2.2.2.2.1, t.2.2.2.2.2.2.2, rfl, h⟩
theorem ob9_some {α β γ ε ζ η θ ι κ δ : Type} {a : Option (α × β × γ × ε × ζ × η × θ × ι × κ)} {f : α → β → γ → ε → ζ → η → θ → ι → κ → Option δ} {o : δ} (h : ob9 a f = some o) : ∃ x1 x2 x3 x4 x5 x6 x7 x8 x9, a = some (x1, x2, x3, x4, x5, x6, x7, x8, x9) ∧ f x1 x2 x3 x4 x5 x6 x7 x8 x9 = some o := by
  cases a with
  | none => cases h
  | some t => exact ⟨t.1, t.2.1, t.2.2.1, t.2.2.2.1, t.2.2.2.2.1, t.2.2.2.2.2.1, t.2.2.2.2.2.2.1, t.2.2.2.2.2.2.2.1, t.2.2.2.2.2.2.2.2, rfl, h⟩
def un0 {δ : Type} (f : δ) : Unit → δ := fun _ => f
def un2 {α β δ : Type} (f : α → β → δ) : α × β → δ := fun t => f t.1 t.2
def un3 {α β γ δ : Type} (f : α → β → γ → δ) : α × β × γ → δ := fun t => f t.1 t.2.1 t.2.2
def un4 {α β γ ε δ : Type} (f : α → β → γ → ε → δ) : α × β × γ × ε → δ := fun t => f t.1 t.2.1 t.2.2.1 t.2.2.2
def un5 {α β γ ε ζ δ : Type} (f : α → β → γ → ε → ζ → δ) : α × β × γ × ε × ζ → δ := fun t => f t.1 t.2.1 t.2.2.1 t.2.2.2.1 t.2.2.2.2
def un6 {α β γ ε ζ η δ : Type} (f : α → β → γ → ε → ζ → η → δ) : α × β × γ × ε × ζ × η → δ := fun t => f t.1 t.2.1 t.2.2.1 t.2.2.2.1 t.2.2.2.2.1 t.2.2.2.2.2
def un7 {α β γ ε ζ η θ δ : Type} (f : α → β → γ → ε → ζ → η → θ → δ) : α × β × γ × ε × ζ × η × θ → δ := fun t => f t.1 t.2.1 t.2.2.1 t.2.2.2.1 t.2.2.2.2.1 t.2.2.2.2.2.1 t.2.2.2.2.2.2
def un8 {α β γ ε ζ η θ ι δ : Type} (f : α → β → γ → ε → ζ → η → θ → ι → δ) : α × β × γ × ε × ζ × η × θ × ι → δ := fun t => f t.1 t.2.1 t.2.2.1 t.2.2.2.1 t.2.2.2.2.1 t.2.2.2.2.2.1 t.2.2.2.2.2.2.1 t.2.2.2.2.2.2.2
