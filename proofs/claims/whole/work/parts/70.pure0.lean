/-! pure facts: sequencing, sums, repeated steps -/
theorem ob0_s {δ : Type} {f : Option δ} : ob0 (some ()) f = f := (Eq.refl _).trans (Eq.refl _)
theorem ob1_s {α δ : Type} {x : α} {f : α → Option δ} : ob1 (some x) f = f x := (Eq.refl _).trans (Eq.refl _)
theorem obx_s {α δ : Type} {x : α} {f : α → Option δ} : obx (some x) f = f x := (Eq.refl _).trans (Eq.refl _)
theorem ob2_s {α β δ : Type} {x : α} {y : β} {f : α → β → Option δ} : ob2 (some (x, y)) f = f x y := (Eq.refl _).trans (Eq.refl _)
theorem ob3_s {α β γ δ : Type} {x : α} {y : β} {z : γ} {f : α → β → γ → Option δ} : ob3 (some (x, y, z)) f = f x y z := (Eq.refl _).trans (Eq.refl _)
theorem ob4_s {α β γ ε δ : Type} {x : α} {y : β} {z : γ} {u : ε} {f : α → β → γ → ε → Option δ} : ob4 (some (x, y, z, u)) f = f x y z u := (Eq.refl _).trans (Eq.refl _)
theorem ob5_s {α β γ ε ζ δ : Type} {x : α} {y : β} {z : γ} {u : ε} {v : ζ} {f : α → β → γ → ε → ζ → Option δ} : ob5 (some (x, y, z, u, v)) f = f x y z u v := (Eq.refl _).trans (Eq.refl _)
theorem ob6_s {α1 α2 α3 α4 α5 α6 δ : Type} {x1 : α1} {x2 : α2} {x3 : α3} {x4 : α4} {x5 : α5} {x6 : α6} {f : α1 → α2 → α3 → α4 → α5 → α6 → Option δ} : ob6 (some (x1, x2, x3, x4, x5, x6)) f = f x1 x2 x3 x4 x5 x6 := (Eq.refl _).trans (Eq.refl _)
theorem ob7_s {α1 α2 α3 α4 α5 α6 α7 δ : Type} {x1 : α1} {x2 : α2} {x3 : α3} {x4 : α4} {x5 : α5} {x6 : α6} {x7 : α7} {f : α1 → α2 → α3 → α4 → α5 → α6 → α7 → Option δ} : ob7 (some (x1, x2, x3, x4, x5, x6, x7)) f = f x1 x2 x3 x4 x5 x6 x7 := (Eq.refl _).trans (Eq.refl _)
theorem ob8_s {α1 α2 α3 α4 α5 α6 α7 α8 δ : Type} {x1 : α1} {x2 : α2} {x3 : α3} {x4 : α4} {x5 : α5} {x6 : α6} {x7 : α7} {x8 : α8} {f : α1 → α2 → α3 → α4 → α5 → α6 → α7 → α8 → Option δ} : ob8 (some (x1, x2, x3, x4, x5, x6, x7, x8)) f = f x1 x2 x3 x4 x5 x6 x7 x8 := (Eq.refl _).trans (Eq.refl _)
theorem ob9_s {α1 α2 α3 α4 α5 α6 α7 α8 α9 δ : Type} {x1 : α1} {x2 : α2} {x3 : α3} {x4 : α4} {x5 : α5} {x6 : α6} {x7 : α7} {x8 : α8} {x9 : α9} {f : α1 → α2 → α3 → α4 → α5 → α6 → α7 → α8 → α9 → Option δ} : ob9 (some (x1, x2, x3, x4, x5, x6, x7, x8, x9)) f = f x1 x2 x3 x4 x5 x6 x7 x8 x9 := (Eq.refl _).trans (Eq.refl _)
theorem ob10_s {α1 α2 α3 α4 α5 α6 α7 α8 α9 α10 δ : Type} {x1 : α1} {x2 : α2} {x3 : α3} {x4 : α4} {x5 : α5} {x6 : α6} {x7 : α7} {x8 : α8} {x9 : α9} {x10 : α10} {f : α1 → α2 → α3 → α4 → α5 → α6 → α7 → α8 → α9 → α10 → Option δ} : ob10 (some (x1, x2, x3, x4, x5, x6, x7, x8, x9, x10)) f = f x1 x2 x3 x4 x5 x6 x7 x8 x9 x10 := (Eq.refl _).trans (Eq.refl _)
theorem ob11_s {α1 α2 α3 α4 α5 α6 α7 α8 α9 α10 α11 δ : Type} {x1 : α1} {x2 : α2} {x3 : α3} {x4 : α4} {x5 : α5} {x6 : α6} {x7 : α7} {x8 : α8} {x9 : α9} {x10 : α10} {x11 : α11} {f : α1 → α2 → α3 → α4 → α5 → α6 → α7 → α8 → α9 → α10 → α11 → Option δ} : ob11 (some (x1, x2, x3, x4, x5, x6, x7, x8, x9, x10, x11)) f = f x1 x2 x3 x4 x5 x6 x7 x8 x9 x10 x11 := (Eq.refl _).trans (Eq.refl _)
theorem ob12_s {α1 α2 α3 α4 α5 α6 α7 α8 α9 α10 α11 α12 δ : Type} {x1 : α1} {x2 : α2} {x3 : α3} {x4 : α4} {x5 : α5} {x6 : α6} {x7 : α7} {x8 : α8} {x9 : α9} {x10 : α10} {x11 : α11} {x12 : α12} {f : α1 → α2 → α3 → α4 → α5 → α6 → α7 → α8 → α9 → α10 → α11 → α12 → Option δ} : ob12 (some (x1, x2, x3, x4, x5, x6, x7, x8, x9, x10, x11, x12)) f = f x1 x2 x3 x4 x5 x6 x7 x8 x9 x10 x11 x12 := (Eq.refl _).trans (Eq.refl _)
theorem ob13_s {α1 α2 α3 α4 α5 α6 α7 α8 α9 α10 α11 α12 α13 δ : Type} {x1 : α1} {x2 : α2} {x3 : α3} {x4 : α4} {x5 : α5} {x6 : α6} {x7 : α7} {x8 : α8} {x9 : α9} {x10 : α10} {x11 : α11} {x12 : α12} {x13 : α13} {f : α1 → α2 → α3 → α4 → α5 → α6 → α7 → α8 → α9 → α10 → α11 → α12 → α13 → Option δ} : ob13 (some (x1, x2, x3, x4, x5, x6, x7, x8, x9, x10, x11, x12, x13)) f = f x1 x2 x3 x4 x5 x6 x7 x8 x9 x10 x11 x12 x13 := (Eq.refl _).trans (Eq.refl _)
theorem ob14_s {α1 α2 α3 α4 α5 α6 α7 α8 α9 α10 α11 α12 α13 α14 δ : Type} {x1 : α1} {x2 : α2} {x3 : α3} {x4 : α4} {x5 : α5} {x6 : α6} {x7 : α7} {x8 : α8} {x9 : α9} {x10 : α10} {x11 : α11} {x12 : α12} {x13 : α13} {x14 : α14} {f : α1 → α2 → α3 → α4 → α5 → α6 → α7 → α8 → α9 → α10 → α11 → α12 → α13 → α14 → Option δ} : ob14 (some (x1, x2, x3, x4, x5, x6, x7, x8, x9, x10, x11, x12, x13, x14)) f = f x1 x2 x3 x4 x5 x6 x7 x8 x9 x10 x11 x12 x13 x14 := (Eq.refl _).trans (Eq.refl _)
theorem ob15_s {α1 α2 α3 α4 α5 α6 α7 α8 α9 α10 α11 α12 α13 α14 α15 δ : Type} {x1 : α1} {x2 : α2} {x3 : α3} {x4 : α4} {x5 : α5} {x6 : α6} {x7 : α7} {x8 : α8} {x9 : α9} {x10 : α10} {x11 : α11} {x12 : α12} {x13 : α13} {x14 : α14} {x15 : α15} {f : α1 → α2 → α3 → α4 → α5 → α6 → α7 → α8 → α9 → α10 → α11 → α12 → α13 → α14 → α15 → Option δ} : ob15 (some (x1, x2, x3, x4, x5, x6, x7, x8, x9, x10, x11, x12, x13, x14, x15)) f = f x1 x2 x3 x4 x5 x6 x7 x8 x9 x10 x11 x12 x13 x14 x15 := (Eq.refl _).trans (Eq.refl _)
theorem ob16_s {α1 α2 α3 α4 α5 α6 α7 α8 α9 α10 α11 α12 α13 α14 α15 α16 δ : Type} {x1 : α1} {x2 : α2} {x3 : α3} {x4 : α4} {x5 : α5} {x6 : α6} {x7 : α7} {x8 : α8} {x9 : α9} {x10 : α10} {x11 : α11} {x12 : α12} {x13 : α13} {x14 : α14} {x15 : α15} {x16 : α16} {f : α1 → α2 → α3 → α4 → α5 → α6 → α7 → α8 → α9 → α10 → α11 → α12 → α13 → α14 → α15 → α16 → Option δ} : ob16 (some (x1, x2, x3, x4, x5, x6, x7, x8, x9, x10, x11, x12, x13, x14, x15, x16)) f = f x1 x2 x3 x4 x5 x6 x7 x8 x9 x10 x11 x12 x13 x14 x15 x16 := (Eq.refl _).trans (Eq.refl _)
theorem ob17_s {α1 α2 α3 α4 α5 α6 α7 α8 α9 α10 α11 α12 α13 α14 α15 α16 α17 δ : Type} {x1 : α1} {x2 : α2} {x3 : α3} {x4 : α4} {x5 : α5} {x6 : α6} {x7 : α7} {x8 : α8} {x9 : α9} {x10 : α10} {x11 : α11} {x12 : α12} {x13 : α13} {x14 : α14} {x15 : α15} {x16 : α16} {x17 : α17} {f : α1 → α2 → α3 → α4 → α5 → α6 → α7 → α8 → α9 → α10 → α11 → α12 → α13 → α14 → α15 → α16 → α17 → Option δ} : ob17 (some (x1, x2, x3, x4, x5, x6, x7, x8, x9, x10, x11, x12, x13, x14, x15, x16, x17)) f = f x1 x2 x3 x4 x5 x6 x7 x8 x9 x10 x11 x12 x13 x14 x15 x16 x17 := (Eq.refl _).trans (Eq.refl _)
theorem ob18_s {α1 α2 α3 α4 α5 α6 α7 α8 α9 α10 α11 α12 α13 α14 α15 α16 α17 α18 δ : Type} {x1 : α1} {x2 : α2} {x3 : α3} {x4 : α4} {x5 : α5} {x6 : α6} {x7 : α7} {x8 : α8} {x9 : α9} {x10 : α10} {x11 : α11} {x12 : α12} {x13 : α13} {x14 : α14} {x15 : α15} {x16 : α16} {x17 : α17} {x18 : α18} {f : α1 → α2 → α3 → α4 → α5 → α6 → α7 → α8 → α9 → α10 → α11 → α12 → α13 → α14 → α15 → α16 → α17 → α18 → Option δ} : ob18 (some (x1, x2, x3, x4, x5, x6, x7, x8, x9, x10, x11, x12, x13, x14, x15, x16, x17, x18)) f = f x1 x2 x3 x4 x5 x6 x7 x8 x9 x10 x11 x12 x13 x14 x15 x16 x17 x18 := (Eq.refl _).trans (Eq.refl _)
theorem ob19_s {α1 α2 α3 α4 α5 α6 α7 α8 α9 α10 α11 α12 α13 α14 α15 α16 α17 α18 α19 δ : Type} {x1 : α1} {x2 : α2} {x3 : α3} {x4 : α4} {x5 : α5} {x6 : α6} {x7 : α7} {x8 : α8} {x9 : α9} {x10 : α10} {x11 : α11} {x12 : α12} {x13 : α13} {x14 : α14} {x15 : α15} {x16 : α16} {x17 : α17} {x18 : α18} {x19 : α19} {f : α1 → α2 → α3 → α4 → α5 → α6 → α7 → α8 → α9 → α10 → α11 → α12 → α13 → α14 → α15 → α16 → α17 → α18 → α19 → Option δ} : ob19 (some (x1, x2, x3, x4, x5, x6, x7, x8, x9, x10, x11, x12, x13, x14, x15, x16, x17, x18, x19)) f = f x1 x2 x3 x4 x5 x6 x7 x8 x9 x10 x11 x12 x13 x14 x15 x16 x17 x18 x19 := (Eq.refl _).trans (Eq.refl _)
theorem ob20_s {α1 α2 α3 α4 α5 α6 α7 α8 α9 α10 α11 α12 α13 α14 α15 α16 α17 α18 α19 α20 δ : Type} {x1 : α1} {x2 : α2} {x3 : α3} {x4 : α4} {x5 : α5} {x6 : α6} {x7 : α7} {x8 : α8} {x9 : α9} {x10 : α10} {x11 : α11} {x12 : α12} {x13 : α13} {x14 : α14} {x15 : α15} {x16 : α16} {x17 : α17} {x18 : α18} {x19 : α19} {x20 : α20} {f : α1 → α2 → α3 → α4 → α5 → α6 → α7 → α8 → α9 → α10 → α11 → α12 → α13 → α14 → α15 → α16 → α17 → α18 → α19 → α20 → Option δ} : ob20 (some (x1, x2, x3, x4, x5, x6, x7, x8, x9, x10, x11, x12, x13, x14, x15, x16, x17, x18, x19, x20)) f = f x1 x2 x3 x4 x5 x6 x7 x8 x9 x10 x11 x12 x13 x14 x15 x16 x17 x18 x19 x20 := (Eq.refl _).trans (Eq.refl _)
theorem ob21_s {α1 α2 α3 α4 α5 α6 α7 α8 α9 α10 α11 α12 α13 α14 α15 α16 α17 α18 α19 α20 α21 δ : Type} {x1 : α1} {x2 : α2} {x3 : α3} {x4 : α4} {x5 : α5} {x6 : α6} {x7 : α7} {x8 : α8} {x9 : α9} {x10 : α10} {x11 : α11} {x12 : α12} {x13 : α13} {x14 : α14} {x15 : α15} {x16 : α16} {x17 : α17} {x18 : α18} {x19 : α19} {x20 : α20} {x21 : α21} {f : α1 → α2 → α3 → α4 → α5 → α6 → α7 → α8 → α9 → α10 → α11 → α12 → α13 → α14 → α15 → α16 → α17 → α18 → α19 → α20 → α21 → Option δ} : ob21 (some (x1, x2, x3, x4, x5, x6, x7, x8, x9, x10, x11, x12, x13, x14, x15, x16, x17, x18, x19, x20, x21)) f = f x1 x2 x3 x4 x5 x6 x7 x8 x9 x10 x11 x12 x13 x14 x15 x16 x17 x18 x19 x20 x21 := (Eq.refl _).trans (Eq.refl _)
theorem ob22_s {α1 α2 α3 α4 α5 α6 α7 α8 α9 α10 α11 α12 α13 α14 α15 α16 α17 α18 α19 α20 α21 α22 δ : Type} {x1 : α1} {x2 : α2} {x3 : α3} {x4 : α4} {x5 : α5} {x6 : α6} {x7 : α7} {x8 : α8} {x9 : α9} {x10 : α10} {x11 : α11} {x12 : α12} {x13 : α13} {x14 : α14} {x15 : α15} {x16 : α16} {x17 : α17} {x18 : α18} {x19 : α19} {x20 : α20} {x21 : α21} {x22 : α22} {f : α1 → α2 → α3 → α4 → α5 → α6 → α7 → α8 → α9 → α10 → α11 → α12 → α13 → α14 → α15 → α16 → α17 → α18 → α19 → α20 → α21 → α22 → Option δ} : ob22 (some (x1, x2, x3, x4, x5, x6, x7, x8, x9, x10, x11, x12, x13, x14, x15, x16, x17, x18, x19, x20, x21, x22)) f = f x1 x2 x3 x4 x5 x6 x7 x8 x9 x10 x11 x12 x13 x14 x15 x16 x17 x18 x19 x20 x21 x22 := (Eq.refl _).trans (Eq.refl _)
theorem ob23_s {α1 α2 α3 α4 α5 α6 α7 α8 α9 α10 α11 α12 α13 α14 α15 α16 α17 α18 α19 α20 α21 α22 α23 δ : Type} {x1 : α1} {x2 : α2} {x3 : α3} {x4 : α4} {x5 : α5} {x6 : α6} {x7 : α7} {x8 : α8} {x9 : α9} {x10 : α10} {x11 : α11} {x12 : α12} {x13 : α13} {x14 : α14} {x15 : α15} {x16 : α16} {x17 : α17} {x18 : α18} {x19 : α19} {x20 : α20} {x21 : α21} {x22 : α22} {x23 : α23} {f : α1 → α2 → α3 → α4 → α5 → α6 → α7 → α8 → α9 → α10 → α11 → α12 → α13 → α14 → α15 → α16 → α17 → α18 → α19 → α20 → α21 → α22 → α23 → Option δ} : ob23 (some (x1, x2, x3, x4, x5, x6, x7, x8, x9, x10, x11, x12, x13, x14, x15, x16, x17, x18, x19, x20, x21, x22, x23)) f = f x1 x2 x3 x4 x5 x6 x7 x8 x9 x10 x11 x12 x13 x14 x15 x16 x17 x18 x19 x20 x21 x22 x23 := (Eq.refl _).trans (Eq.refl _)
theorem ob24_s {α1 α2 α3 α4 α5 α6 α7 α8 α9 α10 α11 α12 α13 α14 α15 α16 α17 α18 α19 α20 α21 α22 α23 α24 δ : Type} {x1 : α1} {x2 : α2} {x3 : α3} {x4 : α4} {x5 : α5} {x6 : α6} {x7 : α7} {x8 : α8} {x9 : α9} {x10 : α10} {x11 : α11} {x12 : α12} {x13 : α13} {x14 : α14} {x15 : α15} {x16 : α16} {x17 : α17} {x18 : α18} {x19 : α19} {x20 : α20} {x21 : α21} {x22 : α22} {x23 : α23} {x24 : α24} {f : α1 → α2 → α3 → α4 → α5 → α6 → α7 → α8 → α9 → α10 → α11 → α12 → α13 → α14 → α15 → α16 → α17 → α18 → α19 → α20 → α21 → α22 → α23 → α24 → Option δ} : ob24 (some (x1, x2, x3, x4, x5, x6, x7, x8, x9, x10, x11, x12, x13, x14, x15, x16, x17, x18, x19, x20, x21, x22, x23, x24)) f = f x1 x2 x3 x4 x5 x6 x7 x8 x9 x10 x11 x12 x13 x14 x15 x16 x17 x18 x19 x20 x21 x22 x23 x24 := (Eq.refl _).trans (Eq.refl _)
theorem ob25_s {α1 α2 α3 α4 α5 α6 α7 α8 α9 α10 α11 α12 α13 α14 α15 α16 α17 α18 α19 α20 α21 α22 α23 α24 α25 δ : Type} {x1 : α1} {x2 : α2} {x3 : α3} {x4 : α4} {x5 : α5} {x6 : α6} {x7 : α7} {x8 : α8} {x9 : α9} {x10 : α10} {x11 : α11} {x12 : α12} {x13 : α13} {x14 : α14} {x15 : α15} {x16 : α16} {x17 : α17} {x18 : α18} {x19 : α19} {x20 : α20} {x21 : α21} {x22 : α22} {x23 : α23} {x24 : α24} {x25 : α25} {f : α1 → α2 → α3 → α4 → α5 → α6 → α7 → α8 → α9 → α10 → α11 → α12 → α13 → α14 → α15 → α16 → α17 → α18 → α19 → α20 → α21 → α22 → α23 → α24 → α25 → Option δ} : ob25 (some (x1, x2, x3, x4, x5, x6, x7, x8, x9, x10, x11, x12, x13, x14, x15, x16, x17, x18, x19, x20, x21, x22, x23, x24, x25)) f = f x1 x2 x3 x4 x5 x6 x7 x8 x9 x10 x11 x12 x13 x14 x15 x16 x17 x18 x19 x20 x21 x22 x23 x24 x25 := (Eq.refl _).trans (Eq.refl _)
theorem ob26_s {α1 α2 α3 α4 α5 α6 α7 α8 α9 α10 α11 α12 α13 α14 α15 α16 α17 α18 α19 α20 α21 α22 α23 α24 α25 α26 δ : Type} {x1 : α1} {x2 : α2} {x3 : α3} {x4 : α4} {x5 : α5} {x6 : α6} {x7 : α7} {x8 : α8} {x9 : α9} {x10 : α10} {x11 : α11} {x12 : α12} {x13 : α13} {x14 : α14} {x15 : α15} {x16 : α16} {x17 : α17} {x18 : α18} {x19 : α19} {x20 : α20} {x21 : α21} {x22 : α22} {x23 : α23} {x24 : α24} {x25 : α25} {x26 : α26} {f : α1 → α2 → α3 → α4 → α5 → α6 → α7 → α8 → α9 → α10 → α11 → α12 → α13 → α14 → α15 → α16 → α17 → α18 → α19 → α20 → α21 → α22 → α23 → α24 → α25 → α26 → Option δ} : ob26 (some (x1, x2, x3, x4, x5, x6, x7, x8, x9, x10, x11, x12, x13, x14, x15, x16, x17, x18, x19, x20, x21, x22, x23, x24, x25, x26)) f = f x1 x2 x3 x4 x5 x6 x7 x8 x9 x10 x11 x12 x13 x14 x15 x16 x17 x18 x19 x20 x21 x22 x23 x24 x25 x26 := (Eq.refl _).trans (Eq.refl _)
theorem ob27_s {α1 α2 α3 α4 α5 α6 α7 α8 α9 α10 α11 α12 α13 α14 α15 α16 α17 α18 α19 α20 α21 α22 α23 α24 α25 α26 α27 δ : Type} {x1 : α1} {x2 : α2} {x3 : α3} {x4 : α4} {x5 : α5} {x6 : α6} {x7 : α7} {x8 : α8} {x9 : α9} {x10 : α10} {x11 : α11} {x12 : α12} {x13 : α13} {x14 : α14} {x15 : α15} {x16 : α16} {x17 : α17} {x18 : α18} {x19 : α19} {x20 : α20} {x21 : α21} {x22 : α22} {x23 : α23} {x24 : α24} {x25 : α25} {x26 : α26} {x27 : α27} {f : α1 → α2 → α3 → α4 → α5 → α6 → α7 → α8 → α9 → α10 → α11 → α12 → α13 → α14 → α15 → α16 → α17 → α18 → α19 → α20 → α21 → α22 → α23 → α24 → α25 → α26 → α27 → Option δ} : ob27 (some (x1, x2, x3, x4, x5, x6, x7, x8, x9, x10, x11, x12, x13, x14, x15, x16, x17, x18, x19, x20, x21, x22, x23, x24, x25, x26, x27)) f = f x1 x2 x3 x4 x5 x6 x7 x8 x9 x10 x11 x12 x13 x14 x15 x16 x17 x18 x19 x20 x21 x22 x23 x24 x25 x26 x27 := (Eq.refl _).trans (Eq.refl _)
theorem ox_for {σ ρ δ : Type} {step : σ → (σ → Option ρ) → Option ρ} {f : ρ → Option δ} {s : σ} {r : ρ} (S : Nat → σ) (n : Nat) (h0 : s = S 0) (hn : n < 1000) (hs : ∀ i, i < n → ∀ k, step (S i) k = k (S (i + 1))) (he : ∀ k, step (S n) k = some r) : obx (vm_it step FU s) f = f r := by
  rw [vm_for S n h0 hn hs he]
  rfl
def sumN (f : Nat → Int32) : Nat → Int32
  | 0 => 0
  | n + 1 => sumN f n + f n
def itN {σ : Type} (F : Nat → σ → σ) (s : σ) : Nat → σ
  | 0 => s
  | n + 1 => F n (itN F s n)
theorem sumN_congr {f g : Nat → Int32} : ∀ (n : Nat), (∀ k, k < n → f k = g k) → sumN f n = sumN g n
  | 0, _ => rfl
  | n + 1, h => by
    show sumN f n + f n = sumN g n + g n
    rw [sumN_congr n (fun k hk => h k (by omega)), h n (by omega)]
theorem itN_congr {σ : Type} {F G : Nat → σ → σ} {s : σ} : ∀ (n : Nat), (∀ k, k < n → ∀ t, F k t = G k t) → itN F s n = itN G s n
  | 0, _ => rfl
  | n + 1, h => by
    show F n (itN F s n) = G n (itN G s n)
    rw [itN_congr n (fun k hk => h k (by omega)), h n (by omega)]
theorem mul36 {w h : Nat} (hw : w ≤ 6) (hh : h ≤ 6) : w * h ≤ 36 := Nat.mul_le_mul hw hh
theorem cl_lt {w h x y : Nat} (hx : x < w) (hy : y < h) : w * y + x < w * h := by
  have h1 : w * (y + 1) ≤ w * h := Nat.mul_le_mul_left w hy
  rw [Nat.mul_add, Nat.mul_one] at h1
  omega
theorem cl_mod {w x y : Nat} (hx : x < w) : (w * y + x) % w = x := by rw [Nat.mul_add_mod, Nat.mod_eq_of_lt hx]
theorem cl_div {w x y : Nat} (hx : x < w) : (w * y + x) / w = y := by
  rw [Nat.mul_add_div (by omega), Nat.div_eq_of_lt hx, Nat.add_zero]
theorem nI_cell (w x y : Nat) : nI w * nI y + nI x = nI (w * y + x) := by rw [pk_mul, nI_add]
theorem upd_lt {f g : Nat → Int32} {k : Nat} {v : Int32} (hv : v = g k) : upd (fun c => if c < k then g c else f c) k v = fun c => if c < k + 1 then g c else f c := by
  funext c
  by_cases e : c = k
  · subst e
    rw [pk_us, if_pos (by omega), hv]
  · rw [pk_un e]
    by_cases h : c < k
    · rw [if_pos h, if_pos (by omega)]
    · rw [if_neg h, if_neg (by omega)]
theorem lt0 {f g : Nat → Int32} : f = fun c => if c < 0 then g c else f c := by
  funext c
  rw [if_neg (by omega)]
/-! Arrays.fill -/
theorem e_fill {n : Nat} (hn : n < 1000) (a : Nat → Int32) (v : Int32) : f_J7_fill_53178 n a v = some (fun c => if c < n then v else a c) := by
  unfold f_J7_fill_53178 f_J7_fill_53178_5
  refine (ox_for (r := fun c => if c < n then v else a c) (fun i => ((fun c => if c < i then v else a c), nI i)) n (by rw [← lt0]; rfl) hn ?_ ?_).trans ?_
  · intro i hi k
    show f_J7_fill_53178_5b n v (nI n) _ (nI i) k = _
    unfold f_J7_fill_53178_5b
    rw [if_neg (nI_ge hi (by omega)), if_pos (inb_nI hi (by omega)), nI_clamp (by omega), upd_lt rfl, nI_1]
  · intro k
    show f_J7_fill_53178_5b n v (nI n) _ (nI n) k = _
    unfold f_J7_fill_53178_5b
    rw [if_pos (nI_le (Nat.le_refl n) (by omega))]
  · rfl
/-! the plate's own questions -/
def stB_ (nu mo : Nat → Int32) (c : Nat) : Int32 := if nu 5 < mo c then 0 else 1
theorem stB_01 (nu mo : Nat → Int32) (c : Nat) : stB_ nu mo c = 0 ∨ stB_ nu mo c = 1 := by
  unfold stB_
  by_cases h : nu 5 < mo c
  · rw [if_pos h]; exact Or.inl rfl
  · rw [if_neg h]; exact Or.inr rfl
theorem e_cells (w h : Nat) : f_X2_cells (nI w) (nI h) = some (nI (w * h)) := by unfold f_X2_cells; rw [pk_mul]
theorem e_isStill (nu mo : Nat → Int32) {c : Nat} (hc : c < 36) : f_X2_isStill nu mo (nI c) = some (stB_ nu mo c) := by
  unfold f_X2_isStill f_X2_isStill_17 stB_
  rw [if_pos (inb_nI hc (by decide)), nI_clamp (by omega)]
  by_cases h : nu 5 < mo c
  · rw [if_pos h, if_pos h]; rfl
  · rw [if_neg h, if_neg h]; rfl
theorem e_cellsOfFigure {w h : Nat} (hc : w * h ≤ 36) (fi : Nat → Int32) : f_X2_cellsOfFigure (nI w) (nI h) fi = some (sumN fi (w * h)) := by
  unfold f_X2_cellsOfFigure f_X2_cellsOfFigure_4
  refine (ox_for (r := sumN fi (w * h)) (fun i => (sumN fi i, nI i)) (w * h) rfl (by omega) ?_ ?_).trans ?_
  · intro i hi k
    show f_X2_cellsOfFigure_4b (nI w) (nI h) fi _ (nI i) k = _
    unfold f_X2_cellsOfFigure_4b
    simp only [e_cells, ob1_s]
    rw [if_neg (nI_ge hi (by omega)), if_pos (inb_nI (by omega) (by decide)), nI_clamp (by omega), nI_1]
    rfl
  · intro k
    show f_X2_cellsOfFigure_4b (nI w) (nI h) fi _ (nI (w * h)) k = _
    unfold f_X2_cellsOfFigure_4b
    simp only [e_cells, ob1_s]
    rw [if_pos (nI_le (Nat.le_refl _) (by omega))]
  · rfl
theorem e_cellsWithGrains {w h : Nat} (hc : w * h ≤ 36) (gr : Nat → Int32) (v : Int32) : f_X2_cellsWithGrains (nI w) (nI h) gr v = some (sumN (fun c => if gr c = v then 1 else 0) (w * h)) := by
  unfold f_X2_cellsWithGrains f_X2_cellsWithGrains_4
  refine (ox_for (r := sumN (fun c => if gr c = v then 1 else 0) (w * h)) (fun i => (sumN (fun c => if gr c = v then 1 else 0) i, nI i)) (w * h) rfl (by omega) ?_ ?_).trans ?_
  · intro i hi k
    show f_X2_cellsWithGrains_4b (nI w) (nI h) gr v _ (nI i) k = _
    unfold f_X2_cellsWithGrains_4b f_X2_cellsWithGrains_28
    simp only [e_cells, ob1_s]
    rw [if_neg (nI_ge hi (by omega)), if_pos (inb_nI (by omega) (by decide)), nI_clamp (by omega), nI_1]
    show _ = k (sumN _ i + (if gr i = v then 1 else 0), _)
    by_cases e : gr i = v
    · rw [if_pos e, if_pos e]
    · rw [if_neg e, if_neg e]
  · intro k
    show f_X2_cellsWithGrains_4b (nI w) (nI h) gr v _ (nI (w * h)) k = _
    unfold f_X2_cellsWithGrains_4b
    simp only [e_cells, ob1_s]
    rw [if_pos (nI_le (Nat.le_refl _) (by omega))]
  · rfl
def mostS (gr : Nat → Int32) (n : Nat) : Int32 := itN (fun c t => if t < gr c then gr c else t) 0 n
theorem e_mostGrains {w h : Nat} (hc : w * h ≤ 36) (gr : Nat → Int32) : f_X2_mostGrains (nI w) (nI h) gr = some (mostS gr (w * h)) := by
  unfold f_X2_mostGrains f_X2_mostGrains_4
  refine (ox_for (r := mostS gr (w * h)) (fun i => (mostS gr i, nI i)) (w * h) rfl (by omega) ?_ ?_).trans ?_
  · intro i hi k
    show f_X2_mostGrains_4b (nI w) (nI h) gr _ (nI i) k = _
    unfold f_X2_mostGrains_4b
    simp only [e_cells, ob1_s]
    rw [if_neg (nI_ge hi (by omega)), if_pos (inb_nI (by omega) (by decide)), nI_clamp (by omega), nI_1]
    rfl
  · intro k
    show f_X2_mostGrains_4b (nI w) (nI h) gr _ (nI (w * h)) k = _
    unfold f_X2_mostGrains_4b
    simp only [e_cells, ob1_s]
    rw [if_pos (nI_le (Nat.le_refl _) (by omega))]
  · rfl
theorem e_stillCells {w h : Nat} (hc : w * h ≤ 36) (nu mo : Nat → Int32) : f_X2_stillCells (nI w) (nI h) nu mo = some (sumN (stB_ nu mo) (w * h)) := by
  unfold f_X2_stillCells f_X2_stillCells_4
  refine (ox_for (r := sumN (stB_ nu mo) (w * h)) (fun i => (sumN (stB_ nu mo) i, nI i)) (w * h) rfl (by omega) ?_ ?_).trans ?_
  · intro i hi k
    show f_X2_stillCells_4b (nI w) (nI h) nu mo _ (nI i) k = _
    unfold f_X2_stillCells_4b f_X2_stillCells_27
    simp only [e_cells, ob1_s]
    rw [if_neg (nI_ge hi (by omega)), e_isStill nu mo (by omega), nI_1]
    simp only [ob1_s]
    show _ = k (sumN _ i + _, _)
    rcases stB_01 nu mo i with e | e
    · rw [e, if_pos rfl]
    · rw [e, if_neg (by decide)]
  · intro k
    show f_X2_stillCells_4b (nI w) (nI h) nu mo _ (nI (w * h)) k = _
    unfold f_X2_stillCells_4b
    simp only [e_cells, ob1_s]
    rw [if_pos (nI_le (Nat.le_refl _) (by omega))]
  · rfl
def lkS (nu fi mo : Nat → Int32) (c : Nat) : Int32 := if stB_ nu mo c = (if fi c = 1 then 1 else 0) then 1 else 0
theorem e_likeness {w h : Nat} (hc : w * h ≤ 36) (nu fi mo : Nat → Int32) : f_X2_likeness (nI w) (nI h) nu fi mo = some (sumN (lkS nu fi mo) (w * h)) := by
  unfold f_X2_likeness f_X2_likeness_4
  refine (ox_for (r := sumN (lkS nu fi mo) (w * h)) (fun i => (sumN (lkS nu fi mo) i, nI i)) (w * h) rfl (by omega) ?_ ?_).trans ?_
  · intro i hi k
    show f_X2_likeness_4b (nI w) (nI h) nu fi mo _ (nI i) k = _
    unfold f_X2_likeness_4b f_X2_likeness_34 f_X2_likeness_42
    simp only [e_cells, ob1_s]
    rw [if_neg (nI_ge hi (by omega)), e_isStill nu mo (by omega), nI_1]
    simp only [ob1_s]
    rw [if_pos (inb_nI (by omega) (by decide)), nI_clamp (by omega)]
    show _ = k (sumN _ i + lkS nu fi mo i, _)
    unfold lkS
    by_cases e : fi i = 1
    · rw [if_pos e, if_pos e]
      by_cases e2 : stB_ nu mo i = 1
      · rw [if_pos e2, if_pos e2]
      · rw [if_neg e2, if_neg e2]
    · rw [if_neg e, if_neg e]
      by_cases e2 : stB_ nu mo i = 0
      · rw [if_pos e2, if_pos e2]
      · rw [if_neg e2, if_neg e2]
  · intro k
    show f_X2_likeness_4b (nI w) (nI h) nu fi mo _ (nI (w * h)) k = _
    unfold f_X2_likeness_4b
    simp only [e_cells, ob1_s]
    rw [if_pos (nI_le (Nat.le_refl _) (by omega))]
  · rfl
