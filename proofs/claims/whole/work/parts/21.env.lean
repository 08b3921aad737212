/-! what every method takes as given: classes, array classes, links among nest mates, the static tables, the texts -/
def nwl : List Cond := [.fieldLinkNest RX2 31 RX7 "AT_FIRST" "[I" RX7, .fieldLinkNest RX1 59 RX2 "columns" "I" RX7, .fieldLinkNest RX3 37 RX2 "columns" "I" RX7, .fieldLinkNest RX5 104 RX2 "columns" "I" RX7, .fieldLinkNest RX7 184 RX2 "columns" "I" RX7, .fieldLinkNest RX1 63 RX2 "rows" "I" RX7, .fieldLinkNest RX3 33 RX2 "rows" "I" RX7, .fieldLinkNest RX5 107 RX2 "rows" "I" RX7, .fieldLinkNest RX7 187 RX2 "rows" "I" RX7, .fieldLinkNest RX1 48 RX2 "numbers" "[I" RX7, .fieldLinkNest RX5 117 RX2 "numbers" "[I" RX7, .fieldLinkNest RX7 144 RX2 "numbers" "[I" RX7, .fieldLinkNest RX7 114 RX2 "figure" "[I" RX7, .fieldLinkNest RX5 126 RX2 "figure" "[I" RX7, .fieldLinkNest RX3 18 RX2 "grains" "[I" RX7, .fieldLinkNest RX7 141 RX2 "grains" "[I" RX7, .fieldLinkNest RX7 134 RX0 "known" "I" RX7, .fieldLinkNest RX5 123 RX6 "letters" "[I" RX7, .fieldLinkNest RX7 73 RX6 "length" "I" RX7, .fieldLinkNest RX5 31 RX6 "kind" "I" RX7, .fieldLinkNest RX5 47 RX6 "first" "I" RX7, .fieldLinkNest RX5 120 RX6 "end" "I" RX7, .fieldLinkNest RX7 63 RX5 "text" "LSandPlates$Text;" RX7, .fieldLinkNest RX7 85 RX5 "plate" "LSandPlates$Plate;" RX7, .fieldLinkNest RX7 169 RX4 "many" "I" RX7, .fieldLinkNest RX5 110 RX7 "LEAST" "[I" RX7, .fieldLinkNest RX5 114 RX7 "MOST" "[I" RX7, .fieldLinkNest RX3 48 RX7 "STEP_X" "[I" RX7, .fieldLinkNest RX3 51 RX7 "STEP_Y" "[I" RX7, .methodLinkNest RX7 9 yX2_init RX7, .methodLinkNest RX7 18 yX0_init RX7, .methodLinkNest RX0 17 yX2_init RX7, .methodLinkNest RX7 33 yX5_init RX7, .methodLinkNest RX5 11 yX6_init RX7, .methodLinkNest RX5 20 yX2_init RX7, .methodLinkNest RX7 40 yX1_init RX7, .methodLinkNest RX7 47 yX3_init RX7, .methodLinkNest RX7 54 yX4_init RX7, .methodLinkNest RX7 67 yX6_add RX7, .methodLinkNest RX7 77 yX5_readAll RX7, .methodLinkNest RX5 50 yX6_rewind RX7, .methodLinkNest RX5 53 yX2_beAsAtFirst RX7, .methodLinkNest RX5 28 yX6_advance RX7, .methodLinkNest RX5 79 yX6_isSpelled RX7, .methodLinkNest RX5 129 yX6_number RX7, .methodLinkNest RX7 81 yX0_record RX7, .methodLinkNest RX0 25 yX2_takeFrom RX7, .methodLinkNest RX7 86 yX2_takeFrom RX7, .methodLinkNest RX7 89 yX3_takeFrom RX7, .methodLinkNest RX7 162 yX1_by RX7, .methodLinkNest RX1 76 yX2_cells RX7, .methodLinkNest RX7 94 yX3_shakeOnce RX7, .methodLinkNest RX3 44 yX2_isStill RX7, .methodLinkNest RX3 54 yX2_cellAt RX7, .methodLinkNest RX7 98 yX3_layOn RX7, .methodLinkNest RX7 111 yX2_cellAt RX7, .methodLinkNest RX7 117 yX2_cellsOfFigure RX7, .methodLinkNest RX7 120 yX2_cells RX7, .methodLinkNest RX7 123 yX2_cellsWithGrains RX7, .methodLinkNest RX7 127 yX2_layGrains RX7, .methodLinkNest RX7 130 yX0_takeBack RX7, .methodLinkNest RX7 137 yX2_isStill RX7, .methodLinkNest RX7 148 yX1_heightBehind RX7, .methodLinkNest RX7 152 yX2_stillCells RX7, .methodLinkNest RX7 156 yX2_likeness RX7, .methodLinkNest RX7 159 yX2_apart RX7, .methodLinkNest RX7 166 yX4_add RX7, .methodLinkNest RX7 172 yX4_fits RX7, .methodLinkNest RX4 22 yX2_cells RX7, .methodLinkNest RX4 27 yX2_isStill RX7, .methodLinkNest RX7 190 yX2_mostGrains RX7]
def isNest (w : Cond) : Bool := match w with
  | .fieldLinkNest _ _ _ _ _ _ => true
  | .methodLinkNest _ _ _ _ => true
  | _ => false
def NW (U : State) : Prop := ∀ w ∈ nwl, va_Nw w U
theorem nwl_nest : ∀ w ∈ nwl, isNest w = true := by decide +kernel
theorem NW.warm {s U : State} (hW : s.WarmedH U.vm) (h : NW s) : NW U := by
  intro w hw
  have h1 := h w hw
  have h2 := nwl_nest w hw
  cases w <;> first | exact va_Nw.warmF hW h1 | exact va_Nw.warmM hW h1 | cases h2
theorem NW.same {s U : State} (hv : s.vm = U.vm) (h : NW s) : NW U := by
  intro w hw
  have h1 := h w hw
  have h2 := nwl_nest w hw
  cases w <;> first | exact va_Nw.same rfl hv h1 | cases h2
theorem nfX2_31 {U : State} (h : NW U) : va_Nw (.fieldLinkNest RX2 31 RX7 "AT_FIRST" "[I" RX7) U := h _ (List.mem_of_getElem? (i := 0) rfl)
theorem nfX1_59 {U : State} (h : NW U) : va_Nw (.fieldLinkNest RX1 59 RX2 "columns" "I" RX7) U := h _ (List.mem_of_getElem? (i := 1) rfl)
theorem nfX3_37 {U : State} (h : NW U) : va_Nw (.fieldLinkNest RX3 37 RX2 "columns" "I" RX7) U := h _ (List.mem_of_getElem? (i := 2) rfl)
theorem nfX5_104 {U : State} (h : NW U) : va_Nw (.fieldLinkNest RX5 104 RX2 "columns" "I" RX7) U := h _ (List.mem_of_getElem? (i := 3) rfl)
theorem nfX7_184 {U : State} (h : NW U) : va_Nw (.fieldLinkNest RX7 184 RX2 "columns" "I" RX7) U := h _ (List.mem_of_getElem? (i := 4) rfl)
theorem nfX1_63 {U : State} (h : NW U) : va_Nw (.fieldLinkNest RX1 63 RX2 "rows" "I" RX7) U := h _ (List.mem_of_getElem? (i := 5) rfl)
theorem nfX3_33 {U : State} (h : NW U) : va_Nw (.fieldLinkNest RX3 33 RX2 "rows" "I" RX7) U := h _ (List.mem_of_getElem? (i := 6) rfl)
theorem nfX5_107 {U : State} (h : NW U) : va_Nw (.fieldLinkNest RX5 107 RX2 "rows" "I" RX7) U := h _ (List.mem_of_getElem? (i := 7) rfl)
theorem nfX7_187 {U : State} (h : NW U) : va_Nw (.fieldLinkNest RX7 187 RX2 "rows" "I" RX7) U := h _ (List.mem_of_getElem? (i := 8) rfl)
theorem nfX1_48 {U : State} (h : NW U) : va_Nw (.fieldLinkNest RX1 48 RX2 "numbers" "[I" RX7) U := h _ (List.mem_of_getElem? (i := 9) rfl)
theorem nfX5_117 {U : State} (h : NW U) : va_Nw (.fieldLinkNest RX5 117 RX2 "numbers" "[I" RX7) U := h _ (List.mem_of_getElem? (i := 10) rfl)
theorem nfX7_144 {U : State} (h : NW U) : va_Nw (.fieldLinkNest RX7 144 RX2 "numbers" "[I" RX7) U := h _ (List.mem_of_getElem? (i := 11) rfl)
theorem nfX7_114 {U : State} (h : NW U) : va_Nw (.fieldLinkNest RX7 114 RX2 "figure" "[I" RX7) U := h _ (List.mem_of_getElem? (i := 12) rfl)
theorem nfX5_126 {U : State} (h : NW U) : va_Nw (.fieldLinkNest RX5 126 RX2 "figure" "[I" RX7) U := h _ (List.mem_of_getElem? (i := 13) rfl)
theorem nfX3_18 {U : State} (h : NW U) : va_Nw (.fieldLinkNest RX3 18 RX2 "grains" "[I" RX7) U := h _ (List.mem_of_getElem? (i := 14) rfl)
theorem nfX7_141 {U : State} (h : NW U) : va_Nw (.fieldLinkNest RX7 141 RX2 "grains" "[I" RX7) U := h _ (List.mem_of_getElem? (i := 15) rfl)
theorem nfX7_134 {U : State} (h : NW U) : va_Nw (.fieldLinkNest RX7 134 RX0 "known" "I" RX7) U := h _ (List.mem_of_getElem? (i := 16) rfl)
theorem nfX5_123 {U : State} (h : NW U) : va_Nw (.fieldLinkNest RX5 123 RX6 "letters" "[I" RX7) U := h _ (List.mem_of_getElem? (i := 17) rfl)
theorem nfX7_73 {U : State} (h : NW U) : va_Nw (.fieldLinkNest RX7 73 RX6 "length" "I" RX7) U := h _ (List.mem_of_getElem? (i := 18) rfl)
theorem nfX5_31 {U : State} (h : NW U) : va_Nw (.fieldLinkNest RX5 31 RX6 "kind" "I" RX7) U := h _ (List.mem_of_getElem? (i := 19) rfl)
theorem nfX5_47 {U : State} (h : NW U) : va_Nw (.fieldLinkNest RX5 47 RX6 "first" "I" RX7) U := h _ (List.mem_of_getElem? (i := 20) rfl)
theorem nfX5_120 {U : State} (h : NW U) : va_Nw (.fieldLinkNest RX5 120 RX6 "end" "I" RX7) U := h _ (List.mem_of_getElem? (i := 21) rfl)
theorem nfX7_63 {U : State} (h : NW U) : va_Nw (.fieldLinkNest RX7 63 RX5 "text" "LSandPlates$Text;" RX7) U := h _ (List.mem_of_getElem? (i := 22) rfl)
theorem nfX7_85 {U : State} (h : NW U) : va_Nw (.fieldLinkNest RX7 85 RX5 "plate" "LSandPlates$Plate;" RX7) U := h _ (List.mem_of_getElem? (i := 23) rfl)
theorem nfX7_169 {U : State} (h : NW U) : va_Nw (.fieldLinkNest RX7 169 RX4 "many" "I" RX7) U := h _ (List.mem_of_getElem? (i := 24) rfl)
theorem nfX5_110 {U : State} (h : NW U) : va_Nw (.fieldLinkNest RX5 110 RX7 "LEAST" "[I" RX7) U := h _ (List.mem_of_getElem? (i := 25) rfl)
theorem nfX5_114 {U : State} (h : NW U) : va_Nw (.fieldLinkNest RX5 114 RX7 "MOST" "[I" RX7) U := h _ (List.mem_of_getElem? (i := 26) rfl)
theorem nfX3_48 {U : State} (h : NW U) : va_Nw (.fieldLinkNest RX3 48 RX7 "STEP_X" "[I" RX7) U := h _ (List.mem_of_getElem? (i := 27) rfl)
theorem nfX3_51 {U : State} (h : NW U) : va_Nw (.fieldLinkNest RX3 51 RX7 "STEP_Y" "[I" RX7) U := h _ (List.mem_of_getElem? (i := 28) rfl)
theorem nmX7_9 {U : State} (h : NW U) : va_Nw (.methodLinkNest RX7 9 yX2_init RX7) U := h _ (List.mem_of_getElem? (i := 29) rfl)
theorem nmX7_18 {U : State} (h : NW U) : va_Nw (.methodLinkNest RX7 18 yX0_init RX7) U := h _ (List.mem_of_getElem? (i := 30) rfl)
theorem nmX0_17 {U : State} (h : NW U) : va_Nw (.methodLinkNest RX0 17 yX2_init RX7) U := h _ (List.mem_of_getElem? (i := 31) rfl)
theorem nmX7_33 {U : State} (h : NW U) : va_Nw (.methodLinkNest RX7 33 yX5_init RX7) U := h _ (List.mem_of_getElem? (i := 32) rfl)
theorem nmX5_11 {U : State} (h : NW U) : va_Nw (.methodLinkNest RX5 11 yX6_init RX7) U := h _ (List.mem_of_getElem? (i := 33) rfl)
theorem nmX5_20 {U : State} (h : NW U) : va_Nw (.methodLinkNest RX5 20 yX2_init RX7) U := h _ (List.mem_of_getElem? (i := 34) rfl)
theorem nmX7_40 {U : State} (h : NW U) : va_Nw (.methodLinkNest RX7 40 yX1_init RX7) U := h _ (List.mem_of_getElem? (i := 35) rfl)
theorem nmX7_47 {U : State} (h : NW U) : va_Nw (.methodLinkNest RX7 47 yX3_init RX7) U := h _ (List.mem_of_getElem? (i := 36) rfl)
theorem nmX7_54 {U : State} (h : NW U) : va_Nw (.methodLinkNest RX7 54 yX4_init RX7) U := h _ (List.mem_of_getElem? (i := 37) rfl)
theorem nmX7_67 {U : State} (h : NW U) : va_Nw (.methodLinkNest RX7 67 yX6_add RX7) U := h _ (List.mem_of_getElem? (i := 38) rfl)
theorem nmX7_77 {U : State} (h : NW U) : va_Nw (.methodLinkNest RX7 77 yX5_readAll RX7) U := h _ (List.mem_of_getElem? (i := 39) rfl)
theorem nmX5_50 {U : State} (h : NW U) : va_Nw (.methodLinkNest RX5 50 yX6_rewind RX7) U := h _ (List.mem_of_getElem? (i := 40) rfl)
theorem nmX5_53 {U : State} (h : NW U) : va_Nw (.methodLinkNest RX5 53 yX2_beAsAtFirst RX7) U := h _ (List.mem_of_getElem? (i := 41) rfl)
theorem nmX5_28 {U : State} (h : NW U) : va_Nw (.methodLinkNest RX5 28 yX6_advance RX7) U := h _ (List.mem_of_getElem? (i := 42) rfl)
theorem nmX5_79 {U : State} (h : NW U) : va_Nw (.methodLinkNest RX5 79 yX6_isSpelled RX7) U := h _ (List.mem_of_getElem? (i := 43) rfl)
theorem nmX5_129 {U : State} (h : NW U) : va_Nw (.methodLinkNest RX5 129 yX6_number RX7) U := h _ (List.mem_of_getElem? (i := 44) rfl)
theorem nmX7_81 {U : State} (h : NW U) : va_Nw (.methodLinkNest RX7 81 yX0_record RX7) U := h _ (List.mem_of_getElem? (i := 45) rfl)
theorem nmX0_25 {U : State} (h : NW U) : va_Nw (.methodLinkNest RX0 25 yX2_takeFrom RX7) U := h _ (List.mem_of_getElem? (i := 46) rfl)
theorem nmX7_86 {U : State} (h : NW U) : va_Nw (.methodLinkNest RX7 86 yX2_takeFrom RX7) U := h _ (List.mem_of_getElem? (i := 47) rfl)
theorem nmX7_89 {U : State} (h : NW U) : va_Nw (.methodLinkNest RX7 89 yX3_takeFrom RX7) U := h _ (List.mem_of_getElem? (i := 48) rfl)
theorem nmX7_162 {U : State} (h : NW U) : va_Nw (.methodLinkNest RX7 162 yX1_by RX7) U := h _ (List.mem_of_getElem? (i := 49) rfl)
theorem nmX1_76 {U : State} (h : NW U) : va_Nw (.methodLinkNest RX1 76 yX2_cells RX7) U := h _ (List.mem_of_getElem? (i := 50) rfl)
theorem nmX7_94 {U : State} (h : NW U) : va_Nw (.methodLinkNest RX7 94 yX3_shakeOnce RX7) U := h _ (List.mem_of_getElem? (i := 51) rfl)
theorem nmX3_44 {U : State} (h : NW U) : va_Nw (.methodLinkNest RX3 44 yX2_isStill RX7) U := h _ (List.mem_of_getElem? (i := 52) rfl)
theorem nmX3_54 {U : State} (h : NW U) : va_Nw (.methodLinkNest RX3 54 yX2_cellAt RX7) U := h _ (List.mem_of_getElem? (i := 53) rfl)
theorem nmX7_98 {U : State} (h : NW U) : va_Nw (.methodLinkNest RX7 98 yX3_layOn RX7) U := h _ (List.mem_of_getElem? (i := 54) rfl)
theorem nmX7_111 {U : State} (h : NW U) : va_Nw (.methodLinkNest RX7 111 yX2_cellAt RX7) U := h _ (List.mem_of_getElem? (i := 55) rfl)
theorem nmX7_117 {U : State} (h : NW U) : va_Nw (.methodLinkNest RX7 117 yX2_cellsOfFigure RX7) U := h _ (List.mem_of_getElem? (i := 56) rfl)
theorem nmX7_120 {U : State} (h : NW U) : va_Nw (.methodLinkNest RX7 120 yX2_cells RX7) U := h _ (List.mem_of_getElem? (i := 57) rfl)
theorem nmX7_123 {U : State} (h : NW U) : va_Nw (.methodLinkNest RX7 123 yX2_cellsWithGrains RX7) U := h _ (List.mem_of_getElem? (i := 58) rfl)
theorem nmX7_127 {U : State} (h : NW U) : va_Nw (.methodLinkNest RX7 127 yX2_layGrains RX7) U := h _ (List.mem_of_getElem? (i := 59) rfl)
theorem nmX7_130 {U : State} (h : NW U) : va_Nw (.methodLinkNest RX7 130 yX0_takeBack RX7) U := h _ (List.mem_of_getElem? (i := 60) rfl)
theorem nmX7_137 {U : State} (h : NW U) : va_Nw (.methodLinkNest RX7 137 yX2_isStill RX7) U := h _ (List.mem_of_getElem? (i := 61) rfl)
theorem nmX7_148 {U : State} (h : NW U) : va_Nw (.methodLinkNest RX7 148 yX1_heightBehind RX7) U := h _ (List.mem_of_getElem? (i := 62) rfl)
theorem nmX7_152 {U : State} (h : NW U) : va_Nw (.methodLinkNest RX7 152 yX2_stillCells RX7) U := h _ (List.mem_of_getElem? (i := 63) rfl)
theorem nmX7_156 {U : State} (h : NW U) : va_Nw (.methodLinkNest RX7 156 yX2_likeness RX7) U := h _ (List.mem_of_getElem? (i := 64) rfl)
theorem nmX7_159 {U : State} (h : NW U) : va_Nw (.methodLinkNest RX7 159 yX2_apart RX7) U := h _ (List.mem_of_getElem? (i := 65) rfl)
theorem nmX7_166 {U : State} (h : NW U) : va_Nw (.methodLinkNest RX7 166 yX4_add RX7) U := h _ (List.mem_of_getElem? (i := 66) rfl)
theorem nmX7_172 {U : State} (h : NW U) : va_Nw (.methodLinkNest RX7 172 yX4_fits RX7) U := h _ (List.mem_of_getElem? (i := 67) rfl)
theorem nmX4_22 {U : State} (h : NW U) : va_Nw (.methodLinkNest RX4 22 yX2_cells RX7) U := h _ (List.mem_of_getElem? (i := 68) rfl)
theorem nmX4_27 {U : State} (h : NW U) : va_Nw (.methodLinkNest RX4 27 yX2_isStill RX7) U := h _ (List.mem_of_getElem? (i := 69) rfl)
theorem nmX7_190 {U : State} (h : NW U) : va_Nw (.methodLinkNest RX7 190 yX2_mostGrains RX7) U := h _ (List.mem_of_getElem? (i := 70) rfl)
abbrev GE : Type := va_G × (Nat → ClassId) × (Nat → Nat) × (Nat → Nat) × (Nat → Nat)
abbrev TY (Γ : GE) : List (ClassId × FieldType) := [(Γ.2.1 0, .int), (Γ.2.1 1, .boolean), (Γ.2.1 2, .object "SandPlates$Plate"), (Γ.2.1 3, .array .int)]
def tbl0 (j : Nat) : Int32 := match j with | 0 => 1 | 1 => 4 | 2 => 8 | 3 => 40 | 4 => 8 | 5 => 10 | _ => 0
def tbl1 (j : Nat) : Int32 := match j with | 0 => 0 | 1 => 1 | 2 => 2 | 3 => 1 | 4 => 2 | _ => 0
def tbl2 (j : Nat) : Int32 := match j with | 0 => 1 | 1 => 7 | 2 => 20 | 3 => 99 | 4 => 20 | _ => 99
def tbl3 (j : Nat) : Int32 := match j with | 0 => 0 | 1 => 1 | 2 => 0 | _ => -1
def tbl4 (j : Nat) : Int32 := match j with | 0 => -1 | 1 => 0 | 2 => 1 | _ => 0
def TB1 (nm : String) (t N : Nat) (f : Nat → Int32) (A : Nat → Prop) (U : State) (H : Heap) : Prop := va_Z RX7 nm "[I" (.ref t) A U H ∧ va_T .int t N (fun j => .int (f j)) A U H
def TB (ad : Nat → Nat) (A : Nat → Prop) (U : State) (H : Heap) : Prop := TB1 "AT_FIRST" (ad 0) 7 tbl0 A U H ∧ TB1 "LEAST" (ad 1) 6 tbl1 A U H ∧ TB1 "MOST" (ad 2) 6 tbl2 A U H ∧ TB1 "STEP_X" (ad 3) 4 tbl3 A U H ∧ TB1 "STEP_Y" (ad 4) 4 tbl4 A U H
def stL : List Nat := [4, 5, 4, 5, 6, 5, 5, 5, 3]
def stB : List (List Int32) := [[101, 100, 103, 101], [115, 116, 105, 102, 102], [108, 111, 115, 115], [102, 111, 114, 99, 101], [112, 101, 114, 105, 111, 100], [108, 105, 109, 105, 116], [112, 108, 97, 116, 101], [100, 114, 105, 118, 101], [114, 111, 119]]
def stX : List (Nat × String) := [(83, "edge"), (85, "stiff"), (87, "loss"), (89, "force"), (91, "period"), (93, "limit"), (95, "plate"), (96, "drive"), (98, "row")]
def SR (adK : Nat → Nat) (U : State) : Prop := ∀ i : Nat, i < 9 → vk_R RX5 (stX.getD i (0, "")).1 (stX.getD i (0, "")).2 (adK i) U
def ST (adK adV : Nat → Nat) (A : Nat → Prop) (U : State) (H : Heap) : Prop := vk_S 9 stL stB adK adV A U H ∧ va_Z RJ0 "COMPACT_STRINGS" "Z" (.int 1) A U H ∧ va_Zq RJ3 "SIOOBE_FORMATTER" "Ljava/util/function/BiFunction;" A U H
def EV (Γ : GE) (A : Nat → Prop) (U : State) : Prop := va_K Γ.1 vwCl (TY Γ) U ∧ NW U ∧ TB Γ.2.2.1 A U U.heap ∧ SR Γ.2.2.2.1 U ∧ ST Γ.2.2.2.1 Γ.2.2.2.2 A U U.heap
theorem TB1.moved {nm : String} {t N : Nat} {f : Nat → Int32} {A : Nat → Prop} {u U : State} {H : Heap} (hvm : u.vm.Alike U.vm) (h : TB1 nm t N f A u H) : TB1 nm t N f A U H := ⟨h.1.moved hvm, h.2.moved hvm⟩
theorem TB1.kept {nm : String} {t N : Nat} {f : Nat → Int32} {A : Nat → Prop} {U : State} {H H1 : Heap} (h : TB1 nm t N f A U H) (hq : ∀ a : Nat, a < H.size → ¬ A a → H1[a]? = H[a]?) : TB1 nm t N f A U H1 := ⟨h.1.kept hq, h.2.kept hq⟩
theorem TB1.narrow {nm : String} {t N : Nat} {f : Nat → Int32} {A B : Nat → Prop} {U : State} {H : Heap} (h : TB1 nm t N f A U H) (hAB : ∀ q, B q → A q) : TB1 nm t N f B U H := ⟨h.1.narrow hAB, h.2.narrow hAB⟩
theorem TB.go {ad : Nat → Nat} {A B : Nat → Prop} {u U : State} {H H1 : Heap} (hvm : u.vm.Alike U.vm) (hq : ∀ a : Nat, a < H.size → ¬ A a → H1[a]? = H[a]?) (hAB : ∀ q, B q → A q) (h : TB ad A u H) : TB ad B U H1 := ⟨((h.1.moved hvm).kept hq).narrow hAB, ((h.2.1.moved hvm).kept hq).narrow hAB, ((h.2.2.1.moved hvm).kept hq).narrow hAB, ((h.2.2.2.1.moved hvm).kept hq).narrow hAB, ((h.2.2.2.2.moved hvm).kept hq).narrow hAB⟩
theorem ST.go {adK adV : Nat → Nat} {A B : Nat → Prop} {u U : State} {H H1 : Heap} (hvm : u.vm.Alike U.vm) (hq : ∀ a : Nat, a < H.size → ¬ A a → H1[a]? = H[a]?) (hAB : ∀ q, B q → A q) (h : ST adK adV A u H) : ST adK adV B U H1 := ⟨((h.1.moved hvm).kept hq).narrow hAB, ((h.2.1.moved hvm).kept hq).narrow hAB, ((h.2.2.moved hvm).kept hq).narrow hAB⟩
/-- the same given things, in a state that a call comes to -/
theorem EV.call {Γ : GE} {A B : Nat → Prop} {s U : State} {H : Heap} {locs : List Loc} (h : EV Γ A s) (hS : va_S A s.heap H locs) (hU : U.heap = H) (hW : s.WarmedH U.vm) (hAB : ∀ q, B q → A q) : EV Γ B U := by
  refine ⟨h.1.moved hW.alike, h.2.1.warm hW, ?_, fun i hi => (h.2.2.2.1 i hi).warm hW, ?_⟩
  · rw [hU]; exact TB.go hW.alike hS.2.1 hAB h.2.2.1
  · rw [hU]; exact ST.go hW.alike hS.2.1 hAB h.2.2.2.2
theorem EV.blind {Γ : GE} {A : Nat → Prop} {U : State} {g : JFrame} {mk : MethodId} {a : Array Value} (h : EV Γ A U) : EV Γ A (U.calling g mk a) :=
  ⟨va_K.moved (u := U) (U := U.calling g mk a) (Vm.Alike.refl U.vm) h.1, NW.same (s := U) (U := U.calling g mk a) rfl h.2.1, TB.go (u := U) (U := U.calling g mk a) (Vm.Alike.refl U.vm) (fun _ _ _ => rfl) (fun _ q => q) h.2.2.1, fun i hi => vk_R.same (u := U) (U := U.calling g mk a) rfl (h.2.2.2.1 i hi), ST.go (u := U) (U := U.calling g mk a) (Vm.Alike.refl U.vm) (fun _ _ _ => rfl) (fun _ q => q) h.2.2.2.2⟩
def CP (Γ : GE) (ws : va_W) (sz : Nat) (U : State) : Prop := U.heap.size = sz ∧ EV Γ (va_A ws sz) U ∧ va_P Γ.1 vwCl ws U.heap ∧ va_D (va_A ws sz) ws
def CQ (Γ : GE) (ws' : va_W) (A : Nat → Prop) (_ : Unit) (t : State) : Prop := va_P Γ.1 vwCl ws' t.heap ∧ va_D A ws'
abbrev MetI (l : Launch) (y : MethodName) (wc : List Cond) (rm : Room) (Γ : GE) (av : List Value) (ws ws' : va_W) (sz : Nat) (r : Int32) : Prop := Met l y wc rm (va_Pc av (CP Γ ws sz)) (va_Qi (fun (r' : Int32) (_ : Unit) => r' = r) (CQ Γ ws' (va_A ws sz)) (va_A ws sz)) 0 0 (va_A ws sz)
abbrev MetL (l : Launch) (y : MethodName) (wc : List Cond) (rm : Room) (Γ : GE) (av : List Value) (ws ws' : va_W) (sz : Nat) (r : Int64) : Prop := Met l y wc rm (va_Pc av (CP Γ ws sz)) (va_Ql (fun (r' : Int64) (_ : Unit) => r' = r) (CQ Γ ws' (va_A ws sz)) (va_A ws sz)) 0 0 (va_A ws sz)
abbrev MetV (l : Launch) (y : MethodName) (wc : List Cond) (rm : Room) (Γ : GE) (av : List Value) (ws ws' : va_W) (sz : Nat) : Prop := Met l y wc rm (va_Pc av (CP Γ ws sz)) (va_Qv (fun _ : Unit => True) (CQ Γ ws' (va_A ws sz)) (va_A ws sz)) 0 0 (va_A ws sz)
abbrev MetR (l : Launch) (y : MethodName) (wc : List Cond) (rm : Room) (Γ : GE) (av : List Value) (ws ws' : va_W) (sz : Nat) (r : Nat) : Prop := Met l y wc rm (va_Pc av (CP Γ ws sz)) (va_Qr (fun _ : Unit => True) (fun u a t => a = r ∧ CQ Γ ws' (va_A ws sz) u t) (va_A ws sz)) 0 0 (va_A ws sz)
/-- a world with some places' cells replaced -/
def vm_puts : va_W → List Nat → va_W → va_W
  | ws, i :: is, q :: qs => vm_puts (ws.set i q) is qs
  | ws, _, _ => ws
