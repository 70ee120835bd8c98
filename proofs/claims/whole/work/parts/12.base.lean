abbrev gv_eI : String := "java/lang/IndexOutOfBoundsException"
abbrev gv_eA : String := "java/lang/IllegalArgumentException"
abbrev gv_eS : String := "java/lang/IllegalStateException"
abbrev gv_nm : List String := ["java/lang/RuntimeException", "java/lang/Exception"]
def gv_F : List (String × Nat × String × String × String × String) := [("Gravimere", 168, "Gravimere$Body", "pulls", "[J", "Gravimere"), ("Gravimere", 109, "Gravimere$Needles", "kinds", "[I", "Gravimere"), ("Gravimere", 118, "Gravimere$Needles", "tiedMonths", "[I", "Gravimere"), ("Gravimere", 99, "Gravimere$Needles", "count", "I", "Gravimere"), ("Gravimere", 154, "Gravimere$Survey", "heights", "[I", "Gravimere"), ("Gravimere", 149, "Gravimere$Survey", "doubts", "[I", "Gravimere"), ("Gravimere", 160, "Gravimere$Survey", "triedDoubts", "[I", "Gravimere"), ("Gravimere", 125, "Gravimere$Survey", "benchmarks", "I", "Gravimere"), ("Gravimere", 139, "Gravimere$Survey", "lines", "I", "Gravimere"), ("Gravimere", 176, "Gravimere$Archive", "months", "[I", "Gravimere"), ("Gravimere", 167, "Gravimere$Archive", "count", "I", "Gravimere")]
def gv_M : List (String × Nat × MethodName × String) := [("Gravimere", 11, yX1_init, "Gravimere"), ("Gravimere", 18, yX2_init, "Gravimere"), ("Gravimere", 25, yX3_init, "Gravimere"), ("Gravimere", 32, yX4_init, "Gravimere"), ("Gravimere", 39, yX0_init, "Gravimere"), ("Gravimere", 61, yX1_putMass, "Gravimere"), ("Gravimere$Body", 21, yX5_cellNumber, "Gravimere"), ("Gravimere", 67, yX1_putWater, "Gravimere"), ("Gravimere", 71, yX1_keptPull, "Gravimere"), ("Gravimere", 75, yX1_summedPull, "Gravimere"), ("Gravimere", 82, yX2_put, "Gravimere"), ("Gravimere", 105, yX3_add, "Gravimere"), ("Gravimere", 115, yX3_offIn, "Gravimere"), ("Gravimere", 121, yX2_tideIn, "Gravimere"), ("Gravimere", 128, yX4_addBenchmark, "Gravimere"), ("Gravimere", 142, yX4_addLine, "Gravimere"), ("Gravimere", 146, yX4_findHeights, "Gravimere"), ("Gravimere", 157, yX4_tryAllLines, "Gravimere"), ("Gravimere", 163, yX4_contradicts, "Gravimere"), ("Gravimere", 172, yX0_keep, "Gravimere"), ("Gravimere", 181, yX0_trendFrom, "Gravimere"), ("Gravimere$Archive", 29, yX5_cellNumber, "Gravimere")]
def gv_Dc : List MethodName := [Bundle.initS "java/lang/RuntimeException", Bundle.initS "java/lang/Exception", Bundle.initS Bundle.tN]
def gv_C : List (String × String) := [(gv_eI, gv_eI), (gv_eA, gv_eA), (gv_eS, gv_eS)]
def gv_N : List (String × String) := [("java/lang/IllegalArgumentException", "java/lang/IllegalStateException"), ("java/lang/IllegalArgumentException", "java/lang/IndexOutOfBoundsException"), ("java/lang/IllegalStateException", "java/lang/IllegalArgumentException"), ("java/lang/IllegalStateException", "java/lang/IndexOutOfBoundsException"), ("java/lang/IndexOutOfBoundsException", "java/lang/IllegalArgumentException"), ("java/lang/IndexOutOfBoundsException", "java/lang/IllegalStateException")]
def gv_S : List (Nat × String) := [(187, "there is no such cell"), (190, "there is none of that number"), (192, "an argument is out of its range"), (90, "the month would be above 3000"), (194, "there are as many as there may be"), (113, "a MIRROR cannot be tied"), (134, "a line goes to another benchmark"), (152, "the benchmark has no height"), (179, "both releases are of one month")]
theorem gv_warmC {a b : String} {s U : State} (hW : s.WarmedH U.vm) (hZ : va_Nw (.castable a b) s) : va_Nw (.castable a b) U := va_tabs rfl (rfl : (s.setVm U.vm).vm = U.vm) (by rw [Cond.castable_setVm hW.alike]; exact hZ)
/-- what the contracts carry of the tables beside their word lists: links in the nest, what throws and handlers ask, the texts -/
def GW (U : State) : Prop := (∀ q ∈ gv_F, va_Nw (.fieldLinkNest q.1 q.2.1 q.2.2.1 q.2.2.2.1 q.2.2.2.2.1 q.2.2.2.2.2) U) ∧ (∀ q ∈ gv_M, va_Nw (.methodLinkNest q.1 q.2.1 q.2.2.1 q.2.2.2) U) ∧ (∀ x ∈ gv_Dc, va_Nw (.declares x) U) ∧ (∀ q ∈ gv_C, va_Nw (.castable q.1 q.2) U) ∧ (∀ q ∈ gv_N, va_Nc q.1 q.2 U) ∧ (∀ q ∈ gv_S, ∃ sa : Nat, vk_R "Gravimere" q.1 q.2 sa U)
theorem GW.warm {s U : State} (hW : s.WarmedH U.vm) (h : GW s) : GW U := by
  obtain ⟨h1, h2, h3, h4, h5, h6⟩ := h
  refine ⟨fun q hq => va_Nw.warmF hW (h1 q hq), fun q hq => va_Nw.warmM hW (h2 q hq), fun x hx => va_Nw.warmD hW (h3 x hx), fun q hq => gv_warmC hW (h4 q hq), fun q hq => va_Nc.moved hW.alike (h5 q hq), fun q hq => ?_⟩
  obtain ⟨sa, h⟩ := h6 q hq
  exact ⟨sa, vk_R.warm hW h⟩
theorem gv_nf_168 {U : State} (h : GW U) : va_Nw (.fieldLinkNest "Gravimere" 168 "Gravimere$Body" "pulls" "[J" "Gravimere") U := h.1 ("Gravimere", 168, "Gravimere$Body", "pulls", "[J", "Gravimere") (List.mem_of_getElem? (i := 0) rfl)
theorem gv_nf_109 {U : State} (h : GW U) : va_Nw (.fieldLinkNest "Gravimere" 109 "Gravimere$Needles" "kinds" "[I" "Gravimere") U := h.1 ("Gravimere", 109, "Gravimere$Needles", "kinds", "[I", "Gravimere") (List.mem_of_getElem? (i := 1) rfl)
theorem gv_nf_118 {U : State} (h : GW U) : va_Nw (.fieldLinkNest "Gravimere" 118 "Gravimere$Needles" "tiedMonths" "[I" "Gravimere") U := h.1 ("Gravimere", 118, "Gravimere$Needles", "tiedMonths", "[I", "Gravimere") (List.mem_of_getElem? (i := 2) rfl)
theorem gv_nf_99 {U : State} (h : GW U) : va_Nw (.fieldLinkNest "Gravimere" 99 "Gravimere$Needles" "count" "I" "Gravimere") U := h.1 ("Gravimere", 99, "Gravimere$Needles", "count", "I", "Gravimere") (List.mem_of_getElem? (i := 3) rfl)
theorem gv_nf_154 {U : State} (h : GW U) : va_Nw (.fieldLinkNest "Gravimere" 154 "Gravimere$Survey" "heights" "[I" "Gravimere") U := h.1 ("Gravimere", 154, "Gravimere$Survey", "heights", "[I", "Gravimere") (List.mem_of_getElem? (i := 4) rfl)
theorem gv_nf_149 {U : State} (h : GW U) : va_Nw (.fieldLinkNest "Gravimere" 149 "Gravimere$Survey" "doubts" "[I" "Gravimere") U := h.1 ("Gravimere", 149, "Gravimere$Survey", "doubts", "[I", "Gravimere") (List.mem_of_getElem? (i := 5) rfl)
theorem gv_nf_160 {U : State} (h : GW U) : va_Nw (.fieldLinkNest "Gravimere" 160 "Gravimere$Survey" "triedDoubts" "[I" "Gravimere") U := h.1 ("Gravimere", 160, "Gravimere$Survey", "triedDoubts", "[I", "Gravimere") (List.mem_of_getElem? (i := 6) rfl)
theorem gv_nf_125 {U : State} (h : GW U) : va_Nw (.fieldLinkNest "Gravimere" 125 "Gravimere$Survey" "benchmarks" "I" "Gravimere") U := h.1 ("Gravimere", 125, "Gravimere$Survey", "benchmarks", "I", "Gravimere") (List.mem_of_getElem? (i := 7) rfl)
theorem gv_nf_139 {U : State} (h : GW U) : va_Nw (.fieldLinkNest "Gravimere" 139 "Gravimere$Survey" "lines" "I" "Gravimere") U := h.1 ("Gravimere", 139, "Gravimere$Survey", "lines", "I", "Gravimere") (List.mem_of_getElem? (i := 8) rfl)
theorem gv_nf_176 {U : State} (h : GW U) : va_Nw (.fieldLinkNest "Gravimere" 176 "Gravimere$Archive" "months" "[I" "Gravimere") U := h.1 ("Gravimere", 176, "Gravimere$Archive", "months", "[I", "Gravimere") (List.mem_of_getElem? (i := 9) rfl)
theorem gv_nf_167 {U : State} (h : GW U) : va_Nw (.fieldLinkNest "Gravimere" 167 "Gravimere$Archive" "count" "I" "Gravimere") U := h.1 ("Gravimere", 167, "Gravimere$Archive", "count", "I", "Gravimere") (List.mem_of_getElem? (i := 10) rfl)
theorem gv_nm_X5_11 {U : State} (h : GW U) : va_Nw (.methodLinkNest "Gravimere" 11 yX1_init "Gravimere") U := h.2.1 ("Gravimere", 11, yX1_init, "Gravimere") (List.mem_of_getElem? (i := 0) rfl)
theorem gv_nm_X5_18 {U : State} (h : GW U) : va_Nw (.methodLinkNest "Gravimere" 18 yX2_init "Gravimere") U := h.2.1 ("Gravimere", 18, yX2_init, "Gravimere") (List.mem_of_getElem? (i := 1) rfl)
theorem gv_nm_X5_25 {U : State} (h : GW U) : va_Nw (.methodLinkNest "Gravimere" 25 yX3_init "Gravimere") U := h.2.1 ("Gravimere", 25, yX3_init, "Gravimere") (List.mem_of_getElem? (i := 2) rfl)
theorem gv_nm_X5_32 {U : State} (h : GW U) : va_Nw (.methodLinkNest "Gravimere" 32 yX4_init "Gravimere") U := h.2.1 ("Gravimere", 32, yX4_init, "Gravimere") (List.mem_of_getElem? (i := 3) rfl)
theorem gv_nm_X5_39 {U : State} (h : GW U) : va_Nw (.methodLinkNest "Gravimere" 39 yX0_init "Gravimere") U := h.2.1 ("Gravimere", 39, yX0_init, "Gravimere") (List.mem_of_getElem? (i := 4) rfl)
theorem gv_nm_X5_61 {U : State} (h : GW U) : va_Nw (.methodLinkNest "Gravimere" 61 yX1_putMass "Gravimere") U := h.2.1 ("Gravimere", 61, yX1_putMass, "Gravimere") (List.mem_of_getElem? (i := 5) rfl)
theorem gv_nm_X1_21 {U : State} (h : GW U) : va_Nw (.methodLinkNest "Gravimere$Body" 21 yX5_cellNumber "Gravimere") U := h.2.1 ("Gravimere$Body", 21, yX5_cellNumber, "Gravimere") (List.mem_of_getElem? (i := 6) rfl)
theorem gv_nm_X5_67 {U : State} (h : GW U) : va_Nw (.methodLinkNest "Gravimere" 67 yX1_putWater "Gravimere") U := h.2.1 ("Gravimere", 67, yX1_putWater, "Gravimere") (List.mem_of_getElem? (i := 7) rfl)
theorem gv_nm_X5_71 {U : State} (h : GW U) : va_Nw (.methodLinkNest "Gravimere" 71 yX1_keptPull "Gravimere") U := h.2.1 ("Gravimere", 71, yX1_keptPull, "Gravimere") (List.mem_of_getElem? (i := 8) rfl)
theorem gv_nm_X5_75 {U : State} (h : GW U) : va_Nw (.methodLinkNest "Gravimere" 75 yX1_summedPull "Gravimere") U := h.2.1 ("Gravimere", 75, yX1_summedPull, "Gravimere") (List.mem_of_getElem? (i := 9) rfl)
theorem gv_nm_X5_82 {U : State} (h : GW U) : va_Nw (.methodLinkNest "Gravimere" 82 yX2_put "Gravimere") U := h.2.1 ("Gravimere", 82, yX2_put, "Gravimere") (List.mem_of_getElem? (i := 10) rfl)
theorem gv_nm_X5_105 {U : State} (h : GW U) : va_Nw (.methodLinkNest "Gravimere" 105 yX3_add "Gravimere") U := h.2.1 ("Gravimere", 105, yX3_add, "Gravimere") (List.mem_of_getElem? (i := 11) rfl)
theorem gv_nm_X5_115 {U : State} (h : GW U) : va_Nw (.methodLinkNest "Gravimere" 115 yX3_offIn "Gravimere") U := h.2.1 ("Gravimere", 115, yX3_offIn, "Gravimere") (List.mem_of_getElem? (i := 12) rfl)
theorem gv_nm_X5_121 {U : State} (h : GW U) : va_Nw (.methodLinkNest "Gravimere" 121 yX2_tideIn "Gravimere") U := h.2.1 ("Gravimere", 121, yX2_tideIn, "Gravimere") (List.mem_of_getElem? (i := 13) rfl)
theorem gv_nm_X5_128 {U : State} (h : GW U) : va_Nw (.methodLinkNest "Gravimere" 128 yX4_addBenchmark "Gravimere") U := h.2.1 ("Gravimere", 128, yX4_addBenchmark, "Gravimere") (List.mem_of_getElem? (i := 14) rfl)
theorem gv_nm_X5_142 {U : State} (h : GW U) : va_Nw (.methodLinkNest "Gravimere" 142 yX4_addLine "Gravimere") U := h.2.1 ("Gravimere", 142, yX4_addLine, "Gravimere") (List.mem_of_getElem? (i := 15) rfl)
theorem gv_nm_X5_146 {U : State} (h : GW U) : va_Nw (.methodLinkNest "Gravimere" 146 yX4_findHeights "Gravimere") U := h.2.1 ("Gravimere", 146, yX4_findHeights, "Gravimere") (List.mem_of_getElem? (i := 16) rfl)
theorem gv_nm_X5_157 {U : State} (h : GW U) : va_Nw (.methodLinkNest "Gravimere" 157 yX4_tryAllLines "Gravimere") U := h.2.1 ("Gravimere", 157, yX4_tryAllLines, "Gravimere") (List.mem_of_getElem? (i := 17) rfl)
theorem gv_nm_X5_163 {U : State} (h : GW U) : va_Nw (.methodLinkNest "Gravimere" 163 yX4_contradicts "Gravimere") U := h.2.1 ("Gravimere", 163, yX4_contradicts, "Gravimere") (List.mem_of_getElem? (i := 18) rfl)
theorem gv_nm_X5_172 {U : State} (h : GW U) : va_Nw (.methodLinkNest "Gravimere" 172 yX0_keep "Gravimere") U := h.2.1 ("Gravimere", 172, yX0_keep, "Gravimere") (List.mem_of_getElem? (i := 19) rfl)
theorem gv_nm_X5_181 {U : State} (h : GW U) : va_Nw (.methodLinkNest "Gravimere" 181 yX0_trendFrom "Gravimere") U := h.2.1 ("Gravimere", 181, yX0_trendFrom, "Gravimere") (List.mem_of_getElem? (i := 20) rfl)
theorem gv_nm_X0_29 {U : State} (h : GW U) : va_Nw (.methodLinkNest "Gravimere$Archive" 29 yX5_cellNumber "Gravimere") U := h.2.1 ("Gravimere$Archive", 29, yX5_cellNumber, "Gravimere") (List.mem_of_getElem? (i := 21) rfl)
theorem gv_st_187 {U : State} (h : GW U) : ∃ sa : Nat, vk_R "Gravimere" 187 "there is no such cell" sa U := h.2.2.2.2.2 (187, "there is no such cell") (List.mem_of_getElem? (i := 0) rfl)
theorem gv_st_190 {U : State} (h : GW U) : ∃ sa : Nat, vk_R "Gravimere" 190 "there is none of that number" sa U := h.2.2.2.2.2 (190, "there is none of that number") (List.mem_of_getElem? (i := 1) rfl)
theorem gv_st_192 {U : State} (h : GW U) : ∃ sa : Nat, vk_R "Gravimere" 192 "an argument is out of its range" sa U := h.2.2.2.2.2 (192, "an argument is out of its range") (List.mem_of_getElem? (i := 2) rfl)
theorem gv_st_90 {U : State} (h : GW U) : ∃ sa : Nat, vk_R "Gravimere" 90 "the month would be above 3000" sa U := h.2.2.2.2.2 (90, "the month would be above 3000") (List.mem_of_getElem? (i := 3) rfl)
theorem gv_st_194 {U : State} (h : GW U) : ∃ sa : Nat, vk_R "Gravimere" 194 "there are as many as there may be" sa U := h.2.2.2.2.2 (194, "there are as many as there may be") (List.mem_of_getElem? (i := 4) rfl)
theorem gv_st_113 {U : State} (h : GW U) : ∃ sa : Nat, vk_R "Gravimere" 113 "a MIRROR cannot be tied" sa U := h.2.2.2.2.2 (113, "a MIRROR cannot be tied") (List.mem_of_getElem? (i := 5) rfl)
theorem gv_st_134 {U : State} (h : GW U) : ∃ sa : Nat, vk_R "Gravimere" 134 "a line goes to another benchmark" sa U := h.2.2.2.2.2 (134, "a line goes to another benchmark") (List.mem_of_getElem? (i := 6) rfl)
theorem gv_st_152 {U : State} (h : GW U) : ∃ sa : Nat, vk_R "Gravimere" 152 "the benchmark has no height" sa U := h.2.2.2.2.2 (152, "the benchmark has no height") (List.mem_of_getElem? (i := 7) rfl)
theorem gv_st_179 {U : State} (h : GW U) : ∃ sa : Nat, vk_R "Gravimere" 179 "both releases are of one month" sa U := h.2.2.2.2.2 (179, "both releases are of one month") (List.mem_of_getElem? (i := 8) rfl)
theorem gv_nc_AS {U : State} (h : GW U) : va_Nc gv_eA gv_eS U := h.2.2.2.2.1 ("java/lang/IllegalArgumentException", "java/lang/IllegalStateException") (List.mem_of_getElem? (i := 0) rfl)
theorem gv_nc_AI {U : State} (h : GW U) : va_Nc gv_eA gv_eI U := h.2.2.2.2.1 ("java/lang/IllegalArgumentException", "java/lang/IndexOutOfBoundsException") (List.mem_of_getElem? (i := 1) rfl)
theorem gv_nc_SA {U : State} (h : GW U) : va_Nc gv_eS gv_eA U := h.2.2.2.2.1 ("java/lang/IllegalStateException", "java/lang/IllegalArgumentException") (List.mem_of_getElem? (i := 2) rfl)
theorem gv_nc_SI {U : State} (h : GW U) : va_Nc gv_eS gv_eI U := h.2.2.2.2.1 ("java/lang/IllegalStateException", "java/lang/IndexOutOfBoundsException") (List.mem_of_getElem? (i := 3) rfl)
theorem gv_nc_IA {U : State} (h : GW U) : va_Nc gv_eI gv_eA U := h.2.2.2.2.1 ("java/lang/IndexOutOfBoundsException", "java/lang/IllegalArgumentException") (List.mem_of_getElem? (i := 4) rfl)
theorem gv_nc_IS {U : State} (h : GW U) : va_Nc gv_eI gv_eS U := h.2.2.2.2.1 ("java/lang/IndexOutOfBoundsException", "java/lang/IllegalStateException") (List.mem_of_getElem? (i := 5) rfl)
theorem gv_ca_I {U : State} (h : GW U) : va_Nw (.castable gv_eI gv_eI) U := h.2.2.2.1 (gv_eI, gv_eI) (List.mem_of_getElem? (i := 0) rfl)
def gv_badI : List Cond := [.declares (Bundle.initS "java/lang/RuntimeException"), .declares (Bundle.initS "java/lang/Exception"), .declares (Bundle.initS Bundle.tN), .castable gv_eI gv_eI]
theorem gv_bI : ∀ w ∈ (vx_atS RX5 189 gv_eI gv_nm).filter (fun w => !goodWord w), w ∈ gv_badI := by decide +kernel
theorem gv_bwI {args : Array Value} {s : State} (h : GW s) : ∀ w ∈ gv_badI, w.before args s = true :=
  vx_c ((h.2.2.1 _ (List.mem_of_getElem? (i := 0) rfl)).use rfl) (vx_c ((h.2.2.1 _ (List.mem_of_getElem? (i := 1) rfl)).use rfl) (vx_c ((h.2.2.1 _ (List.mem_of_getElem? (i := 2) rfl)).use rfl) (vx_c ((gv_ca_I h).use rfl) vx_n)))
theorem gv_otI : ∀ w ∈ Cond.classLink RX5 185 gv_eI :: Cond.initialized gv_eI :: vx_atS RX5 189 gv_eI gv_nm, vx_ot w = true := by decide +kernel
theorem gv_ca_A {U : State} (h : GW U) : va_Nw (.castable gv_eA gv_eA) U := h.2.2.2.1 (gv_eA, gv_eA) (List.mem_of_getElem? (i := 1) rfl)
def gv_badA : List Cond := [.declares (Bundle.initS "java/lang/RuntimeException"), .declares (Bundle.initS "java/lang/Exception"), .declares (Bundle.initS Bundle.tN), .castable gv_eA gv_eA]
theorem gv_bA : ∀ w ∈ (vx_atS RX5 136 gv_eA gv_nm).filter (fun w => !goodWord w), w ∈ gv_badA := by decide +kernel
theorem gv_bwA {args : Array Value} {s : State} (h : GW s) : ∀ w ∈ gv_badA, w.before args s = true :=
  vx_c ((h.2.2.1 _ (List.mem_of_getElem? (i := 0) rfl)).use rfl) (vx_c ((h.2.2.1 _ (List.mem_of_getElem? (i := 1) rfl)).use rfl) (vx_c ((h.2.2.1 _ (List.mem_of_getElem? (i := 2) rfl)).use rfl) (vx_c ((gv_ca_A h).use rfl) vx_n)))
theorem gv_otA : ∀ w ∈ Cond.classLink RX5 132 gv_eA :: Cond.initialized gv_eA :: vx_atS RX5 136 gv_eA gv_nm, vx_ot w = true := by decide +kernel
theorem gv_ca_S {U : State} (h : GW U) : va_Nw (.castable gv_eS gv_eS) U := h.2.2.2.1 (gv_eS, gv_eS) (List.mem_of_getElem? (i := 2) rfl)
def gv_badS : List Cond := [.declares (Bundle.initS "java/lang/RuntimeException"), .declares (Bundle.initS "java/lang/Exception"), .declares (Bundle.initS Bundle.tN), .castable gv_eS gv_eS]
theorem gv_bS : ∀ w ∈ (vx_atS RX5 92 gv_eS gv_nm).filter (fun w => !goodWord w), w ∈ gv_badS := by decide +kernel
theorem gv_bwS {args : Array Value} {s : State} (h : GW s) : ∀ w ∈ gv_badS, w.before args s = true :=
  vx_c ((h.2.2.1 _ (List.mem_of_getElem? (i := 0) rfl)).use rfl) (vx_c ((h.2.2.1 _ (List.mem_of_getElem? (i := 1) rfl)).use rfl) (vx_c ((h.2.2.1 _ (List.mem_of_getElem? (i := 2) rfl)).use rfl) (vx_c ((gv_ca_S h).use rfl) vx_n)))
theorem gv_otS : ∀ w ∈ Cond.classLink RX5 88 gv_eS :: Cond.initialized gv_eS :: vx_atS RX5 92 gv_eS gv_nm, vx_ot w = true := by decide +kernel
/-- the two statics that a throw reads -/
def GZ (A : Nat → Prop) (U : State) (H : Heap) : Prop := vx_Zq Bundle.tN "UNASSIGNED_STACK" Bundle.steD A U H ∧ vx_Zq Bundle.tN "SUPPRESSED_SENTINEL" Bundle.listD A U H
theorem GZ.moved {A : Nat → Prop} {u U : State} {H : Heap} (hvm : u.vm.Alike U.vm) (h : GZ A u H) : GZ A U H := ⟨h.1.moved hvm, h.2.moved hvm⟩
theorem GZ.kept {A : Nat → Prop} {U : State} {H H1 : Heap} (h : GZ A U H) (hq : ∀ a : Nat, a < H.size → ¬ A a → H1[a]? = H[a]?) : GZ A U H1 := ⟨h.1.kept hq, h.2.kept hq⟩
theorem GZ.narrow {A B : Nat → Prop} {U : State} {H : Heap} (h : GZ A U H) (hAB : ∀ q, B q → A q) : GZ B U H := ⟨h.1.narrow hAB, h.2.narrow hAB⟩
/-- a contract's start: the world ws in a heap of sz cells -/
def gv_B (D : va_G) (cI cJ : ClassId) (ws : va_W) (sz : Nat) (U : State) : Prop := U.heap.size = sz ∧ va_P D vwCl ws U.heap ∧ va_K D vwCl [(cI, .int), (cJ, .long)] U ∧ va_D (fun _ => True) ws ∧ GW U
def gv_Z (D : va_G) (cI cJ : ClassId) (ws : va_W) (sz : Nat) (U : State) : Prop := gv_B D cI cJ ws sz U ∧ GZ (va_A ws sz) U U.heap
/-- the world behind a method -/
def gv_W (D : va_G) (A : Nat → Prop) (ws : va_W) (t : State) : Prop := va_P D vwCl ws t.heap ∧ va_D A ws
/-- void, nothing changed -/
def gv_Sv (post : Prop) : Array Value → State → Outcome → State → Prop := fun _ st o t => o = .returned none ∧ post ∧ t.heap = st.heap
/-- thrown, nothing old changed -/
def gv_X (BX : String → Prop) : String → State → State → Prop := fun E st t => BX E ∧ st.heap.size ≤ t.heap.size ∧ ∀ q : Nat, q < st.heap.size → t.heap[q]? = st.heap[q]?
theorem gv_fm {α β : Type} {f : α → Option β} : ∀ {is : List α} {w : List β}, is.map f = w.map some → is.filterMap f = w
  | [], [], _ => rfl
  | [], _ :: _, h => by simp at h
  | _ :: _, [], h => by simp at h
  | a :: is, b :: w, h => by
    simp only [List.map_cons, List.cons.injEq] at h
    rw [List.filterMap_cons, h.1]
    exact congrArg (b :: ·) (gv_fm h.2)
theorem gv_Psub {D : va_G} {ws ws' : va_W} {H : Heap} (h : va_P D vwCl ws H) (is : List Nat) (hs : is.map (fun i => ws[i]?) = ws'.map some) : va_P D vwCl ws' H := h.sub is (gv_fm hs)
theorem gv_bB {D : va_G} {cI cJ : ClassId} {ws : va_W} {sz : Nat} {As : List Value} : FrameBlind (va_Pc As (gv_B D cI cJ ws sz)) := fun a U g mk q => by
  obtain ⟨q0, q1, qP, qK, qD, qG⟩ := q
  exact ⟨q0, q1, qP, va_K.moved (u := U) (U := U.calling g mk a) (Vm.Alike.refl U.vm) qK, qD, GW.warm (s := U) (U := U.calling g mk a) (State.WarmedH.refl U) qG⟩
theorem gv_bZ {D : va_G} {cI cJ : ClassId} {ws : va_W} {sz : Nat} {As : List Value} : FrameBlind (va_Pc As (gv_Z D cI cJ ws sz)) := fun a U g mk q => by
  obtain ⟨q0, ⟨q1, qP, qK, qD, qG⟩, qZ⟩ := q
  exact ⟨q0, ⟨q1, qP, va_K.moved (u := U) (U := U.calling g mk a) (Vm.Alike.refl U.vm) qK, qD, GW.warm (s := U) (U := U.calling g mk a) (State.WarmedH.refl U) qG⟩, GZ.moved (u := U) (U := U.calling g mk a) (Vm.Alike.refl U.vm) qZ⟩
section GVP
variable {s : State} {H : Heap} {D : va_G} {cI cJ : ClassId} {ws wc : va_W} {A0 A : Nat → Prop} {As : List Value} {C : String} {b : Addr} {locs : List Loc}
/-- the start of a call: of a function of its arguments; of a world; of a world, where it may throw -/
theorem gv_p0 : PreS s H (va_Pc As (fun _ => True)) As := ⟨fun _ _ _ _ q => ⟨q.1, trivial⟩, fun _ _ _ => ⟨rfl, trivial⟩⟩
theorem gv_pB (hP : va_P D vwCl ws H) (hK : va_K D vwCl [(cI, .int), (cJ, .long)] s) (hD : va_D A ws) (hG : GW s) (isC : List Nat) (hC : isC.map (fun i => ws[i]?) = wc.map some) (hn : va_nd isC = true) {U : State} (hU : U.heap = H) (hW : s.WarmedH U.vm) : gv_B D cI cJ wc H.size U :=
  ⟨by rw [hU], by rw [hU]; exact gv_Psub hP isC hC, va_K.moved hW.alike hK, (hD.sub isC hn hC).weaken (fun _ _ _ _ => trivial), GW.warm hW hG⟩
theorem gv_pS (hP : va_P D vwCl ws H) (hK : va_K D vwCl [(cI, .int), (cJ, .long)] s) (hD : va_D A ws) (hG : GW s) (isC : List Nat) (hC : isC.map (fun i => ws[i]?) = wc.map some) (hn : va_nd isC = true) : PreS s H (va_Pc As (gv_B D cI cJ wc H.size)) As :=
  ⟨gv_bB, fun U hU hW => ⟨rfl, gv_pB hP hK hD hG isC hC hn hU hW⟩⟩
theorem gv_pV (hP : va_P D vwCl ws H) (hK : va_K D vwCl [(cI, .int), (cJ, .long)] s) (hD : va_D A ws) (hG : GW s) (isC : List Nat) (hC : isC.map (fun i => ws[i]?) = wc.map some) (hn : va_nd isC = true) (q0 : Nat) {ci : Nat} {fs : List Value} {r : vw_C} (he : wc[q0]? = some (b, .inr (ci, fs))) (hc : vwCl[ci]? = some r) (hr : r.1 = C) : PreV s H C b (va_Pc (.ref b :: As) (gv_B D cI cJ wc H.size)) As :=
  ⟨gv_bB, by rw [← hr]; exact va_recv hK (gv_Psub hP isC hC) hc he, fun U hU hW => ⟨rfl, gv_pB hP hK hD hG isC hC hn hU hW⟩⟩
theorem gv_pZ (hP : va_P D vwCl ws H) (hK : va_K D vwCl [(cI, .int), (cJ, .long)] s) (hD : va_D A ws) (hG : GW s) (hZ : GZ A0 s H) (hA : ∀ q, va_A wc H.size q → A0 q) (isC : List Nat) (hC : isC.map (fun i => ws[i]?) = wc.map some) (hn : va_nd isC = true) {U : State} (hU : U.heap = H) (hW : s.WarmedH U.vm) : gv_Z D cI cJ wc H.size U :=
  ⟨gv_pB hP hK hD hG isC hC hn hU hW, by rw [hU]; exact (hZ.narrow hA).moved hW.alike⟩
theorem gv_pSZ (hP : va_P D vwCl ws H) (hK : va_K D vwCl [(cI, .int), (cJ, .long)] s) (hD : va_D A ws) (hG : GW s) (hZ : GZ A0 s H) (hA : ∀ q, va_A wc H.size q → A0 q) (isC : List Nat) (hC : isC.map (fun i => ws[i]?) = wc.map some) (hn : va_nd isC = true) : PreS s H (va_Pc As (gv_Z D cI cJ wc H.size)) As :=
  ⟨gv_bZ, fun U hU hW => ⟨rfl, gv_pZ hP hK hD hG hZ hA isC hC hn hU hW⟩⟩
theorem gv_pVZ (hP : va_P D vwCl ws H) (hK : va_K D vwCl [(cI, .int), (cJ, .long)] s) (hD : va_D A ws) (hG : GW s) (hZ : GZ A0 s H) (hA : ∀ q, va_A wc H.size q → A0 q) (isC : List Nat) (hC : isC.map (fun i => ws[i]?) = wc.map some) (hn : va_nd isC = true) (q0 : Nat) {ci : Nat} {fs : List Value} {r : vw_C} (he : wc[q0]? = some (b, .inr (ci, fs))) (hc : vwCl[ci]? = some r) (hr : r.1 = C) : PreV s H C b (va_Pc (.ref b :: As) (gv_Z D cI cJ wc H.size)) As :=
  ⟨gv_bZ, by rw [← hr]; exact va_recv hK (gv_Psub hP isC hC) hc he, fun U hU hW => ⟨rfl, gv_pZ hP hK hD hG hZ hA isC hC hn hU hW⟩⟩
theorem gv_A0 {sz : Nat} (h : ∀ q, sz ≤ q → A q) : ∀ q, va_A [] sz q → A q := fun q h9 => by
  rcases h9 with ⟨k, e, h9⟩ | h9
  · simp at h9
  · exact h q h9
theorem gv_Awc {sz : Nat} (isC : List Nat) (hC : isC.map (fun i => ws[i]?) = wc.map some) : ∀ q, va_A wc sz q → va_A ws sz q := fun q h9 => by
  rcases h9 with ⟨k, e, h9⟩ | h9
  · have h1 : (isC.map (fun i => ws[i]?))[k]? = some (some (q, e)) := by rw [hC, List.getElem?_map, h9]; rfl
    rw [List.getElem?_map] at h1
    cases hi : isC[k]? with
    | none => rw [hi] at h1; cases h1
    | some i => rw [hi] at h1; exact Or.inl ⟨i, e, Option.some.inj h1⟩
  · exact Or.inr h9
end GVP
section GVR
variable {p : Program} {l : Launch} {e : Env} {R : Room} {s : State} {m : MethodId} {args : Array Value} {below : List Frame} {meth : Method} {c : Code} {H : Heap} {locs : List Loc} {cells slots : Nat} {Q : State → Prop}
variable {pc mc ms : Nat} {ls : Array Slot} {st0 rest : List Value} {a : Array Value} {cc : ByteArray}
theorem gv_nil {L : List Loc} (h : ∀ z ∈ L, (fun _ : Addr => False) z.base) : L = [] := by
  cases L with
  | nil => rfl
  | cons z L => exact (h z List.mem_cons_self).elim
/-- the top of the stack by another name -/
theorem gv_wi {x y : Int32} (h : x = y) (k : W p l e R s m args below meth c H locs cells slots Q (F0 m pc ls (.int y :: rest))) : W p l e R s m args below meth c H locs cells slots Q (F0 m pc ls (.int x :: rest)) := by rw [h]; exact k
theorem gv_wl {x y : Int64} (h : x = y) (k : W p l e R s m args below meth c H locs cells slots Q (F0 m pc ls (.long y :: rest))) : W p l e R s m args below meth c H locs cells slots Q (F0 m pc ls (.long x :: rest)) := by rw [h]; exact k
/-- branches that meet again at pc2, with an int (or nothing) on the stack -/
theorem gv_mg (P : Int32 → Prop) (pc2 : Nat) (rest2 : List Value) (K : ∀ v : Int32, P v → W p l e R s m args below meth c H locs cells slots Q (F0 m pc2 ls (.int v :: rest2))) (k : (∀ v : Int32, P v → W p l e R s m args below meth c H locs cells slots Q (F0 m pc2 ls (.int v :: rest2))) → W p l e R s m args below meth c H locs cells slots Q (F0 m pc ls st0)) : W p l e R s m args below meth c H locs cells slots Q (F0 m pc ls st0) := k K
/-- a loop that writes nothing; a loop that writes -/
theorem gv_lp {σ : Type} (Inv : σ → Array Slot → Prop) (μ : σ → Nat) (x0 : σ) (h0 : Inv x0 ls) (hs : ∀ (x : σ) (ls : Array Slot), Inv x ls → (∀ (x' : σ) (ls' : Array Slot), Inv x' ls' → μ x' < μ x → W p l e R s m args below meth c H locs cells slots Q (F0 m pc ls' rest)) → W p l e R s m args below meth c H locs cells slots Q (F0 m pc ls rest)) : W p l e R s m args below meth c H locs cells slots Q (F0 m pc ls rest) := by
  have key : ∀ (n : Nat) (x : σ) (ls : Array Slot), μ x < n → Inv x ls → W p l e R s m args below meth c H locs cells slots Q (F0 m pc ls rest) := by
    intro n
    induction n with
    | zero => intro x ls h; exact absurd h (Nat.not_lt_zero _)
    | succ n ih => intro x ls h hI; exact hs x ls hI (fun x' ls' hI' hm => ih x' ls' (by omega) hI')
  exact key _ x0 ls (Nat.lt_succ_self _) h0
theorem gv_lm {σ : Type} (Inv : σ → Heap → List Loc → Array Slot → Prop) (μ : σ → Nat) (x0 : σ) (h0 : Inv x0 H locs ls) (hs : ∀ (x : σ) (H : Heap) (locs : List Loc) (ls : Array Slot), Inv x H locs ls → (∀ (x' : σ) (H' : Heap) (locs' : List Loc) (ls' : Array Slot), Inv x' H' locs' ls' → μ x' < μ x → W p l e R s m args below meth c H' locs' cells slots Q (F0 m pc ls' rest)) → W p l e R s m args below meth c H locs cells slots Q (F0 m pc ls rest)) : W p l e R s m args below meth c H locs cells slots Q (F0 m pc ls rest) := by
  have key : ∀ (n : Nat) (x : σ) (H : Heap) (locs : List Loc) (ls : Array Slot), μ x < n → Inv x H locs ls → W p l e R s m args below meth c H locs cells slots Q (F0 m pc ls rest) := by
    intro n
    induction n with
    | zero => intro x H locs ls h; exact absurd h (Nat.not_lt_zero _)
    | succ n ih => intro x H locs ls h hI; exact hs x H locs ls hI (fun x' H' locs' ls' hI' hm => ih x' H' locs' ls' (by omega) hI')
  exact key _ x0 H locs ls (Nat.lt_succ_self _) h0
/-- calls that change nothing -/
theorem gv_pi {post : Int32 → Prop} (hr : va_Run p l e R s m args below meth c H locs cells slots 0 0 (F0 m pc ls st0) rest (vp_Si post a) (fun _ => False)) (kk : ∀ r : Int32, post r → W p l e R s m args below meth c H locs cells slots Q (F0 m (pc + 3) ls (.int r :: rest))) : W p l e R s m args below meth c H locs cells slots Q (F0 m pc ls st0) := by
  intro T hT X
  obtain ⟨v, st₀, t, T', L, h0, X', hL, e1, e2, ⟨r, hv, hp, hh⟩, st⟩ := hr T hT X
  cases hv
  cases gv_nil hL
  rw [List.append_nil] at X'
  obtain ⟨t2, a1, b1⟩ := kk r hp T' (by rw [e1, hh, h0]) X'
  exact ⟨t2, st t2 a1, b1⟩
theorem gv_pl {post : Int64 → Prop} (hr : va_Run p l e R s m args below meth c H locs cells slots 0 0 (F0 m pc ls st0) rest (vp_Sl post a) (fun _ => False)) (kk : ∀ r : Int64, post r → W p l e R s m args below meth c H locs cells slots Q (F0 m (pc + 3) ls (.long r :: rest))) : W p l e R s m args below meth c H locs cells slots Q (F0 m pc ls st0) := by
  intro T hT X
  obtain ⟨v, st₀, t, T', L, h0, X', hL, e1, e2, ⟨r, hv, hp, hh⟩, st⟩ := hr T hT X
  cases hv
  cases gv_nil hL
  rw [List.append_nil] at X'
  obtain ⟨t2, a1, b1⟩ := kk r hp T' (by rw [e1, hh, h0]) X'
  exact ⟨t2, st t2 a1, b1⟩
theorem gv_tight {T T' : State} {locs' : List Loc} {k n : Nat} (X : Stand p l e R s m args below meth c T locs cells slots) (X' : Stand p l e R s m args below meth c T' locs' k n) (h : T'.heap = T.heap) : Stand p l e R s m args below meth c T' locs cells slots :=
  have hs : s.sameButNew (T'.setVm s.vm) locs cells slots := by
    obtain ⟨a1, a2, a3, a4, a5, a6⟩ := X'.same
    obtain ⟨b1, b2, b3, b4, b5, b6⟩ := X.same
    have hh : (T'.setVm s.vm).heap = (T.setVm s.vm).heap := h
    exact ⟨a1, a2, by rw [hh]; exact b3, a4, by rw [hh]; exact b5, by rw [hh]; exact b6⟩
  ⟨X'.admits, X'.cas, X'.clock, X'.frames, X'.room, X'.hears, X'.method, X'.code, X'.here, X'.tail, X'.warmed, X'.limits, X'.bytes, hs⟩
/-- calls that change nothing, or throw -/
theorem gv_xi {post : Int32 → Prop} {BX : String → Prop} (hr : vx_Run p l e R s m args below meth c H locs cells slots mc ms (F0 m pc ls st0) rest (vp_Si post a) (gv_X BX) (fun _ => False))
    (kx : ∀ (E : String) (ce : Cell) (q9 : Addr) (H1 : Heap), BX E → H.size ≤ H1.size → (∀ q : Nat, q < H.size → H1[q]? = H[q]?) → H1[q9]? = some ce → ce.vm = .none → s.vm.findClass E = some ce.cls → vx_W p l e R s m args below meth c H1 locs (cells + mc) (slots + ms) Q (F0 m pc ls rest) q9)
    (kk : ∀ r : Int32, post r → W p l e R s m args below meth c H locs cells slots Q (F0 m (pc + 3) ls (.int r :: rest))) : W p l e R s m args below meth c H locs cells slots Q (F0 m pc ls st0) := by
  intro T hT X
  rcases hr T hT X with ⟨v, st₀, t, T', L, h0, X', hL, e1, e2, ⟨r, hv, hp, hh⟩, st⟩ | ⟨q, st₀, t, T', L, E, ce, h0, X', hL, e1, e2, ⟨hbx, hz, hk⟩, hce, hcv, hcl, st⟩
  · cases hv
    have hH : T'.heap = H := by rw [e1, hh, h0]
    obtain ⟨t2, a1, b1⟩ := kk r hp T' hH (gv_tight X X' (by rw [hH, hT]))
    exact ⟨t2, st t2 a1, b1⟩
  · cases gv_nil hL
    rw [List.append_nil] at X'
    rw [h0] at hz hk
    obtain ⟨t2, a1, b1⟩ := kx E ce q T'.heap hbx (by rw [e1]; exact hz) (fun z h => by rw [e1]; exact hk z h) (by rw [e1]; exact hce) hcv hcl T' rfl X'
    exact ⟨t2, st.trans a1, b1⟩
theorem gv_xl {post : Int64 → Prop} {BX : String → Prop} (hr : vx_Run p l e R s m args below meth c H locs cells slots mc ms (F0 m pc ls st0) rest (vp_Sl post a) (gv_X BX) (fun _ => False))
    (kx : ∀ (E : String) (ce : Cell) (q9 : Addr) (H1 : Heap), BX E → H.size ≤ H1.size → (∀ q : Nat, q < H.size → H1[q]? = H[q]?) → H1[q9]? = some ce → ce.vm = .none → s.vm.findClass E = some ce.cls → vx_W p l e R s m args below meth c H1 locs (cells + mc) (slots + ms) Q (F0 m pc ls rest) q9)
    (kk : ∀ r : Int64, post r → W p l e R s m args below meth c H locs cells slots Q (F0 m (pc + 3) ls (.long r :: rest))) : W p l e R s m args below meth c H locs cells slots Q (F0 m pc ls st0) := by
  intro T hT X
  rcases hr T hT X with ⟨v, st₀, t, T', L, h0, X', hL, e1, e2, ⟨r, hv, hp, hh⟩, st⟩ | ⟨q, st₀, t, T', L, E, ce, h0, X', hL, e1, e2, ⟨hbx, hz, hk⟩, hce, hcv, hcl, st⟩
  · cases hv
    have hH : T'.heap = H := by rw [e1, hh, h0]
    obtain ⟨t2, a1, b1⟩ := kk r hp T' hH (gv_tight X X' (by rw [hH, hT]))
    exact ⟨t2, st t2 a1, b1⟩
  · cases gv_nil hL
    rw [List.append_nil] at X'
    rw [h0] at hz hk
    obtain ⟨t2, a1, b1⟩ := kx E ce q T'.heap hbx (by rw [e1]; exact hz) (fun z h => by rw [e1]; exact hk z h) (by rw [e1]; exact hce) hcv hcl T' rfl X'
    exact ⟨t2, st.trans a1, b1⟩
theorem gv_xv {post : Prop} {BX : String → Prop} (hr : vx_Run p l e R s m args below meth c H locs cells slots mc ms (F0 m pc ls st0) rest (gv_Sv post a) (gv_X BX) (fun _ => False))
    (kx : ∀ (E : String) (ce : Cell) (q9 : Addr) (H1 : Heap), BX E → H.size ≤ H1.size → (∀ q : Nat, q < H.size → H1[q]? = H[q]?) → H1[q9]? = some ce → ce.vm = .none → s.vm.findClass E = some ce.cls → vx_W p l e R s m args below meth c H1 locs (cells + mc) (slots + ms) Q (F0 m pc ls rest) q9)
    (kk : post → W p l e R s m args below meth c H locs cells slots Q (F0 m (pc + 3) ls rest)) : W p l e R s m args below meth c H locs cells slots Q (F0 m pc ls st0) := by
  intro T hT X
  rcases hr T hT X with ⟨v, st₀, t, T', L, h0, X', hL, e1, e2, ⟨hv, hp, hh⟩, st⟩ | ⟨q, st₀, t, T', L, E, ce, h0, X', hL, e1, e2, ⟨hbx, hz, hk⟩, hce, hcv, hcl, st⟩
  · cases hv
    have hH : T'.heap = H := by rw [e1, hh, h0]
    obtain ⟨t2, a1, b1⟩ := kk hp T' hH (gv_tight X X' (by rw [hH, hT]))
    exact ⟨t2, st t2 a1, b1⟩
  · cases gv_nil hL
    rw [List.append_nil] at X'
    rw [h0] at hz hk
    obtain ⟨t2, a1, b1⟩ := kx E ce q T'.heap hbx (by rw [e1]; exact hz) (fun z h => by rw [e1]; exact hk z h) (by rw [e1]; exact hce) hcv hcl T' rfl X'
    exact ⟨t2, st.trans a1, b1⟩
/-- thrown on: nothing was written before -/
theorem gv_out {Qc : Array Value → State → Outcome → State → Prop} {BX : String → Prop} {free : Addr → Prop} {E : String} {ce : Cell} {q : Addr} {H1 : Heap} (ht : ∀ x ∈ c.exceptionTable.toList, False) (hlocks : meth.locks = false) (hz : s.heap.size ≤ H1.size) (hk : ∀ q : Nat, q < s.heap.size → H1[q]? = s.heap[q]?) (hcell : H1[q]? = some ce) (hv : ce.vm = .none) (hcl : s.vm.findClass E = some ce.cls) (hB : BX E) (hc : cells ≤ mc) (hs : slots ≤ ms) :
    vx_W p l e R s m args below meth c H1 [] cells slots (vx_MQ below Qc (gv_X BX) args s mc ms free) (F0 m pc ls rest) q :=
  vx_out (fun x hx => (ht x hx).elim) hlocks hcell hv hcl (fun t ht _ => ⟨hB, by rw [ht]; exact hz, fun z h => by rw [ht]; exact hk z h⟩) (fun _ h => absurd h List.not_mem_nil) hc hs
variable {D : va_G} {cI cJ : ClassId} {ws wc wr : va_W} {A : Nat → Prop}
/-- calls that change their world -/
theorem gv_mi {S : Type} {post : Int32 → S → Prop} {w1 w2 : S → va_W} (hr : va_Run p l e R s m args below meth c H locs cells slots mc ms (F0 m pc ls st0) rest (va_Qi post (fun u t => gv_W D (va_A wc H.size) (w1 u) t) (va_A wc H.size) a) (va_A wc H.size)) (hP : va_P D vwCl ws H) (hD : va_D A ws) (hS : va_S A s.heap H locs) (hA : ∀ q, s.heap.size ≤ q → A q)
    (isC isR isO : List Nat) (hC : isC.map (fun i => ws[i]?) = wc.map some) (hR : isR.map (fun i => ws[i]?) = wr.map some) (hn : va_nd isR = true) (hdis : ∀ i ∈ isR, i ∉ isC) (hO : ∀ u, isO.map (fun i => (wr ++ w1 u)[i]?) = (w2 u).map some) (hnO : va_nd isO = true)
    (kk : ∀ (r : Int32) (u : S) (H1 : Heap) (locs1 : List Loc), post r u → va_P D vwCl (w2 u) H1 → va_D A (w2 u) → va_S A s.heap H1 locs1 → W p l e R s m args below meth c H1 locs1 (cells + mc) (slots + ms) Q (F0 m (pc + 3) ls (.int r :: rest))) : W p l e R s m args below meth c H locs cells slots Q (F0 m pc ls st0) := by
  have hFc := va_free hD hS hA isC hC
  refine va_calli hr hS (fun q _ h => hFc q h) hFc (fun r u t H1 locs1 ht hvm hw hB hz hk hS1 => ?_)
  obtain ⟨hP1, hD1⟩ := hB
  rw [ht] at hP1
  obtain ⟨hP2, hD2⟩ := va_join hP hD isC isR hC hR hn hdis hk hFc hP1 hD1
  exact kk r u H1 locs1 hw (gv_Psub hP2 isO (hO u)) (hD2.sub isO hnO (hO u)) hS1
theorem gv_ml {S : Type} {post : Int64 → S → Prop} {w1 w2 : S → va_W} (hr : va_Run p l e R s m args below meth c H locs cells slots mc ms (F0 m pc ls st0) rest (va_Ql post (fun u t => gv_W D (va_A wc H.size) (w1 u) t) (va_A wc H.size) a) (va_A wc H.size)) (hP : va_P D vwCl ws H) (hD : va_D A ws) (hS : va_S A s.heap H locs) (hA : ∀ q, s.heap.size ≤ q → A q)
    (isC isR isO : List Nat) (hC : isC.map (fun i => ws[i]?) = wc.map some) (hR : isR.map (fun i => ws[i]?) = wr.map some) (hn : va_nd isR = true) (hdis : ∀ i ∈ isR, i ∉ isC) (hO : ∀ u, isO.map (fun i => (wr ++ w1 u)[i]?) = (w2 u).map some) (hnO : va_nd isO = true)
    (kk : ∀ (r : Int64) (u : S) (H1 : Heap) (locs1 : List Loc), post r u → va_P D vwCl (w2 u) H1 → va_D A (w2 u) → va_S A s.heap H1 locs1 → W p l e R s m args below meth c H1 locs1 (cells + mc) (slots + ms) Q (F0 m (pc + 3) ls (.long r :: rest))) : W p l e R s m args below meth c H locs cells slots Q (F0 m pc ls st0) := by
  have hFc := va_free hD hS hA isC hC
  refine va_calll hr hS (fun q _ h => hFc q h) hFc (fun r u t H1 locs1 ht hvm hw hB hz hk hS1 => ?_)
  obtain ⟨hP1, hD1⟩ := hB
  rw [ht] at hP1
  obtain ⟨hP2, hD2⟩ := va_join hP hD isC isR hC hR hn hdis hk hFc hP1 hD1
  exact kk r u H1 locs1 hw (gv_Psub hP2 isO (hO u)) (hD2.sub isO hnO (hO u)) hS1
theorem gv_mv {S : Type} {post : S → Prop} {w1 w2 : S → va_W} (hr : va_Run p l e R s m args below meth c H locs cells slots mc ms (F0 m pc ls st0) rest (va_Qv post (fun u t => gv_W D (va_A wc H.size) (w1 u) t) (va_A wc H.size) a) (va_A wc H.size)) (hP : va_P D vwCl ws H) (hD : va_D A ws) (hS : va_S A s.heap H locs) (hA : ∀ q, s.heap.size ≤ q → A q)
    (isC isR isO : List Nat) (hC : isC.map (fun i => ws[i]?) = wc.map some) (hR : isR.map (fun i => ws[i]?) = wr.map some) (hn : va_nd isR = true) (hdis : ∀ i ∈ isR, i ∉ isC) (hO : ∀ u, isO.map (fun i => (wr ++ w1 u)[i]?) = (w2 u).map some) (hnO : va_nd isO = true)
    (kk : ∀ (u : S) (H1 : Heap) (locs1 : List Loc), post u → va_P D vwCl (w2 u) H1 → va_D A (w2 u) → va_S A s.heap H1 locs1 → W p l e R s m args below meth c H1 locs1 (cells + mc) (slots + ms) Q (F0 m (pc + 3) ls rest)) : W p l e R s m args below meth c H locs cells slots Q (F0 m pc ls st0) := by
  have hFc := va_free hD hS hA isC hC
  refine va_callv hr hS (fun q _ h => hFc q h) hFc (fun u t H1 locs1 ht hvm hw hB hz hk hS1 => ?_)
  obtain ⟨hP1, hD1⟩ := hB
  rw [ht] at hP1
  obtain ⟨hP2, hD2⟩ := va_join hP hD isC isR hC hR hn hdis hk hFc hP1 hD1
  exact kk u H1 locs1 hw (gv_Psub hP2 isO (hO u)) (hD2.sub isO hnO (hO u)) hS1
/-- .. or throw, the world as it was -/
theorem gv_Pk {H1 : Heap} (hP : va_P D vwCl ws H) (hk : ∀ q : Nat, q < H.size → H1[q]? = H[q]?) : va_P D vwCl ws H1 := hP.kept (fun k q h => hk q.1 ((hP k q h).lt))
theorem gv_Sk {H1 : Heap} (hS : va_S A s.heap H locs) (hz : H.size ≤ H1.size) (hk : ∀ q : Nat, q < H.size → H1[q]? = H[q]?) : va_S A s.heap H1 locs :=
  ⟨Nat.le_trans hS.1 hz, fun q h1 h2 => by rw [hk q (Nat.lt_of_lt_of_le h1 hS.1)]; exact hS.2.1 q h1 h2, hS.2.2⟩
theorem gv_keepX {BX : String → Prop} {E : String} {st₀ t T' : State} (h0 : st₀.heap = H) (e1 : T'.heap = t.heap) (h : gv_X BX E st₀ t) : BX E ∧ H.size ≤ T'.heap.size ∧ ∀ q : Nat, q < H.size → T'.heap[q]? = H[q]? := by
  obtain ⟨hb, hz, hk⟩ := h
  rw [h0] at hz hk
  exact ⟨hb, by rw [e1]; exact hz, fun q h => by rw [e1]; exact hk q h⟩
theorem gv_SL {H1 : Heap} {L : List Loc} (hS : va_S A s.heap H locs) (hf : ∀ q, va_A wc H.size q → A q) (hL : ∀ z ∈ L, va_A wc H.size z.base) (hz : H.size ≤ H1.size) (hk : ∀ q : Nat, q < H.size → H1[q]? = H[q]?) : va_S A s.heap H1 (locs ++ L) := by
  obtain ⟨a1, a2, a3⟩ := gv_Sk hS hz hk
  refine ⟨a1, a2, fun q hq => ?_⟩
  rcases List.mem_append.mp hq with h | h
  · exact a3 q h
  · exact hf _ (hL q h)
theorem gv_tl {S : Type} {post : Int64 → S → Prop} {w1 w2 : S → va_W} {BX : String → Prop} (hr : vx_Run p l e R s m args below meth c H locs cells slots mc ms (F0 m pc ls st0) rest (va_Ql post (fun u t => gv_W D (va_A wc H.size) (w1 u) t) (va_A wc H.size) a) (gv_X BX) (va_A wc H.size)) (hP : va_P D vwCl ws H) (hD : va_D A ws) (hS : va_S A s.heap H locs) (hA : ∀ q, s.heap.size ≤ q → A q)
    (isC isR isO : List Nat) (hC : isC.map (fun i => ws[i]?) = wc.map some) (hR : isR.map (fun i => ws[i]?) = wr.map some) (hn : va_nd isR = true) (hdis : ∀ i ∈ isR, i ∉ isC) (hO : ∀ u, isO.map (fun i => (wr ++ w1 u)[i]?) = (w2 u).map some) (hnO : va_nd isO = true)
    (kx : ∀ (E : String) (ce : Cell) (q9 : Addr) (H1 : Heap) (locs1 : List Loc), BX E → va_P D vwCl ws H1 → va_S A s.heap H1 locs1 → H1[q9]? = some ce → ce.vm = .none → s.vm.findClass E = some ce.cls → vx_W p l e R s m args below meth c H1 locs1 (cells + mc) (slots + ms) Q (F0 m pc ls rest) q9)
    (kk : ∀ (r : Int64) (u : S) (H1 : Heap) (locs1 : List Loc), post r u → va_P D vwCl (w2 u) H1 → va_D A (w2 u) → va_S A s.heap H1 locs1 → W p l e R s m args below meth c H1 locs1 (cells + mc) (slots + ms) Q (F0 m (pc + 3) ls (.long r :: rest))) : W p l e R s m args below meth c H locs cells slots Q (F0 m pc ls st0) := by
  have hFc := va_free hD hS hA isC hC
  intro T hT X
  rcases hr T hT X with ⟨v, st₀, t, T', L, h0, X', hL, e1, e2, ⟨⟨r, u, hv, hp, hB⟩, hF⟩, st⟩ | ⟨q, st₀, t, T', L, E, ce, h0, X', hL, e1, e2, hx, hce, hcv, hcl, st⟩
  · cases hv
    obtain ⟨k1, k2, k3⟩ := vx_keep h0 e1 hS (fun q _ h => hFc q h) hFc hL hF
    obtain ⟨hP1, hD1⟩ := hB
    rw [← e1] at hP1
    obtain ⟨hP2, hD2⟩ := va_join hP hD isC isR hC hR hn hdis k2 hFc hP1 hD1
    obtain ⟨t2, a1, b1⟩ := kk r u T'.heap (locs ++ L) hp (gv_Psub hP2 isO (hO u)) (hD2.sub isO hnO (hO u)) k3 T' rfl X'
    exact ⟨t2, st t2 a1, b1⟩
  · obtain ⟨hb, hz, hk⟩ := gv_keepX h0 e1 hx
    obtain ⟨t2, a1, b1⟩ := kx E ce q T'.heap (locs ++ L) hb (gv_Pk hP hk) (gv_SL hS hFc hL hz hk) (by rw [e1]; exact hce) hcv hcl T' rfl X'
    exact ⟨t2, st.trans a1, b1⟩
theorem gv_ti {S : Type} {post : Int32 → S → Prop} {w1 w2 : S → va_W} {BX : String → Prop} (hr : vx_Run p l e R s m args below meth c H locs cells slots mc ms (F0 m pc ls st0) rest (va_Qi post (fun u t => gv_W D (va_A wc H.size) (w1 u) t) (va_A wc H.size) a) (gv_X BX) (va_A wc H.size)) (hP : va_P D vwCl ws H) (hD : va_D A ws) (hS : va_S A s.heap H locs) (hA : ∀ q, s.heap.size ≤ q → A q)
    (isC isR isO : List Nat) (hC : isC.map (fun i => ws[i]?) = wc.map some) (hR : isR.map (fun i => ws[i]?) = wr.map some) (hn : va_nd isR = true) (hdis : ∀ i ∈ isR, i ∉ isC) (hO : ∀ u, isO.map (fun i => (wr ++ w1 u)[i]?) = (w2 u).map some) (hnO : va_nd isO = true)
    (kx : ∀ (E : String) (ce : Cell) (q9 : Addr) (H1 : Heap) (locs1 : List Loc), BX E → va_P D vwCl ws H1 → va_S A s.heap H1 locs1 → H1[q9]? = some ce → ce.vm = .none → s.vm.findClass E = some ce.cls → vx_W p l e R s m args below meth c H1 locs1 (cells + mc) (slots + ms) Q (F0 m pc ls rest) q9)
    (kk : ∀ (r : Int32) (u : S) (H1 : Heap) (locs1 : List Loc), post r u → va_P D vwCl (w2 u) H1 → va_D A (w2 u) → va_S A s.heap H1 locs1 → W p l e R s m args below meth c H1 locs1 (cells + mc) (slots + ms) Q (F0 m (pc + 3) ls (.int r :: rest))) : W p l e R s m args below meth c H locs cells slots Q (F0 m pc ls st0) := by
  have hFc := va_free hD hS hA isC hC
  intro T hT X
  rcases hr T hT X with ⟨v, st₀, t, T', L, h0, X', hL, e1, e2, ⟨⟨r, u, hv, hp, hB⟩, hF⟩, st⟩ | ⟨q, st₀, t, T', L, E, ce, h0, X', hL, e1, e2, hx, hce, hcv, hcl, st⟩
  · cases hv
    obtain ⟨k1, k2, k3⟩ := vx_keep h0 e1 hS (fun q _ h => hFc q h) hFc hL hF
    obtain ⟨hP1, hD1⟩ := hB
    rw [← e1] at hP1
    obtain ⟨hP2, hD2⟩ := va_join hP hD isC isR hC hR hn hdis k2 hFc hP1 hD1
    obtain ⟨t2, a1, b1⟩ := kk r u T'.heap (locs ++ L) hp (gv_Psub hP2 isO (hO u)) (hD2.sub isO hnO (hO u)) k3 T' rfl X'
    exact ⟨t2, st t2 a1, b1⟩
  · obtain ⟨hb, hz, hk⟩ := gv_keepX h0 e1 hx
    obtain ⟨t2, a1, b1⟩ := kx E ce q T'.heap (locs ++ L) hb (gv_Pk hP hk) (gv_SL hS hFc hL hz hk) (by rw [e1]; exact hce) hcv hcl T' rfl X'
    exact ⟨t2, st.trans a1, b1⟩
variable {A9 : Nat → Prop} {ws9 : va_W} {H0 : Heap}
/-- arrays at places that are numbers -/
theorem gv_il (hexec : p.tables.exec = Jvm.exec) (hb : c.code = cc) (hK : va_K D vwCl [(cI, .int), (cJ, .long)] s) (hP : va_P D vwCl ws H) (q0 : Nat) {q : Nat} {n k : Nat} {f : Nat → Int32} (ha : ws[q0]? = some (q, .inl (cI, n, .inl f))) (hk : k < n) (hn : n < 2 ^ 31) (hdg : decode cc pc = .ok (.iaload, 1)) (kk : W p l e R s m args below meth c H locs cells slots Q (F0 m (pc + 1) ls (.int (f k) :: rest))) : W p l e R s m args below meth c H locs cells slots Q (F0 m pc ls (.int (nI k) :: .ref q :: rest)) := by
  refine va_iald hexec hb hK hP q0 0 ha rfl (vp_in_nI hk hn) hdg ?_
  rw [nI_clamp (Nat.lt_trans hk hn)]
  exact kk
theorem gv_ll (hexec : p.tables.exec = Jvm.exec) (hb : c.code = cc) (hK : va_K D vwCl [(cI, .int), (cJ, .long)] s) (hP : va_P D vwCl ws H) (q0 : Nat) {q : Nat} {n k : Nat} {f : Nat → Int64} (ha : ws[q0]? = some (q, .inl (cJ, n, .inr (.inl f)))) (hk : k < n) (hn : n < 2 ^ 31) (hdg : decode cc pc = .ok (.laload, 1)) (kk : W p l e R s m args below meth c H locs cells slots Q (F0 m (pc + 1) ls (.long (f k) :: rest))) : W p l e R s m args below meth c H locs cells slots Q (F0 m pc ls (.int (nI k) :: .ref q :: rest)) := by
  refine va_lald hexec hb hK hP q0 1 ha rfl (vp_in_nI hk hn) hdg ?_
  rw [nI_clamp (Nat.lt_trans hk hn)]
  exact kk
theorem gv_is (hexec : p.tables.exec = Jvm.exec) (hb : c.code = cc) (hK : va_K D vwCl [(cI, .int), (cJ, .long)] s) (hP : va_P D vwCl ws H) (hD : va_D A ws) (hS : va_S A H0 H locs) (q0 : Nat) {q : Nat} {n k : Nat} {f : Nat → Int32} {x : Int32} (ha : ws[q0]? = some (q, .inl (cI, n, .inl f))) (hk : k < n) (hn : n < 2 ^ 31) (hdg : decode cc pc = .ok (.iastore, 1)) (kk : ∀ (H1 : Heap) (locs1 : List Loc), va_P D vwCl (ws.set q0 (q, .inl (cI, n, .inl (upd f k x)))) H1 → va_D A (ws.set q0 (q, .inl (cI, n, .inl (upd f k x)))) → va_S A H0 H1 locs1 → W p l e R s m args below meth c H1 locs1 cells slots Q (F0 m (pc + 1) ls rest)) : W p l e R s m args below meth c H locs cells slots Q (F0 m pc ls (.int x :: .int (nI k) :: .ref q :: rest)) := by
  refine va_iast hexec hb hK hP hD hS q0 0 ha rfl (vp_in_nI hk hn) hdg ?_
  rw [nI_clamp (Nat.lt_trans hk hn)]
  exact kk
theorem gv_ls (hexec : p.tables.exec = Jvm.exec) (hb : c.code = cc) (hK : va_K D vwCl [(cI, .int), (cJ, .long)] s) (hP : va_P D vwCl ws H) (hD : va_D A ws) (hS : va_S A H0 H locs) (q0 : Nat) {q : Nat} {n k : Nat} {f : Nat → Int64} {x : Int64} (ha : ws[q0]? = some (q, .inl (cJ, n, .inr (.inl f)))) (hk : k < n) (hn : n < 2 ^ 31) (hdg : decode cc pc = .ok (.lastore, 1)) (kk : ∀ (H1 : Heap) (locs1 : List Loc), va_P D vwCl (ws.set q0 (q, .inl (cJ, n, .inr (.inl (vp_updL f k x))))) H1 → va_D A (ws.set q0 (q, .inl (cJ, n, .inr (.inl (vp_updL f k x))))) → va_S A H0 H1 locs1 → W p l e R s m args below meth c H1 locs1 cells slots Q (F0 m (pc + 1) ls rest)) : W p l e R s m args below meth c H locs cells slots Q (F0 m pc ls (.long x :: .int (nI k) :: .ref q :: rest)) := by
  refine va_last hexec hb hK hP hD hS q0 1 ha rfl (vp_in_nI hk hn) hdg ?_
  rw [nI_clamp (Nat.lt_trans hk hn)]
  exact kk
theorem gv_nz {v : Int32} (h : v = 0 ∨ v = 1) : narrow .boolean (.int v) = .int v := by rcases h with rfl | rfl <;> rfl
end GVR
