section
-- ===== PART A: goes FIRST, ahead of the names: the tables' words, and 'selects' of the private methods out of them =====
/-- a private method of a class that the tables say can be made, by its rows of tables_1 -/
def lw_okq (q : MethodName × Nat) : Prop := (q.1.cls ≠ "java/lang/invoke/MethodHandle" ∧ q.1.cls ≠ "java/lang/invoke/VarHandle") ∧ Cond.instantiable q.1.cls q.2 ∈ tables_1 ∧ Cond.privateMethod q.1 ∈ tables_1 ∧ Cond.instanceMethod q.1 ∈ tables_1
theorem lw_p0 : lw_okq (⟨"java/lang/Throwable", "fillInStackTrace", "(I)Ljava/lang/Throwable;"⟩, 6) := ⟨⟨by decide +kernel, by decide +kernel⟩, List.mem_of_getElem? (i := 205) (by decide +kernel), List.mem_of_getElem? (i := 203) (by decide +kernel), List.mem_of_getElem? (i := 204) (by decide +kernel)⟩
theorem lw_p1 : lw_okq (⟨"Gravimere$Body", "putMass", "(IIIJ)J"⟩, 3) := ⟨⟨by decide +kernel, by decide +kernel⟩, List.mem_of_getElem? (i := 25) (by decide +kernel), List.mem_of_getElem? (i := 259) (by decide +kernel), List.mem_of_getElem? (i := 260) (by decide +kernel)⟩
theorem lw_p2 : lw_okq (⟨"Gravimere$Body", "changePulls", "(IIIJJ)V"⟩, 3) := ⟨⟨by decide +kernel, by decide +kernel⟩, List.mem_of_getElem? (i := 25) (by decide +kernel), List.mem_of_getElem? (i := 266) (by decide +kernel), List.mem_of_getElem? (i := 267) (by decide +kernel)⟩
theorem lw_p3 : lw_okq (⟨"Gravimere$Body", "putWater", "(IIJ)J"⟩, 3) := ⟨⟨by decide +kernel, by decide +kernel⟩, List.mem_of_getElem? (i := 25) (by decide +kernel), List.mem_of_getElem? (i := 285) (by decide +kernel), List.mem_of_getElem? (i := 286) (by decide +kernel)⟩
theorem lw_p4 : lw_okq (⟨"Gravimere$Body", "keptPull", "(II)J"⟩, 3) := ⟨⟨by decide +kernel, by decide +kernel⟩, List.mem_of_getElem? (i := 25) (by decide +kernel), List.mem_of_getElem? (i := 296) (by decide +kernel), List.mem_of_getElem? (i := 297) (by decide +kernel)⟩
theorem lw_p5 : lw_okq (⟨"Gravimere$Body", "summedPull", "(II)J"⟩, 3) := ⟨⟨by decide +kernel, by decide +kernel⟩, List.mem_of_getElem? (i := 25) (by decide +kernel), List.mem_of_getElem? (i := 307) (by decide +kernel), List.mem_of_getElem? (i := 308) (by decide +kernel)⟩
theorem lw_p6 : lw_okq (⟨"Gravimere$Moon", "put", "(II)I"⟩, 2) := ⟨⟨by decide +kernel, by decide +kernel⟩, List.mem_of_getElem? (i := 43) (by decide +kernel), List.mem_of_getElem? (i := 327) (by decide +kernel), List.mem_of_getElem? (i := 328) (by decide +kernel)⟩
theorem lw_p7 : lw_okq (⟨"Gravimere$Needles", "add", "(III)I"⟩, 4) := ⟨⟨by decide +kernel, by decide +kernel⟩, List.mem_of_getElem? (i := 56) (by decide +kernel), List.mem_of_getElem? (i := 369) (by decide +kernel), List.mem_of_getElem? (i := 370) (by decide +kernel)⟩
theorem lw_p8 : lw_okq (⟨"Gravimere$Needles", "offIn", "(II)J"⟩, 4) := ⟨⟨by decide +kernel, by decide +kernel⟩, List.mem_of_getElem? (i := 56) (by decide +kernel), List.mem_of_getElem? (i := 381) (by decide +kernel), List.mem_of_getElem? (i := 382) (by decide +kernel)⟩
theorem lw_p9 : lw_okq (⟨"Gravimere$Moon", "tideIn", "(I)J"⟩, 2) := ⟨⟨by decide +kernel, by decide +kernel⟩, List.mem_of_getElem? (i := 43) (by decide +kernel), List.mem_of_getElem? (i := 392) (by decide +kernel), List.mem_of_getElem? (i := 393) (by decide +kernel)⟩
theorem lw_p10 : lw_okq (⟨"Gravimere$Survey", "addBenchmark", "()I"⟩, 9) := ⟨⟨by decide +kernel, by decide +kernel⟩, List.mem_of_getElem? (i := 79) (by decide +kernel), List.mem_of_getElem? (i := 403) (by decide +kernel), List.mem_of_getElem? (i := 404) (by decide +kernel)⟩
theorem lw_p11 : lw_okq (⟨"Gravimere$Survey", "addLine", "(IIII)I"⟩, 9) := ⟨⟨by decide +kernel, by decide +kernel⟩, List.mem_of_getElem? (i := 79) (by decide +kernel), List.mem_of_getElem? (i := 416) (by decide +kernel), List.mem_of_getElem? (i := 417) (by decide +kernel)⟩
theorem lw_p12 : lw_okq (⟨"Gravimere$Survey", "findHeights", "()V"⟩, 9) := ⟨⟨by decide +kernel, by decide +kernel⟩, List.mem_of_getElem? (i := 79) (by decide +kernel), List.mem_of_getElem? (i := 427) (by decide +kernel), List.mem_of_getElem? (i := 428) (by decide +kernel)⟩
theorem lw_p13 : lw_okq (⟨"Gravimere$Survey", "surestLine", "()I"⟩, 9) := ⟨⟨by decide +kernel, by decide +kernel⟩, List.mem_of_getElem? (i := 79) (by decide +kernel), List.mem_of_getElem? (i := 434) (by decide +kernel), List.mem_of_getElem? (i := 435) (by decide +kernel)⟩
theorem lw_p14 : lw_okq (⟨"Gravimere$Survey", "doubtBeyond", "(I)I"⟩, 9) := ⟨⟨by decide +kernel, by decide +kernel⟩, List.mem_of_getElem? (i := 79) (by decide +kernel), List.mem_of_getElem? (i := 438) (by decide +kernel), List.mem_of_getElem? (i := 439) (by decide +kernel)⟩
theorem lw_p15 : lw_okq (⟨"Gravimere$Survey", "goAlong", "(I)V"⟩, 9) := ⟨⟨by decide +kernel, by decide +kernel⟩, List.mem_of_getElem? (i := 79) (by decide +kernel), List.mem_of_getElem? (i := 442) (by decide +kernel), List.mem_of_getElem? (i := 443) (by decide +kernel)⟩
def lw_privs_1 : List (MethodName × Nat) := [(⟨"java/lang/Throwable", "fillInStackTrace", "(I)Ljava/lang/Throwable;"⟩, 6), (⟨"Gravimere$Body", "putMass", "(IIIJ)J"⟩, 3), (⟨"Gravimere$Body", "changePulls", "(IIIJJ)V"⟩, 3), (⟨"Gravimere$Body", "putWater", "(IIJ)J"⟩, 3), (⟨"Gravimere$Body", "keptPull", "(II)J"⟩, 3), (⟨"Gravimere$Body", "summedPull", "(II)J"⟩, 3), (⟨"Gravimere$Moon", "put", "(II)I"⟩, 2), (⟨"Gravimere$Needles", "add", "(III)I"⟩, 4), (⟨"Gravimere$Needles", "offIn", "(II)J"⟩, 4), (⟨"Gravimere$Moon", "tideIn", "(I)J"⟩, 2), (⟨"Gravimere$Survey", "addBenchmark", "()I"⟩, 9), (⟨"Gravimere$Survey", "addLine", "(IIII)I"⟩, 9), (⟨"Gravimere$Survey", "findHeights", "()V"⟩, 9), (⟨"Gravimere$Survey", "surestLine", "()I"⟩, 9), (⟨"Gravimere$Survey", "doubtBeyond", "(I)I"⟩, 9), (⟨"Gravimere$Survey", "goAlong", "(I)V"⟩, 9)]
theorem lw_r1 : ∀ q ∈ lw_privs_1, lw_okq q := List.forall_mem_cons.mpr ⟨lw_p0, List.forall_mem_cons.mpr ⟨lw_p1, List.forall_mem_cons.mpr ⟨lw_p2, List.forall_mem_cons.mpr ⟨lw_p3, List.forall_mem_cons.mpr ⟨lw_p4, List.forall_mem_cons.mpr ⟨lw_p5, List.forall_mem_cons.mpr ⟨lw_p6, List.forall_mem_cons.mpr ⟨lw_p7, List.forall_mem_cons.mpr ⟨lw_p8, List.forall_mem_cons.mpr ⟨lw_p9, List.forall_mem_cons.mpr ⟨lw_p10, List.forall_mem_cons.mpr ⟨lw_p11, List.forall_mem_cons.mpr ⟨lw_p12, List.forall_mem_cons.mpr ⟨lw_p13, List.forall_mem_cons.mpr ⟨lw_p14, List.forall_mem_cons.mpr ⟨lw_p15, fun _ h => absurd h List.not_mem_nil⟩⟩⟩⟩⟩⟩⟩⟩⟩⟩⟩⟩⟩⟩⟩⟩
theorem lw_p16 : lw_okq (⟨"Gravimere$Survey", "tryAllLines", "()V"⟩, 9) := ⟨⟨by decide +kernel, by decide +kernel⟩, List.mem_of_getElem? (i := 79) (by decide +kernel), List.mem_of_getElem? (i := 461) (by decide +kernel), List.mem_of_getElem? (i := 462) (by decide +kernel)⟩
theorem lw_p17 : lw_okq (⟨"Gravimere$Survey", "tryEachLine", "()Z"⟩, 9) := ⟨⟨by decide +kernel, by decide +kernel⟩, List.mem_of_getElem? (i := 79) (by decide +kernel), List.mem_of_getElem? (i := 465) (by decide +kernel), List.mem_of_getElem? (i := 466) (by decide +kernel)⟩
theorem lw_p18 : lw_okq (⟨"Gravimere$Survey", "makesLess", "(III)Z"⟩, 9) := ⟨⟨by decide +kernel, by decide +kernel⟩, List.mem_of_getElem? (i := 79) (by decide +kernel), List.mem_of_getElem? (i := 469) (by decide +kernel), List.mem_of_getElem? (i := 470) (by decide +kernel)⟩
theorem lw_p19 : lw_okq (⟨"Gravimere$Survey", "contradicts", "(I)Z"⟩, 9) := ⟨⟨by decide +kernel, by decide +kernel⟩, List.mem_of_getElem? (i := 79) (by decide +kernel), List.mem_of_getElem? (i := 480) (by decide +kernel), List.mem_of_getElem? (i := 481) (by decide +kernel)⟩
theorem lw_p20 : lw_okq (⟨"Gravimere$Archive", "keep", "([JI)I"⟩, 3) := ⟨⟨by decide +kernel, by decide +kernel⟩, List.mem_of_getElem? (i := 118) (by decide +kernel), List.mem_of_getElem? (i := 494) (by decide +kernel), List.mem_of_getElem? (i := 495) (by decide +kernel)⟩
theorem lw_p21 : lw_okq (⟨"Gravimere$Archive", "trendFrom", "(IIII)J"⟩, 3) := ⟨⟨by decide +kernel, by decide +kernel⟩, List.mem_of_getElem? (i := 118) (by decide +kernel), List.mem_of_getElem? (i := 509) (by decide +kernel), List.mem_of_getElem? (i := 510) (by decide +kernel)⟩
theorem lw_p22 : lw_okq (⟨"GravimereModel", "holds", "(I)Z"⟩, 20) := ⟨⟨by decide +kernel, by decide +kernel⟩, List.mem_of_getElem? (i := 517) (by decide +kernel), List.mem_of_getElem? (i := 601) (by decide +kernel), List.mem_of_getElem? (i := 602) (by decide +kernel)⟩
theorem lw_p23 : lw_okq (⟨"GravimereModel", "changed", "(IJ)J"⟩, 20) := ⟨⟨by decide +kernel, by decide +kernel⟩, List.mem_of_getElem? (i := 517) (by decide +kernel), List.mem_of_getElem? (i := 605) (by decide +kernel), List.mem_of_getElem? (i := 606) (by decide +kernel)⟩
theorem lw_p24 : lw_okq (⟨"GravimereModel", "pullAt", "(II)J"⟩, 20) := ⟨⟨by decide +kernel, by decide +kernel⟩, List.mem_of_getElem? (i := 517) (by decide +kernel), List.mem_of_getElem? (i := 618) (by decide +kernel), List.mem_of_getElem? (i := 619) (by decide +kernel)⟩
theorem lw_p25 : lw_okq (⟨"GravimereModel", "isNeedle", "(I)Z"⟩, 20) := ⟨⟨by decide +kernel, by decide +kernel⟩, List.mem_of_getElem? (i := 517) (by decide +kernel), List.mem_of_getElem? (i := 651) (by decide +kernel), List.mem_of_getElem? (i := 652) (by decide +kernel)⟩
theorem lw_p26 : lw_okq (⟨"GravimereModel", "offNow", "(I)J"⟩, 20) := ⟨⟨by decide +kernel, by decide +kernel⟩, List.mem_of_getElem? (i := 517) (by decide +kernel), List.mem_of_getElem? (i := 655) (by decide +kernel), List.mem_of_getElem? (i := 656) (by decide +kernel)⟩
theorem lw_p27 : lw_okq (⟨"GravimereModel", "readAt", "(III)J"⟩, 20) := ⟨⟨by decide +kernel, by decide +kernel⟩, List.mem_of_getElem? (i := 517) (by decide +kernel), List.mem_of_getElem? (i := 663) (by decide +kernel), List.mem_of_getElem? (i := 664) (by decide +kernel)⟩
theorem lw_p28 : lw_okq (⟨"GravimereModel", "isBenchmark", "(I)Z"⟩, 20) := ⟨⟨by decide +kernel, by decide +kernel⟩, List.mem_of_getElem? (i := 517) (by decide +kernel), List.mem_of_getElem? (i := 675) (by decide +kernel), List.mem_of_getElem? (i := 676) (by decide +kernel)⟩
theorem lw_p29 : lw_okq (⟨"GravimereModel", "findsAll", "()V"⟩, 20) := ⟨⟨by decide +kernel, by decide +kernel⟩, List.mem_of_getElem? (i := 517) (by decide +kernel), List.mem_of_getElem? (i := 684) (by decide +kernel), List.mem_of_getElem? (i := 685) (by decide +kernel)⟩
theorem lw_p30 : lw_okq (⟨"GravimereModel", "next", "()I"⟩, 20) := ⟨⟨by decide +kernel, by decide +kernel⟩, List.mem_of_getElem? (i := 517) (by decide +kernel), List.mem_of_getElem? (i := 688) (by decide +kernel), List.mem_of_getElem? (i := 689) (by decide +kernel)⟩
theorem lw_p31 : lw_okq (⟨"GravimereModel", "finds", "(I)I"⟩, 20) := ⟨⟨by decide +kernel, by decide +kernel⟩, List.mem_of_getElem? (i := 517) (by decide +kernel), List.mem_of_getElem? (i := 692) (by decide +kernel), List.mem_of_getElem? (i := 693) (by decide +kernel)⟩
def lw_privs_2 : List (MethodName × Nat) := [(⟨"Gravimere$Survey", "tryAllLines", "()V"⟩, 9), (⟨"Gravimere$Survey", "tryEachLine", "()Z"⟩, 9), (⟨"Gravimere$Survey", "makesLess", "(III)Z"⟩, 9), (⟨"Gravimere$Survey", "contradicts", "(I)Z"⟩, 9), (⟨"Gravimere$Archive", "keep", "([JI)I"⟩, 3), (⟨"Gravimere$Archive", "trendFrom", "(IIII)J"⟩, 3), (⟨"GravimereModel", "holds", "(I)Z"⟩, 20), (⟨"GravimereModel", "changed", "(IJ)J"⟩, 20), (⟨"GravimereModel", "pullAt", "(II)J"⟩, 20), (⟨"GravimereModel", "isNeedle", "(I)Z"⟩, 20), (⟨"GravimereModel", "offNow", "(I)J"⟩, 20), (⟨"GravimereModel", "readAt", "(III)J"⟩, 20), (⟨"GravimereModel", "isBenchmark", "(I)Z"⟩, 20), (⟨"GravimereModel", "findsAll", "()V"⟩, 20), (⟨"GravimereModel", "next", "()I"⟩, 20), (⟨"GravimereModel", "finds", "(I)I"⟩, 20)]
theorem lw_r2 : ∀ q ∈ lw_privs_2, lw_okq q := List.forall_mem_cons.mpr ⟨lw_p16, List.forall_mem_cons.mpr ⟨lw_p17, List.forall_mem_cons.mpr ⟨lw_p18, List.forall_mem_cons.mpr ⟨lw_p19, List.forall_mem_cons.mpr ⟨lw_p20, List.forall_mem_cons.mpr ⟨lw_p21, List.forall_mem_cons.mpr ⟨lw_p22, List.forall_mem_cons.mpr ⟨lw_p23, List.forall_mem_cons.mpr ⟨lw_p24, List.forall_mem_cons.mpr ⟨lw_p25, List.forall_mem_cons.mpr ⟨lw_p26, List.forall_mem_cons.mpr ⟨lw_p27, List.forall_mem_cons.mpr ⟨lw_p28, List.forall_mem_cons.mpr ⟨lw_p29, List.forall_mem_cons.mpr ⟨lw_p30, List.forall_mem_cons.mpr ⟨lw_p31, fun _ h => absurd h List.not_mem_nil⟩⟩⟩⟩⟩⟩⟩⟩⟩⟩⟩⟩⟩⟩⟩⟩
theorem lw_p32 : lw_okq (⟨"GravimereModel", "isFound", "(I)Z"⟩, 20) := ⟨⟨by decide +kernel, by decide +kernel⟩, List.mem_of_getElem? (i := 517) (by decide +kernel), List.mem_of_getElem? (i := 696) (by decide +kernel), List.mem_of_getElem? (i := 697) (by decide +kernel)⟩
theorem lw_p33 : lw_okq (⟨"GravimereModel", "doubtOf", "(I)I"⟩, 20) := ⟨⟨by decide +kernel, by decide +kernel⟩, List.mem_of_getElem? (i := 517) (by decide +kernel), List.mem_of_getElem? (i := 704) (by decide +kernel), List.mem_of_getElem? (i := 705) (by decide +kernel)⟩
theorem lw_p34 : lw_okq (⟨"GravimereModel", "conflicts", "(I)Z"⟩, 20) := ⟨⟨by decide +kernel, by decide +kernel⟩, List.mem_of_getElem? (i := 517) (by decide +kernel), List.mem_of_getElem? (i := 716) (by decide +kernel), List.mem_of_getElem? (i := 717) (by decide +kernel)⟩
theorem lw_p35 : lw_okq (⟨"GravimereModel", "isRelease", "(I)Z"⟩, 20) := ⟨⟨by decide +kernel, by decide +kernel⟩, List.mem_of_getElem? (i := 517) (by decide +kernel), List.mem_of_getElem? (i := 728) (by decide +kernel), List.mem_of_getElem? (i := 729) (by decide +kernel)⟩
def lw_privs_3 : List (MethodName × Nat) := [(⟨"GravimereModel", "isFound", "(I)Z"⟩, 20), (⟨"GravimereModel", "doubtOf", "(I)I"⟩, 20), (⟨"GravimereModel", "conflicts", "(I)Z"⟩, 20), (⟨"GravimereModel", "isRelease", "(I)Z"⟩, 20)]
theorem lw_r3 : ∀ q ∈ lw_privs_3, lw_okq q := List.forall_mem_cons.mpr ⟨lw_p32, List.forall_mem_cons.mpr ⟨lw_p33, List.forall_mem_cons.mpr ⟨lw_p34, List.forall_mem_cons.mpr ⟨lw_p35, fun _ h => absurd h List.not_mem_nil⟩⟩⟩⟩
def lw_privs : List (MethodName × Nat) := lw_privs_1 ++ (lw_privs_2 ++ (lw_privs_3))
def lw_tbl : List Cond := k2_sels lw_privs ++ tables_1
theorem lw_privs_ok : ∀ q ∈ lw_privs, lw_okq q := by
  show ∀ q ∈ lw_privs_1 ++ (lw_privs_2 ++ (lw_privs_3)), lw_okq q
  exact List.forall_mem_append.mpr ⟨lw_r1, List.forall_mem_append.mpr ⟨lw_r2, lw_r3⟩⟩
end
section
/-! ===== BEGIN words of one list among another's, by their places ===== -/
theorem goodIn_r {big : List Cond} (ws : List Cond) (ps : List Nat) (hp : ws = ps.filterMap (fun i => big[i]?)) (h : ws.all goodWord = true) : GoodIn big ws := by
  intro w hw
  have h1 := List.all_eq_true.mp h w hw
  rw [hp] at hw
  obtain ⟨i, -, hi⟩ := List.mem_filterMap.mp hw
  have hm : w ∈ big := by first | exact List.mem_of_getElem? hi | exact List.getElem?_mem hi
  exact ⟨hm, good_of_word h1⟩
theorem goodIn_app {big a b : List Cond} (ha : GoodIn big a) (hb : GoodIn big b) : GoodIn big (a ++ b) := fun w h => (List.mem_append.mp h).elim (ha w) (hb w)
theorem goodIn_ca {big a b : List Cond} {c : Cond} (ha : GoodIn big (c :: a)) (hb : GoodIn big b) : GoodIn big (c :: (a ++ b)) := fun w h => (List.mem_cons.mp h).elim (fun e => ha w (List.mem_cons.mpr (Or.inl e))) (fun h => (List.mem_append.mp h).elim (fun h => ha w (List.mem_cons.mpr (Or.inr h))) (hb w))
theorem goodIn_sub {big ws : List Cond} (hm : ∀ w ∈ ws, w ∈ big) (h : ws.all goodWord = true) : GoodIn big ws := fun w hw => ⟨hm w hw, good_of_word (List.all_eq_true.mp h w hw)⟩
/-! ===== END ===== -/

/-! ===== BEGIN exceptions that leave a method, and their catching by the caller (launches without stack traces) ===== -/
section VXA
/-! The laws vx_back, vx_callV, vx_callS, vx_callSW, vx_throw0, vx_throwS follow proofs of the library, with one case more: JvmDerived/Free/Laws.lean (Back.of_free), Shelf42/LK1.lean (callV, callS), Shelf/KitTraced.lean (throwNew0V, throwNewS). -/
/-- where a method has thrown q: the class by its name, the cell, what was written, the world -/
def vx_T (XC : String → State → State → Prop) (st : State) (q : Addr) (t : State) (mc ms : Nat) (free : Addr → Prop) : Prop :=
  ∃ (E : String) (ce : Cell) (L : List Loc), XC E st t ∧ t.heap[q]? = some ce ∧ ce.vm = .none ∧ st.vm.findClass E = some ce.cls ∧ st.WarmedH t.vm ∧ st.sameButNew ({ t with vm := st.vm } : State) L mc ms ∧ ∀ z ∈ L, free z.base
def vx_Q (Qc : Array Value → State → Outcome → State → Prop) (XC : String → State → State → Prop) (mc ms : Nat) (free : Addr → Prop) : Array Value → State → Outcome → State → Prop := fun a st o t =>
  (Qc a st o t ∧ ∃ L, FrameEnd st o t L mc ms ∧ ∀ q ∈ L, free q.base) ∨ ∃ q, o = .threw q ∧ vx_T XC st q t mc ms free
/-- a callee that returns or throws -/
def vx_Met (l : Launch) (y : MethodName) (ws : List Cond) (rm : Room) (Pc : Array Value → State → Prop) (Qc : Array Value → State → Outcome → State → Prop) (XC : String → State → State → Prop) (mc ms : Nat) (free : Addr → Prop) : Prop :=
  MetFree l y (headSpec ws rm) Pc (fun _ _ _ _ _ => True) (vx_Q Qc XC mc ms free)
def vx_Post (XC : String → State → State → Prop) (mc ms : Nat) (free : Addr → Prop) : Pt → Array Value → Addr → Pt → Prop := fun A a q B =>
  ∃ (g : JFrame) (mk : MethodId) (t : State) (L : List Loc) (E : String) (ce : Cell), B.U.heap = t.heap ∧ B.U.vm = t.vm ∧ XC E (A.U.calling g mk a) t ∧ t.heap[q]? = some ce ∧ ce.vm = .none ∧ A.U.vm.findClass E = some ce.cls ∧ B.locs = A.locs ++ L ∧ (∀ z ∈ L, free z.base) ∧ B.cells = A.cells + mc ∧ B.slots = A.slots + ms
def vx_Back (l : Launch) (R : Room) (p : Program) (e : Env) (below : List Frame) (s : State) (sargs : Array Value) (y : MethodName) (len W9 : Nat)
    (Pre : Pt → Array Value → Prop) (Post : Pt → Array Value → Option Value → Pt → Prop) (PostX : Pt → Array Value → Addr → Pt → Prop) : Prop :=
  ∀ (m : MethodId) (meth : Method) (c : Code) (A : Pt) (g : JFrame) (ig : Instr) (mk : MethodId) (a : Array Value),
    Stand p l e R s m sargs below meth c A.U A.locs A.cells A.slots → g.method = m → g.locals.size = c.maxLocals → decode c.code g.pc = .ok (ig, len) →
    2 * g.monitorRoom + (g.stack.map fun v => v.category).sum ≤ W9 → A.U.methodNamed? y = some mk → Pre A a →
    (∃ (v : Option Value) (B : Pt), Stand p l e R s m sargs below meth c B.U B.locs B.cells B.slots ∧ Post A a v B ∧
      Steps p.tables e below (doInvoke e (A.U.setTop g) [] mk a).1 (B.U.setTop { g with pc := g.pc + len, stack := v.toList ++ g.stack })) ∨
    (∃ (q : Addr) (B : Pt), Stand p l e R s m sargs below meth c B.U B.locs B.cells B.slots ∧ PostX A a q B ∧
      Steps p.tables e below (doInvoke e (A.U.setTop g) [] mk a).1 ((B.U.setTop g).pushFrame (.throwing q)))
section Payer
variable {l : Launch} {R : Room} {p : Program} {e : Env} {below : List Frame} {s : State} {sargs : Array Value} {y : MethodName} {len W9 : Nat}
theorem vx_back {ws : List Cond} {rm : Room} {Pc : Array Value → State → Prop} {Qc : Array Value → State → Outcome → State → Prop} {XC : String → State → State → Prop} {mc ms : Nat} {free : Addr → Prop} {bytes : ByteArray} {maxL : Nat} {ret : Option FieldType}
    (hM : vx_Met l y ws rm Pc Qc XC mc ms free) (hblind : FrameBlind Pc) (hrc : rm.cells = mc) (hrs : rm.slots = ms)
    (hframes : rm.frames + 1 ≤ R.frames) (hlocals : W9 + (maxL + 11) + rm.locals ≤ R.locals)
    (hws : ∀ w ∈ ws, ∀ a' U, s.WarmedH U.vm → w.before a' U = true) (hcode : Cond.code y bytes maxL ret ∈ ws) (hinit : ∀ a' U, s.WarmedH U.vm → (Cond.initialized y.cls).before a' U = true) :
    vx_Back l R p e below s sargs y len W9 (PreOf R mc ms Pc) (PostOf Qc mc ms free) (vx_Post XC mc ms free) := by
  intro m meth c A g ig mk a X hg hsize hdg hW hn hp
  have h1 : (headSpec ws rm).pre.before a A.U = true := atoms_intro fun w hw => hws w hw _ _ X.warmed
  have h2 : (Cond.code y bytes maxL ret).before a A.U = true := hws _ hcode _ _ X.warmed
  have h3 : (Cond.initialized y.cls).before a A.U = true := hinit _ _ X.warmed
  have h4 : A.cells + (headSpec ws rm).room.cells ≤ R.cells := by rw [show (headSpec ws rm).room.cells = mc from hrc]; exact hp.1
  have h5 : A.slots + (headSpec ws rm).room.slots ≤ R.slots := by rw [show (headSpec ws rm).room.slots = ms from hrs]; exact hp.2.1
  have hPc : Pc a (A.U.calling g mk a) := hblind _ _ _ _ hp.2.2
  obtain ⟨U, Ls, c0, s0⟩ := A
  dsimp only [Pt.U, Pt.locs, Pt.cells, Pt.slots] at h1 h2 h3 h4 h5 X hn hPc ⊢
  obtain ⟨methY, cY, hmY, hcY, -, hlY, -, -, -, -⟩ := Cond.code_spec hn h2
  obtain ⟨kY, hkY, -⟩ := className_of_methodNamed hn
  have hinitY : kY.init = .initialized := Cond.initialized_spec (findClass_of_methodNamed hn) hkY h3
  have h : At U g.method c below := by rw [hg]; exact X.here
  have hlocals9 : W9 + (maxL + 11) + (headSpec ws rm).room.locals ≤ R.locals := hlocals
  have happ : (headSpec ws rm).appliesLoose y e.platform (U.calling g mk a) = true :=
    Spec.appliesLoose_calling (g := g) h hdg hn hkY hinitY
      (X.room_calling (g := g) (R' := (headSpec ws rm).room) hsize hmY hcY hframes (by rw [hlY]; omega) h4 h5) h1
  obtain ⟨mid, hmid⟩ := h.above
  have hfr : (U.setTop g).frames = (.java g :: mid) ++ below := by rw [State.frames_setTop' g h.top, hmid]; rfl
  obtain ⟨o, s₂, hsteps, -, hend, hq⟩ := Steps.callFree hM p X.admits X.cas X.clock (acts := []) hfr happ hPc trivial
  have hq' : vx_Q Qc XC mc ms free a (U.calling g mk a) o s₂ := hq
  rw [State.frames_setTop' g h.top] at hend
  obtain ⟨g₀, hg0⟩ := Option.isSome_iff_exists.mp h.top
  obtain ⟨r, hr⟩ := State.topJava?_eq_some.mp hg0
  have hr' : (({ U with heap := s₂.heap, slotsUsed := s₂.slotsUsed } : State).setVm s₂.vm).frames = .java g₀ :: r := hr
  rcases hq' with ⟨hqc, L, hfe, hL⟩ | ⟨q, rfl, E, ce, L, hx, hce, hcv, hcl, hW₂, hsm, hL⟩
  · obtain ⟨⟨v, rfl⟩, hW₂, e2, q2, q3, q4, q5, q6⟩ := id hfe
    have e3 : s₂ = ({ (U.calling g mk a).setFrames s₂.frames with heap := s₂.heap, slotsUsed := s₂.slotsUsed } : State).setVm s₂.vm := by
      have : s₂ = ({ s₂ with vm := (U.calling g mk a).vm } : State).setVm s₂.vm := rfl
      rw [e2] at this
      exact this
    obtain ⟨c₂, i₂, len₂, hc₂, hd₂, hf₂⟩ := hend
    have hW' : U.WarmedH s₂.vm := hW₂
    have hcc : c₂ = c := by
      have h1 : s₂.code? g.method = U.code? g.method := by
        rw [State.code?_eq, State.code?_eq, hW'.alike.method?]
      exact Option.some.inj (hc₂.symm.trans (h1.trans h.code))
    subst hcc
    have hlen : len₂ = len := by rw [hdg] at hd₂; cases hd₂; rfl
    subst hlen
    have hs₂ : s₂ = (({ U with heap := s₂.heap, slotsUsed := s₂.slotsUsed } : State).setVm s₂.vm).setTop { g with pc := g.pc + len₂, stack := v.toList ++ g.stack } := by
      refine e3.trans ?_
      rw [hf₂, State.calling_eq h.top, State.setFrames_setFrames, State.setTop_of_frames _ hr', hr]
      rfl
    have hsame : U.sameButNew ({ U with heap := s₂.heap, slotsUsed := s₂.slotsUsed } : State) L mc ms := by
      refine ⟨?_, q2, q3, q4, q5, q6⟩
      obtain ⟨t, ht, -⟩ := State.frames_cons hr
      show ({ U with heap := s₂.heap, slotsUsed := s₂.slotsUsed } : State) = { U.setFrames U.frames with heap := s₂.heap, slotsUsed := s₂.slotsUsed }
      rw [State.setFrames_self ht]
    subst hg
    refine Or.inl ⟨v, ⟨(({ U with heap := s₂.heap, slotsUsed := s₂.slotsUsed } : State).setVm s₂.vm), Ls ++ L, c0 + mc, s0 + ms⟩,
      ⟨X.admits, X.cas, X.clock, X.frames, X.room, X.hears, X.method, X.code, (X.here.setHeapUsed s₂.heap s₂.slotsUsed).setVm hW'.alike, X.tail, State.WarmedH.trans X.warmed hW', X.limits, X.bytes, X.same.trans (hsame.setVm s.vm)⟩,
      ⟨g, mk, s₂, L, rfl, rfl, hqc, rfl, hL, rfl, rfl⟩, ?_⟩
    show Steps p.tables e below _ ((({ U with heap := s₂.heap, slotsUsed := s₂.slotsUsed } : State).setVm s₂.vm).setTop { g with pc := g.pc + len₂, stack := v.toList ++ g.stack })
    rw [← hs₂]
    exact hsteps
  · obtain ⟨e2, q2, q3, q4, q5, q6⟩ := id hsm
    have e3 : s₂ = ({ (U.calling g mk a).setFrames s₂.frames with heap := s₂.heap, slotsUsed := s₂.slotsUsed } : State).setVm s₂.vm := by
      have : s₂ = ({ s₂ with vm := (U.calling g mk a).vm } : State).setVm s₂.vm := rfl
      rw [e2] at this
      exact this
    have hf₂ : s₂.frames = .throwing q :: .java g :: U.frames.tail := hend
    have hW' : U.WarmedH s₂.vm := hW₂
    have hs₂ : s₂ = ((({ U with heap := s₂.heap, slotsUsed := s₂.slotsUsed } : State).setVm s₂.vm).setTop g).pushFrame (.throwing q) := by
      refine e3.trans ?_
      rw [hf₂, State.calling_eq h.top, State.setFrames_setFrames, State.pushFrame, State.frames_setTop _ hr', State.setTop_of_frames _ hr', State.setFrames_setFrames, hr]
      rfl
    have hsame : U.sameButNew ({ U with heap := s₂.heap, slotsUsed := s₂.slotsUsed } : State) L mc ms := by
      refine ⟨?_, q2, q3, q4, q5, q6⟩
      obtain ⟨t, ht, -⟩ := State.frames_cons hr
      show ({ U with heap := s₂.heap, slotsUsed := s₂.slotsUsed } : State) = { U.setFrames U.frames with heap := s₂.heap, slotsUsed := s₂.slotsUsed }
      rw [State.setFrames_self ht]
    subst hg
    refine Or.inr ⟨q, ⟨(({ U with heap := s₂.heap, slotsUsed := s₂.slotsUsed } : State).setVm s₂.vm), Ls ++ L, c0 + mc, s0 + ms⟩,
      ⟨X.admits, X.cas, X.clock, X.frames, X.room, X.hears, X.method, X.code, (X.here.setHeapUsed s₂.heap s₂.slotsUsed).setVm hW'.alike, X.tail, State.WarmedH.trans X.warmed hW', X.limits, X.bytes, X.same.trans (hsame.setVm s.vm)⟩,
      ⟨g, mk, s₂, L, E, ce, rfl, rfl, hx, hce, hcv, hcl, rfl, hL, rfl, rfl⟩, ?_⟩
    show Steps p.tables e below _ (((({ U with heap := s₂.heap, slotsUsed := s₂.slotsUsed } : State).setVm s₂.vm).setTop g).pushFrame (.throwing q))
    rw [← hs₂]
    exact hsteps
end Payer
section Calls
variable {p : Program} {l : Launch} {e : Env} {R : Room} {s : State} {m : MethodId} {args : Array Value} {below : List Frame} {meth : Method} {c : Code} {T : State} {locs : List Loc} {cells slots : Nat}
theorem vx_callV (X : Stand p l e R s m args below meth c T locs cells slots) (hexec : p.tables.exec = Jvm.exec) {own C : String} {index : Nat} {y : MethodName} {bytes : ByteArray} {maxL : Nat} {ret : Option FieldType}
    (hown : s.vm.findClass own = some m.cls) (hlink : (Cond.methodLink own index y).before args s = true) (hinst : (Cond.instanceMethod y).before args s = true) (hsel : (Cond.selects C y y).before args s = true)
    (hcode : (Cond.code y bytes maxL ret).before args s = true) (hy : y.cls ≠ "java/lang/invoke/MethodHandle" ∧ y.cls ≠ "java/lang/invoke/VarHandle")
    {W9 : Nat} {Pre : Pt → Array Value → Prop} {Post : Pt → Array Value → Option Value → Pt → Prop} {PostX : Pt → Array Value → Addr → Pt → Prop} (hK : vx_Back l R p e below s args y 3 W9 Pre Post PostX)
    {b : Addr} {cellB : Cell} (hcell : T.heap[b]? = some cellB) (hobj : cellB.vm.isStatics = false) (hcls : s.vm.findClass C = some cellB.cls)
    {g : JFrame} (hg : g.method = m) (hsize : g.locals.size = c.maxLocals) {argsL rest : List Value} (hlen : ∀ sig, parseMethodDescriptor y.desc = some sig → argsL.length = sig.parameters.length)
    (hstack : g.stack = argsL.reverse ++ .ref b :: rest) (hW : 2 * g.monitorRoom + (rest.map fun v => v.category).sum ≤ W9) (hdg : decode c.code g.pc = .ok (.invokevirtual index, 3))
    (hpre : ∀ vm₁, s.WarmedH vm₁ → Pre ⟨T.setVm vm₁, locs, cells, slots⟩ (Value.ref b :: argsL).toArray) :
    (∃ (v : Option Value) (vm₁ : Vm) (B : Pt), s.WarmedH vm₁ ∧ Stand p l e R s m args below meth c B.U B.locs B.cells B.slots ∧ Post ⟨T.setVm vm₁, locs, cells, slots⟩ (Value.ref b :: argsL).toArray v B ∧
      ∀ target, Steps p.tables e below (B.U.setTop { g with pc := g.pc + 3, stack := v.toList ++ rest }) target → Steps p.tables e below (T.setTop g) target) ∨
    (∃ (q : Addr) (vm₁ : Vm) (B : Pt), s.WarmedH vm₁ ∧ Stand p l e R s m args below meth c B.U B.locs B.cells B.slots ∧ PostX ⟨T.setVm vm₁, locs, cells, slots⟩ (Value.ref b :: argsL).toArray q B ∧
      Steps p.tables e below (T.setTop g) ((B.U.setTop { g with stack := rest }).pushFrame (.throwing q))) := by
  obtain ⟨mk, methM, hnamed, hmethM, hstM, habM⟩ := Cond.instanceMethod_spec hinst
  obtain ⟨methM', cM, hmethM', -, -, -, -, -, -, hsigM⟩ := Cond.code_spec hnamed hcode
  cases hmethM.symm.trans hmethM'
  obtain ⟨c2, r2, m2, q1, q2, q3, q4, kP, hkP, hkPi⟩ := Cond.selects_spec hsel
  cases hcls.symm.trans q1
  cases (State.methodFound?_of_named hnamed hy).symm.trans q2
  cases hnamed.symm.trans q3
  have hselP : selectMethod e.platform s.vm cellB.cls mk = .method mk := by rw [Launch.admits_selectMethod X.admits]; exact q4
  obtain ⟨vm₁, X₁, hstep₁⟩ := X.invokevirtual hexec hown hlink hnamed hmethM hstM hkP hkPi hy (a := b) (cell := cellB) hcell
    (fun z h => by rw [h] at hobj; cases hobj) hselP hmethM habM hkP hkPi (g := g) hg (argsL := argsL) (rest := rest) (hlen _ hsigM) hstack hdg
  rcases hK m meth c ⟨T.setVm vm₁, locs, cells, slots⟩ { g with stack := rest } (.invokevirtual index) mk (Value.ref b :: argsL).toArray X₁ hg hsize hdg hW (X₁.named hnamed) (hpre vm₁ X₁.warmed) with ⟨v, B, X', hpost, hsteps⟩ | ⟨q, B, X', hpost, hsteps⟩
  · exact Or.inl ⟨v, vm₁, B, X₁.warmed, X', hpost, fun target h => hstep₁ _ fun acts => by rw [doInvoke_state]; exact hsteps.trans h⟩
  · exact Or.inr ⟨q, vm₁, B, X₁.warmed, X', hpost, hstep₁ _ fun acts => by rw [doInvoke_state]; exact hsteps⟩
theorem vx_callS (X : Stand p l e R s m args below meth c T locs cells slots) (hexec : p.tables.exec = Jvm.exec) {own : String} {index : Nat} {y : MethodName} {bytes : ByteArray} {maxL : Nat} {ret : Option FieldType}
    (hown : s.vm.findClass own = some m.cls) (hlink : (Cond.methodLink own index y).before args s = true) (hstat : (Cond.static y).before args s = true) (hinit : (Cond.initialized y.cls).before args s = true)
    (hcode : (Cond.code y bytes maxL ret).before args s = true) (hy : y.cls ≠ "java/lang/invoke/MethodHandle" ∧ y.cls ≠ "java/lang/invoke/VarHandle")
    {W9 : Nat} {Pre : Pt → Array Value → Prop} {Post : Pt → Array Value → Option Value → Pt → Prop} {PostX : Pt → Array Value → Addr → Pt → Prop} (hK : vx_Back l R p e below s args y 3 W9 Pre Post PostX)
    {g : JFrame} (hg : g.method = m) (hsize : g.locals.size = c.maxLocals) {argsL rest : List Value} (hlen : ∀ sig, parseMethodDescriptor y.desc = some sig → argsL.length = sig.parameters.length)
    (hstack : g.stack = argsL.reverse ++ rest) (hW : 2 * g.monitorRoom + (rest.map fun v => v.category).sum ≤ W9) (hdg : decode c.code g.pc = .ok (.invokestatic index, 3))
    (hpre : ∀ vm₁, s.WarmedH vm₁ → Pre ⟨T.setVm vm₁, locs, cells, slots⟩ argsL.toArray) :
    (∃ (v : Option Value) (vm₁ : Vm) (B : Pt), s.WarmedH vm₁ ∧ Stand p l e R s m args below meth c B.U B.locs B.cells B.slots ∧ Post ⟨T.setVm vm₁, locs, cells, slots⟩ argsL.toArray v B ∧
      ∀ target, Steps p.tables e below (B.U.setTop { g with pc := g.pc + 3, stack := v.toList ++ rest }) target → Steps p.tables e below (T.setTop g) target) ∨
    (∃ (q : Addr) (vm₁ : Vm) (B : Pt), s.WarmedH vm₁ ∧ Stand p l e R s m args below meth c B.U B.locs B.cells B.slots ∧ PostX ⟨T.setVm vm₁, locs, cells, slots⟩ argsL.toArray q B ∧
      Steps p.tables e below (T.setTop g) ((B.U.setTop { g with stack := rest }).pushFrame (.throwing q))) := by
  obtain ⟨mk, hnamed⟩ := Cond.code_named hcode
  obtain ⟨methM, cM, hmethM, -, -, -, -, -, -, hsigM⟩ := Cond.code_spec hnamed hcode
  have hstatic : methM.isStatic = true := Cond.static_spec hnamed hmethM hstat
  obtain ⟨kP, hkP, -⟩ := className_of_methodNamed hnamed
  have hinitP : kP.init = .initialized := Cond.initialized_spec (findClass_of_methodNamed hnamed) hkP hinit
  obtain ⟨vm₁, X₁, hstep₁⟩ := X.invokestatic hexec hown hlink hnamed hmethM hstatic hkP hinitP hy (g := g) hg (argsL := argsL) (rest := rest) (hlen _ hsigM) hstack hdg
  rcases hK m meth c ⟨T.setVm vm₁, locs, cells, slots⟩ { g with stack := rest } (.invokestatic index) mk argsL.toArray X₁ hg hsize hdg hW (X₁.named hnamed) (hpre vm₁ X₁.warmed) with ⟨v, B, X', hpost, hsteps⟩ | ⟨q, B, X', hpost, hsteps⟩
  · exact Or.inl ⟨v, vm₁, B, X₁.warmed, X', hpost, fun target h => hstep₁ _ fun acts => by rw [doInvoke_state]; exact hsteps.trans h⟩
  · exact Or.inr ⟨q, vm₁, B, X₁.warmed, X', hpost, hstep₁ _ fun acts => by rw [doInvoke_state]; exact hsteps⟩
end Calls
theorem vx_cls {s : State} {T : State} {vm₁ : Vm} {E : String} {k : ClassId} (hW : s.WarmedH vm₁) (h : (T.setVm vm₁).vm.findClass E = some k) : s.vm.findClass E = some k := by
  have h1 : vm₁.findClass E = some k := h
  rw [hW.alike.findClass] at h1
  exact h1
/-- the method's frame g, with q thrown over it -/
def vx_W (p : Program) (l : Launch) (e : Env) (R : Room) (s : State) (m : MethodId) (args : Array Value) (below : List Frame) (meth : Method) (c : Code) (H : Heap) (locs : List Loc) (cells slots : Nat) (Q : State → Prop) (g : JFrame) (q : Addr) : Prop :=
  ∀ T : State, T.heap = H → Stand p l e R s m args below meth c T locs cells slots → ∃ t, Steps p.tables e below ((T.setTop g).pushFrame (.throwing q)) t ∧ Q t
def vx_Run (p : Program) (l : Launch) (e : Env) (R : Room) (s : State) (m : MethodId) (args : Array Value) (below : List Frame) (meth : Method) (c : Code) (H : Heap) (locs : List Loc) (cells slots mc ms : Nat) (g : JFrame) (rest : List Value) (Qa : State → Outcome → State → Prop) (XC : String → State → State → Prop) (free : Addr → Prop) : Prop :=
  ∀ T : State, T.heap = H → Stand p l e R s m args below meth c T locs cells slots →
    (∃ (v : Option Value) (st₀ t T' : State) (L : List Loc), st₀.heap = H ∧ Stand p l e R s m args below meth c T' (locs ++ L) (cells + mc) (slots + ms) ∧ (∀ q ∈ L, free q.base) ∧ T'.heap = t.heap ∧ T'.vm = t.vm ∧ Qa st₀ (.returned v) t ∧
      Goes p e below T g T' { g with pc := g.pc + 3, stack := v.toList ++ rest }) ∨
    (∃ (q : Addr) (st₀ t T' : State) (L : List Loc) (E : String) (ce : Cell), st₀.heap = H ∧ Stand p l e R s m args below meth c T' (locs ++ L) (cells + mc) (slots + ms) ∧ (∀ z ∈ L, free z.base) ∧ T'.heap = t.heap ∧ T'.vm = t.vm ∧ XC E st₀ t ∧ t.heap[q]? = some ce ∧ ce.vm = .none ∧ s.vm.findClass E = some ce.cls ∧
      Steps p.tables e below (T.setTop g) ((T'.setTop { g with stack := rest }).pushFrame (.throwing q)))
def vx_X {S : Type} (px : S → Prop) (B : String → S → State → Prop) (A : Nat → Prop) : String → State → State → Prop := fun E st t => ∃ u : S, px u ∧ B E u t ∧ va_F A st t
section Runs
variable {p : Program} {l : Launch} {e : Env} {R : Room} {s : State} {m : MethodId} {args : Array Value} {below : List Frame} {meth : Method} {c : Code} {H : Heap} {locs : List Loc} {cells slots : Nat}
variable {y : MethodName} {bytes cc : ByteArray} {maxL nL mc ms n index : Nat} {ret : Option FieldType} {ws : List Cond} {rm : Room} {Pc : Array Value → State → Prop} {Qc : Array Value → State → Outcome → State → Prop} {XC : String → State → State → Prop} {free : Addr → Prop} {Ts : List Cond} {own C : String} {b : Addr} {As rest : List Value} {g : JFrame}
theorem vx_callBack (cb : CallB R s args own index y bytes maxL ret ws rm mc ms n) (hM : vx_Met l y ws rm Pc Qc XC mc ms free) (hbl : FrameBlind Pc) : vx_Back l R p e below s args y 3 8 (PreOf R mc ms Pc) (PostOf Qc mc ms free) (vx_Post XC mc ms free) := by
  obtain ⟨hrc, hrs, hfr, hlo, hws, hcw, -, hini, -⟩ := cb
  exact vx_back (bytes := bytes) (maxL := maxL) (ret := ret) hM hbl hrc hrs hfr hlo hws hcw (fun a' U hW => word_at hW (Or.inl (by first | rfl | simp [Cond.onTables, Cond.keeps, Cond.steady])) hini)
theorem vx_runV (S : CallFix p m c cc nL s args Ts own) (hM : vx_Met l y ws rm Pc Qc XC mc ms free) (cw : CallW R s args own C index y bytes maxL ret ws rm mc ms n) (hp : PreV s H C b Pc As)
    (hg : g.method = m) (hn : As.length = n) (hsize : g.locals.size = nL) (hstack : g.stack = As.reverse ++ .ref b :: rest) (hW : 2 * g.monitorRoom + (rest.map fun v => v.category).sum ≤ 8) (hdg : decode cc g.pc = .ok (.invokevirtual index, 3)) (hf : cells + mc ≤ R.cells ∧ slots + ms ≤ R.slots) :
    vx_Run p l e R s m args below meth c H locs cells slots mc ms g rest (Qc (Value.ref b :: As).toArray) XC free := by
  have hK : vx_Back l R p e below s args y 3 8 (PreOf R mc ms Pc) (PostOf Qc mc ms free) (vx_Post XC mc ms free) := vx_callBack cw.1 hM hp.1
  obtain ⟨⟨-, -, -, -, -, -, hcode, -, hy, hlen, hl⟩, hin, hse⟩ := cw
  obtain ⟨hx, hb, hml, ho, -⟩ := S
  obtain ⟨-, ⟨cellB, hcB, hoB, hclB⟩, hPc⟩ := hp
  intro T hT X
  rcases vx_callV X hx (C := C) (bytes := bytes) (maxL := maxL) (ret := ret) ho hl hin hse hcode hy hK (by rw [hT]; exact hcB) hoB hclB hg (hsize.trans hml.symm) (argsL := As) (rest := rest) (fun sig h => hn.trans (hlen sig h)) hstack hW (by rw [hb]; exact hdg)
    (fun vm₁ hW₁ => ⟨hf.1, hf.2, hPc (T.setVm vm₁) hT hW₁⟩) with ⟨v, vm₁, ⟨U', l2, c2, s2⟩, hW₁, X', ⟨g', mk, t, L, e1, e2, hq, h1, hL, h2, h3⟩, st⟩ | ⟨q, vm₁, ⟨U', l2, c2, s2⟩, hW₁, X', ⟨g', mk, t, L, E, ce, e1, e2, hq, hce, hcv, hcl, h1, hL, h2, h3⟩, st⟩
  · dsimp only [Pt.U, Pt.locs, Pt.cells, Pt.slots] at X' e1 e2 h1 h2 h3 st
    subst h1; subst h2; subst h3
    exact Or.inl ⟨v, (T.setVm vm₁).calling g' mk (Value.ref b :: As).toArray, t, U', L, hT, X', hL, e1, e2, hq, st⟩
  · dsimp only [Pt.U, Pt.locs, Pt.cells, Pt.slots] at X' e1 e2 h1 h2 h3 st hcl
    subst h1; subst h2; subst h3
    exact Or.inr ⟨q, (T.setVm vm₁).calling g' mk (Value.ref b :: As).toArray, t, U', L, E, ce, hT, X', hL, e1, e2, hq, hce, hcv, vx_cls hW₁ hcl, st⟩
theorem vx_runS (S : CallFix p m c cc nL s args Ts own) (hM : vx_Met l y ws rm Pc Qc XC mc ms free) (cw : CallB R s args own index y bytes maxL ret ws rm mc ms n ∧ (Cond.static y).before args s = true) (hp : PreS s H Pc As)
    (hg : g.method = m) (hn : As.length = n) (hsize : g.locals.size = nL) (hstack : g.stack = As.reverse ++ rest) (hW : 2 * g.monitorRoom + (rest.map fun v => v.category).sum ≤ 8) (hdg : decode cc g.pc = .ok (.invokestatic index, 3)) (hf : cells + mc ≤ R.cells ∧ slots + ms ≤ R.slots) :
    vx_Run p l e R s m args below meth c H locs cells slots mc ms g rest (Qc As.toArray) XC free := by
  have hK : vx_Back l R p e below s args y 3 8 (PreOf R mc ms Pc) (PostOf Qc mc ms free) (vx_Post XC mc ms free) := vx_callBack cw.1 hM hp.1
  obtain ⟨⟨-, -, -, -, -, -, hcode, hini, hy, hlen, hl⟩, hstt⟩ := cw
  obtain ⟨hx, hb, hml, ho, -⟩ := S
  intro T hT X
  rcases vx_callS X hx (bytes := bytes) (maxL := maxL) (ret := ret) ho hl hstt hini hcode hy hK hg (hsize.trans hml.symm) (argsL := As) (rest := rest) (fun sig h => hn.trans (hlen sig h)) hstack hW (by rw [hb]; exact hdg)
    (fun vm₁ hW₁ => ⟨hf.1, hf.2, hp.2 (T.setVm vm₁) hT hW₁⟩) with ⟨v, vm₁, ⟨U', l2, c2, s2⟩, hW₁, X', ⟨g', mk, t, L, e1, e2, hq, h1, hL, h2, h3⟩, st⟩ | ⟨q, vm₁, ⟨U', l2, c2, s2⟩, hW₁, X', ⟨g', mk, t, L, E, ce, e1, e2, hq, hce, hcv, hcl, h1, hL, h2, h3⟩, st⟩
  · dsimp only [Pt.U, Pt.locs, Pt.cells, Pt.slots] at X' e1 e2 h1 h2 h3 st
    subst h1; subst h2; subst h3
    exact Or.inl ⟨v, (T.setVm vm₁).calling g' mk As.toArray, t, U', L, hT, X', hL, e1, e2, hq, st⟩
  · dsimp only [Pt.U, Pt.locs, Pt.cells, Pt.slots] at X' e1 e2 h1 h2 h3 st hcl
    subst h1; subst h2; subst h3
    exact Or.inr ⟨q, (T.setVm vm₁).calling g' mk As.toArray, t, U', L, E, ce, hT, X', hL, e1, e2, hq, hce, hcv, vx_cls hW₁ hcl, st⟩
end Runs
section Rows
variable {p : Program} {l : Launch} {e : Env} {R : Room} {s : State} {m : MethodId} {args : Array Value} {below : List Frame} {meth : Method} {c : Code} {H : Heap} {locs : List Loc} {cells slots : Nat} {Q : State → Prop}
variable {mc ms : Nat} {free : Addr → Prop} {A0 A1 : Nat → Prop} {H0 : Heap} {a : Array Value} {pc : Nat} {ls : Array Slot} {st0 rest : List Value}
theorem vx_keep {st₀ t T' : State} {L : List Loc} (h0 : st₀.heap = H) (e1 : T'.heap = t.heap) (hS : va_S A0 H0 H locs) (hA : ∀ q, q < H.size → A1 q → A0 q) (hf : ∀ q, free q → A0 q) (hL : ∀ q ∈ L, free q.base) (hF : va_F A1 st₀ t) :
    H.size ≤ T'.heap.size ∧ (∀ q : Nat, q < H.size → ¬ A1 q → T'.heap[q]? = H[q]?) ∧ va_S A0 H0 T'.heap (locs ++ L) := by
  obtain ⟨hz, hk⟩ := hF
  rw [h0] at hz hk
  exact ⟨by rw [e1]; exact hz, fun q h1 h2 => by rw [e1]; exact hk q h1 h2,
    ⟨Nat.le_trans hS.1 (by rw [e1]; exact hz), fun q h1 h2 => by rw [e1, hk q (Nat.lt_of_lt_of_le h1 hS.1) (fun z => h2 (hA q (Nat.lt_of_lt_of_le h1 hS.1) z))]; exact hS.2.1 q h1 h2, fun q hq => by
      rcases List.mem_append.mp hq with h | h
      · exact hS.2.2 q h
      · exact hf _ (hL q h)⟩⟩
theorem vx_calli {S SX : Type} {post : Int32 → S → Prop} {px : SX → Prop} {B : S → State → Prop} {BX : String → SX → State → Prop} {AX : Nat → Prop} (hr : vx_Run p l e R s m args below meth c H locs cells slots mc ms (F0 m pc ls st0) rest (va_Qi post B A1 a) (vx_X px BX AX) free) (hS : va_S A0 H0 H locs) (hA : ∀ q, q < H.size → A1 q → A0 q) (hf : ∀ q, free q → A0 q) (hAX : ∀ q, q < H.size → AX q → A0 q)
    (kx : ∀ (E : String) (ce : Cell) (q9 : Addr) (u : SX) (t : State) (H1 : Heap) (locs1 : List Loc), t.heap = H1 → s.vm.Alike t.vm → px u → BX E u t → H.size ≤ H1.size → (∀ q : Nat, q < H.size → ¬ AX q → H1[q]? = H[q]?) → va_S A0 H0 H1 locs1 → H1[q9]? = some ce → ce.vm = .none → s.vm.findClass E = some ce.cls → vx_W p l e R s m args below meth c H1 locs1 (cells + mc) (slots + ms) Q (F0 m pc ls rest) q9)
    (kk : ∀ (r : Int32) (u : S) (t : State) (H1 : Heap) (locs1 : List Loc), t.heap = H1 → s.vm.Alike t.vm → post r u → B u t → H.size ≤ H1.size → (∀ q : Nat, q < H.size → ¬ A1 q → H1[q]? = H[q]?) → va_S A0 H0 H1 locs1 → W p l e R s m args below meth c H1 locs1 (cells + mc) (slots + ms) Q (F0 m (pc + 3) ls (.int r :: rest))) : W p l e R s m args below meth c H locs cells slots Q (F0 m pc ls st0) := by
  intro T hT X
  rcases hr T hT X with ⟨v, st₀, t, T', L, h0, X', hL, e1, e2, ⟨⟨r, u, hv, hp, hb⟩, hF⟩, st⟩ | ⟨q, st₀, t, T', L, E, ce, h0, X', hL, e1, e2, ⟨u, hp, hb, hF⟩, hce, hcv, hcl, st⟩
  · cases hv
    obtain ⟨k1, k2, k3⟩ := vx_keep h0 e1 hS hA hf hL hF
    obtain ⟨t2, a1, b1⟩ := kk r u t T'.heap (locs ++ L) e1.symm (by rw [← e2]; exact X'.warmed.alike) hp hb k1 k2 k3 T' rfl X'
    exact ⟨t2, st t2 a1, b1⟩
  · obtain ⟨k1, k2, k3⟩ := vx_keep h0 e1 hS hAX hf hL hF
    obtain ⟨t2, a1, b1⟩ := kx E ce q u t T'.heap (locs ++ L) e1.symm (by rw [← e2]; exact X'.warmed.alike) hp hb k1 k2 k3 (by rw [e1]; exact hce) hcv hcl T' rfl X'
    exact ⟨t2, st.trans a1, b1⟩
theorem vx_calll {S SX : Type} {post : Int64 → S → Prop} {px : SX → Prop} {B : S → State → Prop} {BX : String → SX → State → Prop} {AX : Nat → Prop} (hr : vx_Run p l e R s m args below meth c H locs cells slots mc ms (F0 m pc ls st0) rest (va_Ql post B A1 a) (vx_X px BX AX) free) (hS : va_S A0 H0 H locs) (hA : ∀ q, q < H.size → A1 q → A0 q) (hf : ∀ q, free q → A0 q) (hAX : ∀ q, q < H.size → AX q → A0 q)
    (kx : ∀ (E : String) (ce : Cell) (q9 : Addr) (u : SX) (t : State) (H1 : Heap) (locs1 : List Loc), t.heap = H1 → s.vm.Alike t.vm → px u → BX E u t → H.size ≤ H1.size → (∀ q : Nat, q < H.size → ¬ AX q → H1[q]? = H[q]?) → va_S A0 H0 H1 locs1 → H1[q9]? = some ce → ce.vm = .none → s.vm.findClass E = some ce.cls → vx_W p l e R s m args below meth c H1 locs1 (cells + mc) (slots + ms) Q (F0 m pc ls rest) q9)
    (kk : ∀ (r : Int64) (u : S) (t : State) (H1 : Heap) (locs1 : List Loc), t.heap = H1 → s.vm.Alike t.vm → post r u → B u t → H.size ≤ H1.size → (∀ q : Nat, q < H.size → ¬ A1 q → H1[q]? = H[q]?) → va_S A0 H0 H1 locs1 → W p l e R s m args below meth c H1 locs1 (cells + mc) (slots + ms) Q (F0 m (pc + 3) ls (.long r :: rest))) : W p l e R s m args below meth c H locs cells slots Q (F0 m pc ls st0) := by
  intro T hT X
  rcases hr T hT X with ⟨v, st₀, t, T', L, h0, X', hL, e1, e2, ⟨⟨r, u, hv, hp, hb⟩, hF⟩, st⟩ | ⟨q, st₀, t, T', L, E, ce, h0, X', hL, e1, e2, ⟨u, hp, hb, hF⟩, hce, hcv, hcl, st⟩
  · cases hv
    obtain ⟨k1, k2, k3⟩ := vx_keep h0 e1 hS hA hf hL hF
    obtain ⟨t2, a1, b1⟩ := kk r u t T'.heap (locs ++ L) e1.symm (by rw [← e2]; exact X'.warmed.alike) hp hb k1 k2 k3 T' rfl X'
    exact ⟨t2, st t2 a1, b1⟩
  · obtain ⟨k1, k2, k3⟩ := vx_keep h0 e1 hS hAX hf hL hF
    obtain ⟨t2, a1, b1⟩ := kx E ce q u t T'.heap (locs ++ L) e1.symm (by rw [← e2]; exact X'.warmed.alike) hp hb k1 k2 k3 (by rw [e1]; exact hce) hcv hcl T' rfl X'
    exact ⟨t2, st.trans a1, b1⟩
theorem vx_callf {S SX : Type} {post : UInt32 → S → Prop} {px : SX → Prop} {B : S → State → Prop} {BX : String → SX → State → Prop} {AX : Nat → Prop} (hr : vx_Run p l e R s m args below meth c H locs cells slots mc ms (F0 m pc ls st0) rest (va_Qf post B A1 a) (vx_X px BX AX) free) (hS : va_S A0 H0 H locs) (hA : ∀ q, q < H.size → A1 q → A0 q) (hf : ∀ q, free q → A0 q) (hAX : ∀ q, q < H.size → AX q → A0 q)
    (kx : ∀ (E : String) (ce : Cell) (q9 : Addr) (u : SX) (t : State) (H1 : Heap) (locs1 : List Loc), t.heap = H1 → s.vm.Alike t.vm → px u → BX E u t → H.size ≤ H1.size → (∀ q : Nat, q < H.size → ¬ AX q → H1[q]? = H[q]?) → va_S A0 H0 H1 locs1 → H1[q9]? = some ce → ce.vm = .none → s.vm.findClass E = some ce.cls → vx_W p l e R s m args below meth c H1 locs1 (cells + mc) (slots + ms) Q (F0 m pc ls rest) q9)
    (kk : ∀ (r : UInt32) (u : S) (t : State) (H1 : Heap) (locs1 : List Loc), t.heap = H1 → s.vm.Alike t.vm → post r u → B u t → H.size ≤ H1.size → (∀ q : Nat, q < H.size → ¬ A1 q → H1[q]? = H[q]?) → va_S A0 H0 H1 locs1 → W p l e R s m args below meth c H1 locs1 (cells + mc) (slots + ms) Q (F0 m (pc + 3) ls (.float r :: rest))) : W p l e R s m args below meth c H locs cells slots Q (F0 m pc ls st0) := by
  intro T hT X
  rcases hr T hT X with ⟨v, st₀, t, T', L, h0, X', hL, e1, e2, ⟨⟨r, u, hv, hp, hb⟩, hF⟩, st⟩ | ⟨q, st₀, t, T', L, E, ce, h0, X', hL, e1, e2, ⟨u, hp, hb, hF⟩, hce, hcv, hcl, st⟩
  · cases hv
    obtain ⟨k1, k2, k3⟩ := vx_keep h0 e1 hS hA hf hL hF
    obtain ⟨t2, a1, b1⟩ := kk r u t T'.heap (locs ++ L) e1.symm (by rw [← e2]; exact X'.warmed.alike) hp hb k1 k2 k3 T' rfl X'
    exact ⟨t2, st t2 a1, b1⟩
  · obtain ⟨k1, k2, k3⟩ := vx_keep h0 e1 hS hAX hf hL hF
    obtain ⟨t2, a1, b1⟩ := kx E ce q u t T'.heap (locs ++ L) e1.symm (by rw [← e2]; exact X'.warmed.alike) hp hb k1 k2 k3 (by rw [e1]; exact hce) hcv hcl T' rfl X'
    exact ⟨t2, st.trans a1, b1⟩
theorem vx_calld {S SX : Type} {post : UInt64 → S → Prop} {px : SX → Prop} {B : S → State → Prop} {BX : String → SX → State → Prop} {AX : Nat → Prop} (hr : vx_Run p l e R s m args below meth c H locs cells slots mc ms (F0 m pc ls st0) rest (va_Qd post B A1 a) (vx_X px BX AX) free) (hS : va_S A0 H0 H locs) (hA : ∀ q, q < H.size → A1 q → A0 q) (hf : ∀ q, free q → A0 q) (hAX : ∀ q, q < H.size → AX q → A0 q)
    (kx : ∀ (E : String) (ce : Cell) (q9 : Addr) (u : SX) (t : State) (H1 : Heap) (locs1 : List Loc), t.heap = H1 → s.vm.Alike t.vm → px u → BX E u t → H.size ≤ H1.size → (∀ q : Nat, q < H.size → ¬ AX q → H1[q]? = H[q]?) → va_S A0 H0 H1 locs1 → H1[q9]? = some ce → ce.vm = .none → s.vm.findClass E = some ce.cls → vx_W p l e R s m args below meth c H1 locs1 (cells + mc) (slots + ms) Q (F0 m pc ls rest) q9)
    (kk : ∀ (r : UInt64) (u : S) (t : State) (H1 : Heap) (locs1 : List Loc), t.heap = H1 → s.vm.Alike t.vm → post r u → B u t → H.size ≤ H1.size → (∀ q : Nat, q < H.size → ¬ A1 q → H1[q]? = H[q]?) → va_S A0 H0 H1 locs1 → W p l e R s m args below meth c H1 locs1 (cells + mc) (slots + ms) Q (F0 m (pc + 3) ls (.double r :: rest))) : W p l e R s m args below meth c H locs cells slots Q (F0 m pc ls st0) := by
  intro T hT X
  rcases hr T hT X with ⟨v, st₀, t, T', L, h0, X', hL, e1, e2, ⟨⟨r, u, hv, hp, hb⟩, hF⟩, st⟩ | ⟨q, st₀, t, T', L, E, ce, h0, X', hL, e1, e2, ⟨u, hp, hb, hF⟩, hce, hcv, hcl, st⟩
  · cases hv
    obtain ⟨k1, k2, k3⟩ := vx_keep h0 e1 hS hA hf hL hF
    obtain ⟨t2, a1, b1⟩ := kk r u t T'.heap (locs ++ L) e1.symm (by rw [← e2]; exact X'.warmed.alike) hp hb k1 k2 k3 T' rfl X'
    exact ⟨t2, st t2 a1, b1⟩
  · obtain ⟨k1, k2, k3⟩ := vx_keep h0 e1 hS hAX hf hL hF
    obtain ⟨t2, a1, b1⟩ := kx E ce q u t T'.heap (locs ++ L) e1.symm (by rw [← e2]; exact X'.warmed.alike) hp hb k1 k2 k3 (by rw [e1]; exact hce) hcv hcl T' rfl X'
    exact ⟨t2, st.trans a1, b1⟩
theorem vx_callv {S SX : Type} {post : S → Prop} {px : SX → Prop} {B : S → State → Prop} {BX : String → SX → State → Prop} {AX : Nat → Prop} (hr : vx_Run p l e R s m args below meth c H locs cells slots mc ms (F0 m pc ls st0) rest (va_Qv post B A1 a) (vx_X px BX AX) free) (hS : va_S A0 H0 H locs) (hA : ∀ q, q < H.size → A1 q → A0 q) (hf : ∀ q, free q → A0 q) (hAX : ∀ q, q < H.size → AX q → A0 q)
    (kx : ∀ (E : String) (ce : Cell) (q9 : Addr) (u : SX) (t : State) (H1 : Heap) (locs1 : List Loc), t.heap = H1 → s.vm.Alike t.vm → px u → BX E u t → H.size ≤ H1.size → (∀ q : Nat, q < H.size → ¬ AX q → H1[q]? = H[q]?) → va_S A0 H0 H1 locs1 → H1[q9]? = some ce → ce.vm = .none → s.vm.findClass E = some ce.cls → vx_W p l e R s m args below meth c H1 locs1 (cells + mc) (slots + ms) Q (F0 m pc ls rest) q9)
    (kk : ∀ (u : S) (t : State) (H1 : Heap) (locs1 : List Loc), t.heap = H1 → s.vm.Alike t.vm → post u → B u t → H.size ≤ H1.size → (∀ q : Nat, q < H.size → ¬ A1 q → H1[q]? = H[q]?) → va_S A0 H0 H1 locs1 → W p l e R s m args below meth c H1 locs1 (cells + mc) (slots + ms) Q (F0 m (pc + 3) ls (rest))) : W p l e R s m args below meth c H locs cells slots Q (F0 m pc ls st0) := by
  intro T hT X
  rcases hr T hT X with ⟨v, st₀, t, T', L, h0, X', hL, e1, e2, ⟨⟨u, hv, hp, hb⟩, hF⟩, st⟩ | ⟨q, st₀, t, T', L, E, ce, h0, X', hL, e1, e2, ⟨u, hp, hb, hF⟩, hce, hcv, hcl, st⟩
  · cases hv
    obtain ⟨k1, k2, k3⟩ := vx_keep h0 e1 hS hA hf hL hF
    obtain ⟨t2, a1, b1⟩ := kk u t T'.heap (locs ++ L) e1.symm (by rw [← e2]; exact X'.warmed.alike) hp hb k1 k2 k3 T' rfl X'
    exact ⟨t2, st t2 a1, b1⟩
  · obtain ⟨k1, k2, k3⟩ := vx_keep h0 e1 hS hAX hf hL hF
    obtain ⟨t2, a1, b1⟩ := kx E ce q u t T'.heap (locs ++ L) e1.symm (by rw [← e2]; exact X'.warmed.alike) hp hb k1 k2 k3 (by rw [e1]; exact hce) hcv hcl T' rfl X'
    exact ⟨t2, st.trans a1, b1⟩
/-- caught by the row x of this method's table; the rows ahead don't take it -/
theorem vx_catch {own name : String} {E : String} {ce : Cell} {q : Addr} (hown : s.vm.findClass own = some m.cls) (pre : List ExceptionTableEntry) (x : ExceptionTableEntry) (suf : List ExceptionTableEntry) (hsplit : c.exceptionTable.toList = pre ++ x :: suf)
    (hpass : ∀ z ∈ pre, covers z pc = false ∨ (z.catchType ≠ 0 ∧ ∃ nm : String, (Cond.classLink own z.catchType nm).before args s = true ∧ va_Nc E nm s)) (hx : covers x pc = true) (h0 : x.catchType ≠ 0)
    (hlink : (Cond.classLink own x.catchType name).before args s = true) (hcast : (Cond.castable E name).before args s = true) (hcell : H[q]? = some ce) (hv : ce.vm = .none) (hcl : s.vm.findClass E = some ce.cls)
    (kk : W p l e R s m args below meth c H locs cells slots Q (F0 m x.handlerPc ls [.ref q])) : vx_W p l e R s m args below meth c H locs cells slots Q (F0 m pc ls rest) q := by
  intro T hT X
  have hpl : e.platform.magicAccessors = ({} : Platform).magicAccessors := by rw [X.admits.platform]
  obtain ⟨c3, c4, hc3, hc4, hasg⟩ := Cond.castable_spec hcast
  cases Option.some.inj (hc3.symm.trans hcl)
  obtain ⟨c5, hc5, hcl5⟩ := Cond.classLink_spec hown hlink e.platform hpl
  cases Option.some.inj (hc4.symm.trans hc5)
  obtain ⟨vm', X', st⟩ := X.thenCaughtThrough q (g := F0 m pc ls rest) rfl (Steps.refl _) (by rw [hT]; exact hcell) (by rw [hv]; rfl) (by obtain ⟨k9, h9, -⟩ := Vm.findClass_spec hcl; exact ⟨k9, h9⟩) pre x suf hsplit
    (fun z hz => by
      rcases hpass z hz with h | ⟨hz0, nm, hl1, hn1⟩
      · exact Or.inl h
      · obtain ⟨c6, hc6, hcl6⟩ := Cond.classLink_spec hown hl1 e.platform hpl
        obtain ⟨a8, b8, h1, h2, h3⟩ := hn1
        cases Option.some.inj (h1.symm.trans hcl)
        cases Option.some.inj (h2.symm.trans hc6)
        exact Or.inr ⟨hz0, _, hcl6, h3⟩) hx (Or.inr ⟨h0, c4, hcl5, hasg⟩)
  obtain ⟨t, a1, b1⟩ := kk (T.setVm vm') hT X'
  exact ⟨t, st.trans a1, b1⟩
end Rows
section Ends
variable {p : Program} {l : Launch} {e : Env} {R : Room} {s : State} {m : MethodId} {args : Array Value} {below : List Frame} {meth : Method} {c : Code} {H : Heap} {locs : List Loc} {cells slots : Nat} {Q : State → Prop}
variable {mc ms : Nat} {free : Addr → Prop} {A0 A1 : Nat → Prop} {H0 : Heap} {a : Array Value} {ls : Array Slot} {st0 rest : List Value}
variable {Qc : Array Value → State → Outcome → State → Prop} {XC : String → State → State → Prop}
/-- what a body that may throw owes at its end -/
def vx_MQ (below : List Frame) (Qc : Array Value → State → Outcome → State → Prop) (XC : String → State → State → Prop) (a : Array Value) (s : State) (mc ms : Nat) (free : Addr → Prop) : State → Prop := fun t =>
  ∃ o, t.status = .running ∧ Ended t below o ∧ vx_Q Qc XC mc ms free a s o t
theorem vx_ret {g : JFrame} {mc ms : Nat} (k : W p l e R s m args below meth c H locs cells slots (MQ below Qc args s mc ms free) g) : W p l e R s m args below meth c H locs cells slots (vx_MQ below Qc XC args s mc ms free) g := by
  intro T hT X
  obtain ⟨t, a1, o, b1, b2, b3, b4⟩ := k T hT X
  exact ⟨t, a1, o, b1, b2, Or.inl ⟨b3, b4⟩⟩
/-- not caught here: it goes on to the caller -/
theorem vx_widen {g : JFrame} {q : Addr} {k n : Nat} (h1 : cells ≤ k) (h2 : slots ≤ n) (kk : vx_W p l e R s m args below meth c H locs k n Q g q) : vx_W p l e R s m args below meth c H locs cells slots Q g q := fun T hT X => kk T hT (stand_widen X h1 h2)
theorem vx_out {pc : Nat} {E : String} {ce : Cell} {q : Addr} {mc ms : Nat} (hout : ∀ x ∈ c.exceptionTable.toList, covers x pc = false) (hlocks : meth.locks = false) (hcell : H[q]? = some ce) (hv : ce.vm = .none) (hcl : s.vm.findClass E = some ce.cls)
    (hx : ∀ t : State, t.heap = H → s.vm.Alike t.vm → XC E s t) (hf : ∀ z ∈ locs, free z.base) (hc : cells ≤ mc) (hs : slots ≤ ms) :
    vx_W p l e R s m args below meth c H locs cells slots (vx_MQ below Qc XC args s mc ms free) (F0 m pc ls rest) q := by
  intro T hT X
  obtain ⟨st1, hrun, hend, hW, hsm⟩ := X.leaveThrown q (g := F0 m pc ls rest) rfl rfl rfl hout hlocks
  have hcell9 : (T.setFrames (.throwing q :: below)).heap[q]? = some ce := by
    show T.heap[q]? = some ce
    rw [hT]; exact hcell
  exact ⟨_, st1, .threw q, hrun, hend, Or.inr ⟨q, rfl, E, ce, locs, hx _ hT hW.alike, hcell9, hv, hcl, hW, hsm.mono hc hs, hf⟩⟩
theorem vx_frame {U : State} {k n : Nat} (h : s.sameButNew ({ U with vm := s.vm } : State) locs k n) : s.heap.size ≤ U.heap.size ∧ ∀ q : Nat, q < s.heap.size → (∀ z ∈ locs, z.base ≠ q) → U.heap[q]? = s.heap[q]? := by
  obtain ⟨-, h2, -, -, -, h6⟩ := h
  refine ⟨h2, fun q hq hz => ?_⟩
  obtain ⟨c9, e1, e2, e3, e4⟩ := h6 q _ (Array.getElem?_eq_getElem hq)
  have hs : c9.slots = (s.heap[q]).slots := Array.ext_getElem? fun i => e4 i fun hm => hz _ hm rfl
  have h9 : c9 = s.heap[q] := by
    rw [hs] at e2
    exact e2
  have e5 : U.heap[q]? = some c9 := e1
  rw [e5, h9, Array.getElem?_eq_getElem hq]
/-- the words of a throw but the four that speak of the heap -/
def vx_no (w : Cond) : Bool := decide (w ≠ .isRef (.static Bundle.tN "UNASSIGNED_STACK" Bundle.steD)) && decide (w ≠ .isRef (.static Bundle.tN "SUPPRESSED_SENTINEL" Bundle.listD)) && decide (w ≠ .laysStatic Bundle.tN "UNASSIGNED_STACK" Bundle.steD) && decide (w ≠ .laysStatic Bundle.tN "SUPPRESSED_SENTINEL" Bundle.listD)
def vx_at0 (own : String) (ic : Nat) (X : String) (names : List String) : List Cond := (Bundle.ownAtoms0 own ic X names).filter vx_no
def vx_atS (own : String) (ic : Nat) (X : String) (names : List String) : List Cond := (Bundle.ownAtoms own ic X names).filter vx_no
/-- a word that the tables alone decide, or a good one -/
def vx_ot (w : Cond) : Bool := w.onTables || goodWord w
theorem vx_ot_at {args a' : Array Value} {s U : State} {w : Cond} (hW : s.WarmedH U.vm) (hvm : s.vm = U.vm) (hg : vx_ot w = true) (h : w.before args s = true) : w.before a' U = true := by
  simp only [vx_ot, Bool.or_eq_true] at hg
  rcases hg with hg | hg
  · exact va_tabs hg hvm h
  · exact word_at hW (good_of_word hg) h
/-- a list's words: the good ones out of the method's own list, the others by premises of their own -/
theorem vx_hat {args : Array Value} {s : State} {L B : List Cond} (h1 : ∀ w ∈ L.filter goodWord, w.before args s = true) (h2 : ∀ w ∈ L.filter (fun w => !goodWord w), w ∈ B) (h3 : ∀ w ∈ B, w.before args s = true) : ∀ w ∈ L, w.before args s = true := by
  intro w hw
  by_cases g : goodWord w = true
  · exact h1 w (List.mem_filter.mpr ⟨hw, g⟩)
  · refine h3 w (h2 w (List.mem_filter.mpr ⟨hw, ?_⟩))
    show (!goodWord w) = true
    cases hgw : goodWord w
    · rfl
    · exact absurd hgw g
theorem vx_c {args : Array Value} {s : State} {w : Cond} {B : List Cond} (h : w.before args s = true) (t : ∀ w ∈ B, w.before args s = true) : ∀ w' ∈ w :: B, w'.before args s = true := fun w' h' => (List.mem_cons.mp h').elim (fun e => by rw [e]; exact h) (t w')
theorem vx_n {args : Array Value} {s : State} : ∀ w ∈ ([] : List Cond), w.before args s = true := fun _ h => nomatch h
theorem vx_own {args : Array Value} {s : State} {L : List Cond} (h1 : ∀ w ∈ L.filter vx_no, w.before args s = true)
    (hU : (Cond.isRef (.static Bundle.tN "UNASSIGNED_STACK" Bundle.steD)).before args s = true) (hN : (Cond.isRef (.static Bundle.tN "SUPPRESSED_SENTINEL" Bundle.listD)).before args s = true)
    (lU : (Cond.laysStatic Bundle.tN "UNASSIGNED_STACK" Bundle.steD).before args s = true) (lN : (Cond.laysStatic Bundle.tN "SUPPRESSED_SENTINEL" Bundle.listD).before args s = true) : ∀ w ∈ L, w.before args s = true := by
  intro w hw
  by_cases e1 : w = .isRef (.static Bundle.tN "UNASSIGNED_STACK" Bundle.steD)
  · rw [e1]; exact hU
  · by_cases e2 : w = .isRef (.static Bundle.tN "SUPPRESSED_SENTINEL" Bundle.listD)
    · rw [e2]; exact hN
    · by_cases e3 : w = .laysStatic Bundle.tN "UNASSIGNED_STACK" Bundle.steD
      · rw [e3]; exact lU
      · by_cases e4 : w = .laysStatic Bundle.tN "SUPPRESSED_SENTINEL" Bundle.listD
        · rw [e4]; exact lN
        · exact h1 w (List.mem_filter.mpr ⟨hw, by unfold vx_no; rw [decide_eq_true e1, decide_eq_true e2, decide_eq_true e3, decide_eq_true e4]; rfl⟩)
/-- where a static field lies, its class's statics cell in H -/
def vx_L (C n d : String) (A : Nat → Prop) (U : State) (H : Heap) : Prop := ∃ (c : ClassId) (k : Class) (i : Nat) (f : Field) (a : Nat) (cell : Cell), U.vm.findClass C = some c ∧ U.fieldFound? C n d = some (c, k, i, f) ∧ f.isStatic = true ∧ k.statics = some a ∧ H[a]? = some cell ∧ cell.vm.isStatics = true ∧ cell.cls = c ∧ f.slot < cell.slots.size ∧ k.staticTypes[f.slot]? = some f.type ∧ ¬ A a
theorem vx_L.moved {C n d : String} {A : Nat → Prop} {u U : State} {H : Heap} (hvm : u.vm.Alike U.vm) (h : vx_L C n d A u H) : vx_L C n d A U H := by
  obtain ⟨c, k, i, f, a, cell, h1, h2, h3, h4, h5, h6, h7, h8, h9, h10⟩ := h
  obtain ⟨k', hi', he⟩ := State.fieldFound?_setVm hvm h2
  exact ⟨c, k', i, f, a, cell, by rw [hvm.findClass]; exact h1, hi', h3, by rw [he]; exact h4, h5, h6, h7, h8, by rw [he]; exact h9, h10⟩
theorem vx_L.kept {C n d : String} {A : Nat → Prop} {U : State} {H H1 : Heap} (h : vx_L C n d A U H) (hq : ∀ a : Nat, a < H.size → ¬ A a → H1[a]? = H[a]?) : vx_L C n d A U H1 := by
  obtain ⟨c, k, i, f, a, cell, h1, h2, h3, h4, h5, h6, h7, h8, h9, h10⟩ := h
  exact ⟨c, k, i, f, a, cell, h1, h2, h3, h4, by rw [hq a (Array.getElem?_eq_some_iff.mp h5).1 h10]; exact h5, h6, h7, h8, h9, h10⟩
theorem vx_L.narrow {C n d : String} {A B : Nat → Prop} {U : State} {H : Heap} (h : vx_L C n d A U H) (hAB : ∀ q, B q → A q) : vx_L C n d B U H := by
  obtain ⟨c, k, i, f, a, cell, h1, h2, h3, h4, h5, h6, h7, h8, h9, h10⟩ := h
  exact ⟨c, k, i, f, a, cell, h1, h2, h3, h4, h5, h6, h7, h8, h9, fun z => h10 (hAB _ z)⟩
theorem vx_L.word {C n d : String} {A : Nat → Prop} {s : State} {args : Array Value} (h : vx_L C n d A s s.heap) : (Cond.laysStatic C n d).before args s = true := by
  obtain ⟨c, k, i, f, a, cell, h1, h2, h3, h4, h5, h6, h7, h8, h9, -⟩ := h
  show (Cond.laysStatic C n d).holds args s none s [] = true
  exact Cond.laysStatic_of h1 h2 h3 h4 h5 h6 h7 h8 h9
/-- .. and what it holds: null or some reference -/
def vx_Zq (C n d : String) (A : Nat → Prop) (U : State) (H : Heap) : Prop := va_Zq C n d A U H ∧ vx_L C n d A U H
theorem vx_Zq.moved {C n d : String} {A : Nat → Prop} {u U : State} {H : Heap} (hvm : u.vm.Alike U.vm) (h : vx_Zq C n d A u H) : vx_Zq C n d A U H := ⟨va_Zq.moved hvm h.1, vx_L.moved hvm h.2⟩
theorem vx_Zq.kept {C n d : String} {A : Nat → Prop} {U : State} {H H1 : Heap} (h : vx_Zq C n d A U H) (hq : ∀ a : Nat, a < H.size → ¬ A a → H1[a]? = H[a]?) : vx_Zq C n d A U H1 := ⟨va_Zq.kept h.1 hq, vx_L.kept h.2 hq⟩
theorem vx_Zq.narrow {C n d : String} {A B : Nat → Prop} {U : State} {H : Heap} (h : vx_Zq C n d A U H) (hAB : ∀ q, B q → A q) : vx_Zq C n d B U H := ⟨va_Zq.narrow h.1 hAB, vx_L.narrow h.2 hAB⟩
theorem vx_Zqof {args : Array Value} {s : State} {C n d : String} {A : Nat → Prop} (hl : (Cond.laysStatic C n d).before args s = true) (hini : (Cond.initialized C).before args s = true) (h : (Cond.isRef (.static C n d)).before args s = true) (hA : ∀ a : Nat, a < s.heap.size → ¬ A a) : vx_Zq C n d A s s.heap := by
  refine ⟨va_Zqof hl hini h hA, ?_⟩
  obtain ⟨c, k, i, f, a, cell, h1, h2, h3, h4, h5, h6, h7, h8, h9⟩ := Cond.laysStatic_spec hl
  exact ⟨c, k, i, f, a, cell, h1, h2, h3, h4, h5, h6, h7, h8, h9, hA a (Array.getElem?_eq_some_iff.mp h5).1⟩
theorem vx_isRef {C n d : String} {v : Value} {A : Nat → Prop} {s : State} {args : Array Value} (h : va_Z C n d v A s s.heap) (hv : v.isRef = true) : (Cond.isRef (.static C n d)).before args s = true := by
  obtain ⟨cf, kf, fi, f, a, cell, h1, h2, h3, h4, h5, h6, h7, -⟩ := h
  have he : (Term.static C n d).eval args s none [] s = some v := by
    simp [Term.eval, State.fieldNamed?, h1, h2, h4, h5, h6, h7]
  simp only [Cond.before, Cond.holds, Cond.value, he]
  cases v <;> simp_all [Value.isRef]
theorem vx_isRefq {C n d : String} {A : Nat → Prop} {s : State} {args : Array Value} (h : va_Zq C n d A s s.heap) : (Cond.isRef (.static C n d)).before args s = true := by
  rcases h with h | ⟨t, h⟩
  · exact vx_isRef h rfl
  · exact vx_isRef h rfl
/-- the same frame, seen from here: as if the method were called anew in this heap -/
theorem vx_rebase {T : State} (X : Stand p l e R s m args below meth c T locs cells slots) {R' : Room} (hf : R'.frames ≤ R.frames) (hl : R'.locals ≤ R.locals) (hc : cells + R'.cells ≤ R.cells) (hs : slots + R'.slots ≤ R.slots) :
    Stand p l e R' ((T.setVm s.vm).setFrames (.invoking m args :: below)) m args below meth c T [] 0 0 := by
  have htop : (T.setVm s.vm).topJava?.isSome := X.here.top
  have hF : ((T.setVm s.vm).setFrames (.invoking m args :: below)).frames = .invoking m args :: below := State.frames_setFrames _ (State.cur_lt_of_top htop)
  obtain ⟨g₀, hg0⟩ := Option.isSome_iff_exists.mp htop
  obtain ⟨r, hr⟩ := State.topJava?_eq_some.mp hg0
  have hl9 : e.platform.stackLimits (T.setVm s.vm).me = e.platform.stackLimits s.me := X.limits
  have hb9 : (T.setVm s.vm).me.stackBytes = s.me.stackBytes := X.bytes
  refine ⟨X.admits, X.cas, X.clock, hF, ?_, X.hears, X.method, X.code, X.here, X.tail, X.warmed, ?_, ?_, ?_⟩
  · have h := X.room
    have hU : ((T.setVm s.vm).setFrames (.invoking m args :: below)).localsInUse = s.localsInUse := by
      rw [State.localsInUse_invoking hF (meth := meth) (c := c) X.method X.code, State.localsInUse_invoking X.frames X.method X.code]
    simp only [State.hasRoom, Bool.and_eq_true, decide_eq_true_eq] at h ⊢
    obtain ⟨⟨⟨⟨h1, h2, h3, h4, h5, h6⟩, h7⟩, h8⟩, h9⟩ := h
    rw [X.frames, List.length_cons] at h2 h3
    have q1 := X.heapSize
    have q2 := X.used
    simp only [hF, hU, List.length_cons, State.stackLimits_setFrames, State.stackBytes_setFrames, hl9, hb9]
    refine ⟨⟨⟨⟨by omega, by omega, by omega, by omega, by omega, h6⟩, ?_⟩, ?_⟩, X.book⟩
    · show T.heap.size + R'.cells ≤ e.platform.maxCells
      omega
    · show T.slotsUsed + R'.slots ≤ e.platform.maxSlots
      omega
  · rw [State.stackLimits_setFrames]; rfl
  · rw [State.stackBytes_setFrames]; rfl
  · refine ⟨?_, Nat.le_refl _, Nat.le_refl _, ?_, ?_, fun a c9 h9 => ⟨c9, h9, rfl, rfl, fun _ _ => rfl⟩⟩
    · obtain ⟨t, ht, -⟩ := State.frames_cons hr
      show T.setVm s.vm = { ((T.setVm s.vm).setFrames (.invoking m args :: below)).setFrames (T.setVm s.vm).frames with heap := T.heap, slotsUsed := T.slotsUsed }
      rw [State.setFrames_setFrames, State.setFrames_self ht]
      rfl
    · show T.slotsUsed = T.slotsUsed + ((T.heap.toList.drop T.heap.size).map (·.slots.size)).sum
      rw [List.drop_eq_nil_of_le (Nat.le_of_eq Array.length_toList)]
      rfl
    · show ((T.heap.toList.drop T.heap.size).map (·.slots.size)).sum ≤ 0
      rw [List.drop_eq_nil_of_le (Nat.le_of_eq Array.length_toList)]
      exact Nat.le_refl _
/-- 'throw new E()': new; dup; invokespecial; athrow -/
theorem vx_throw0 {cc : ByteArray} {pc : Nat} (hexec : p.tables.exec = Jvm.exec) (hb : c.code = cc) (hl : l.stackTraces = false) {own cls : String} {names : List String} {ik ic mc ms : Nat} {A : Nat → Prop}
    (hown : s.vm.findClass own = some m.cls) (hcls : Bundle.fit cls = true) (hnames : ∀ n ∈ names, Bundle.fit n = true)
    (hk : (Cond.classLink own ik cls).before args s = true) (hini : (Cond.initialized cls).before args s = true) (hat : ∀ w ∈ vx_at0 own ic cls names, w.before args s = true)
    (hgood : ∀ w ∈ Cond.classLink own ik cls :: Cond.initialized cls :: vx_at0 own ic cls names, vx_ot w = true)
    (hU : vx_Zq Bundle.tN "UNASSIGNED_STACK" Bundle.steD A s s.heap) (hN : vx_Zq Bundle.tN "SUPPRESSED_SENTINEL" Bundle.listD A s s.heap) (hS : va_S A s.heap H locs) (hsize : ls.size = c.maxLocals)
    (d0 : decode cc pc = .ok (.new ik, 3)) (d3 : decode cc (pc + 3) = .ok (.dup, 1)) (d4 : decode cc (pc + 4) = .ok (.invokespecial ic, 3)) (d7 : decode cc (pc + 7) = .ok (.athrow, 1))
    (hout : ∀ x ∈ c.exceptionTable.toList, covers x (pc + 7) = false)
    (hRframes : names.length + 3 < R.frames) (hRlocals : (rest.map fun v => v.category).sum + (13 * (names.length + 1) + 42) ≤ R.locals) (hRcells : cells + 1 ≤ R.cells) (hRslots : slots + 6 ≤ R.slots) (hlocks : meth.locks = false)
    (hx : ∀ t : State, s.vm.Alike t.vm → H.size ≤ t.heap.size → (∀ q : Nat, q < H.size → t.heap[q]? = H[q]?) → XC cls s t)
    (hf : ∀ z ∈ locs, free z.base) (hc : cells + 1 ≤ mc) (hs : slots + 6 ≤ ms) :
    W p l e R s m args below meth c H locs cells slots (vx_MQ below Qc XC args s mc ms free) (F0 m pc ls rest) := by
  intro T hT X
  have htr : e.platform.stackTraces = false := (show e.platform.stackTraces = l.stackTraces by rw [X.admits.platform]).trans hl
  have Y := vx_rebase X (R' := { frames := R.frames, locals := R.locals, cells := 1, slots := 6 }) (Nat.le_refl _) (Nat.le_refl _) hRcells hRslots
  obtain ⟨s', hA⟩ : ∃ z, z = (T.setVm s.vm).setFrames (.invoking m args :: below) := ⟨_, rfl⟩
  rw [← hA] at Y
  have hvm : s'.vm = s.vm := by rw [hA]; rfl
  have hhp : s'.heap = H := by rw [hA]; exact hT
  have hW0 : s.WarmedH s'.vm := by rw [hvm]; exact State.WarmedH.refl s
  have hat' : ∀ w ∈ vx_at0 own ic cls names, w.before args s' = true := fun w hw => vx_ot_at hW0 hvm.symm (hgood w (List.mem_cons_of_mem _ (List.mem_cons_of_mem _ hw))) (hat w hw)
  have hk' : (Cond.classLink own ik cls).before args s' = true := vx_ot_at hW0 hvm.symm (hgood _ List.mem_cons_self) hk
  have hini' : (Cond.initialized cls).before args s' = true := vx_ot_at hW0 hvm.symm (hgood _ (List.mem_cons_of_mem _ List.mem_cons_self)) hini
  have hU' : vx_Zq Bundle.tN "UNASSIGNED_STACK" Bundle.steD A s' s'.heap := by rw [hhp]; exact vx_Zq.moved hW0.alike (hU.kept hS.2.1)
  have hN' : vx_Zq Bundle.tN "SUPPRESSED_SENTINEL" Bundle.listD A s' s'.heap := by rw [hhp]; exact vx_Zq.moved hW0.alike (hN.kept hS.2.1)
  have h : ∀ w ∈ Bundle.ownAtoms0 own ic cls names, w.before args s' = true := vx_own hat' (vx_isRefq hU'.1) (vx_isRefq hN'.1) hU'.2.word hN'.2.word
  have hown' : s'.vm.findClass own = some m.cls := by rw [hvm]; exact hown
  have hins : (Cond.instantiable cls 6).before args s' = true := h _ (by simp [Bundle.ownAtoms0])
  obtain ⟨vm₁, cX, kX, hfX, hkX, -, -, X₁, st1⟩ := Y.newCold hexec (own := own) (C := cls) (index := ik) (n := 6) hown' hk' hins hini'
    (g := F0 m pc ls rest) rfl (by rw [hb]; exact d0) (Nat.le_refl _) (Nat.le_refl _)
  generalize hT1 : (T.setVm vm₁).pushCell { cls := cX, slots := kX.instanceTypes.map defaultValue, vm := .none } = T1 at X₁ st1
  have hcat : (Value.ref T.heap.size).category = 1 := rfl
  have hcellA : T1.heap[T.heap.size]? = some (freshCell cX kX) := by rw [← hT1]; exact State.heap_pushCell_size _ _
  have d3' : decode c.code (pc + 3) = .ok (.dup, 1) := by rw [hb]; exact d3
  obtain ⟨U, hsteps, hrun, hend, hW, hsame, ce, hce, hO⟩ := X₁.ctorThrow0 hexec htr (own := own) (cls := cls) (names := names) (ic := ic) hown' hcls hnames h (fun x hx => nomatch hx) hfX hkX hcellA (by rw [hhp, hT]; exact Nat.le_refl _)
    (g := { method := m, pc := pc + 4, locals := ls, stack := .ref T.heap.size :: .ref T.heap.size :: rest, locked := none }) rfl hsize rfl rfl (rest := rest) rfl
    (by rw [hb]; exact d4) (by rw [hb]; exact d7) hout hRframes (by simp only [List.map_cons, List.sum_cons, hcat]; omega) hlocks
  obtain ⟨f1, f2⟩ := vx_frame hsame
  rw [hhp] at f1 f2
  have hWs : s.WarmedH U.vm := State.WarmedH.trans hW0 hW
  have hcl : s.vm.findClass cls = some ce.cls := by
    have h9 := hO.cls
    rw [hvm] at h9
    exact h9
  have hall : s.sameButNew ({ U with vm := s.vm } : State) locs mc ms := by
    subst hA
    obtain ⟨e1, e2⟩ := hsame
    rw [State.setFrames_setFrames] at e1
    have h2 : (T.setVm s.vm).sameButNew ({ U with vm := s.vm } : State) [] (0 + 1) (0 + 6) := ⟨e1, e2⟩
    have h3 := X.same.trans h2
    rw [List.append_nil] at h3
    exact h3.mono hc hs
  refine ⟨U, ?_, .threw T.heap.size, hrun, hend, Or.inr ⟨T.heap.size, rfl, cls, ce, locs, hx U hWs.alike f1 (fun q hq => f2 q hq (fun z hz => nomatch hz)), hce, hO.vm, hcl, hWs, hall, hf⟩⟩
  refine st1 _ ?_
  show Steps p.tables e below (T1.setTop { method := m, pc := pc + 3, locals := ls, stack := .ref T.heap.size :: rest, locked := none }) _
  jvm_step X₁.here [X₁.here.top, hexec, d3', Value.category]
  exact hsteps
/-- 'throw new E("text")': new; dup; ldc; invokespecial; athrow -/
theorem vx_throwS {cc : ByteArray} {pc : Nat} (hexec : p.tables.exec = Jvm.exec) (hb : c.code = cc) (hl : l.stackTraces = false) {own cls text : String} {names : List String} {ik is ic mc ms sa : Nat} {A : Nat → Prop}
    (hown : s.vm.findClass own = some m.cls) (hcls : Bundle.fit cls = true) (hnames : ∀ n ∈ names, Bundle.fit n = true)
    (hk : (Cond.classLink own ik cls).before args s = true) (hini : (Cond.initialized cls).before args s = true) (hstr : vk_R own is text sa s) (hat : ∀ w ∈ vx_atS own ic cls names, w.before args s = true)
    (hgood : ∀ w ∈ Cond.classLink own ik cls :: Cond.initialized cls :: vx_atS own ic cls names, vx_ot w = true)
    (hU : vx_Zq Bundle.tN "UNASSIGNED_STACK" Bundle.steD A s s.heap) (hN : vx_Zq Bundle.tN "SUPPRESSED_SENTINEL" Bundle.listD A s s.heap) (hS : va_S A s.heap H locs) (hsize : ls.size = c.maxLocals)
    (d0 : decode cc pc = .ok (.new ik, 3)) (d3 : decode cc (pc + 3) = .ok (.dup, 1)) (d4 : decode cc (pc + 4) = .ok (.ldc is, 2)) (d6 : decode cc (pc + 6) = .ok (.invokespecial ic, 3)) (d9 : decode cc (pc + 9) = .ok (.athrow, 1))
    (hout : ∀ x ∈ c.exceptionTable.toList, covers x (pc + 9) = false)
    (hRframes : names.length + 3 < R.frames) (hRlocals : (rest.map fun v => v.category).sum + (13 * (names.length + 1) + 43) ≤ R.locals) (hRcells : cells + 1 ≤ R.cells) (hRslots : slots + 6 ≤ R.slots) (hlocks : meth.locks = false)
    (hx : ∀ t : State, s.vm.Alike t.vm → H.size ≤ t.heap.size → (∀ q : Nat, q < H.size → t.heap[q]? = H[q]?) → XC cls s t)
    (hf : ∀ z ∈ locs, free z.base) (hc : cells + 1 ≤ mc) (hs : slots + 6 ≤ ms) :
    W p l e R s m args below meth c H locs cells slots (vx_MQ below Qc XC args s mc ms free) (F0 m pc ls rest) := by
  intro T hT X
  have htr : e.platform.stackTraces = false := (show e.platform.stackTraces = l.stackTraces by rw [X.admits.platform]).trans hl
  have Y := vx_rebase X (R' := { frames := R.frames, locals := R.locals, cells := 1, slots := 6 }) (Nat.le_refl _) (Nat.le_refl _) hRcells hRslots
  obtain ⟨s', hA⟩ : ∃ z, z = (T.setVm s.vm).setFrames (.invoking m args :: below) := ⟨_, rfl⟩
  rw [← hA] at Y
  have hvm : s'.vm = s.vm := by rw [hA]; rfl
  have hhp : s'.heap = H := by rw [hA]; exact hT
  have hW0 : s.WarmedH s'.vm := by rw [hvm]; exact State.WarmedH.refl s
  have hat' : ∀ w ∈ vx_atS own ic cls names, w.before args s' = true := fun w hw => vx_ot_at hW0 hvm.symm (hgood w (List.mem_cons_of_mem _ (List.mem_cons_of_mem _ hw))) (hat w hw)
  have hk' : (Cond.classLink own ik cls).before args s' = true := vx_ot_at hW0 hvm.symm (hgood _ List.mem_cons_self) hk
  have hini' : (Cond.initialized cls).before args s' = true := vx_ot_at hW0 hvm.symm (hgood _ (List.mem_cons_of_mem _ List.mem_cons_self)) hini
  have hU' : vx_Zq Bundle.tN "UNASSIGNED_STACK" Bundle.steD A s' s'.heap := by rw [hhp]; exact vx_Zq.moved hW0.alike (hU.kept hS.2.1)
  have hN' : vx_Zq Bundle.tN "SUPPRESSED_SENTINEL" Bundle.listD A s' s'.heap := by rw [hhp]; exact vx_Zq.moved hW0.alike (hN.kept hS.2.1)
  have h : ∀ w ∈ Bundle.ownAtoms own ic cls names, w.before args s' = true := vx_own hat' (vx_isRefq hU'.1) (vx_isRefq hN'.1) hU'.2.word hN'.2.word
  have hown' : s'.vm.findClass own = some m.cls := by rw [hvm]; exact hown
  have hins : (Cond.instantiable cls 6).before args s' = true := h _ (by simp [Bundle.ownAtoms])
  obtain ⟨vm₁, cX, kX, hfX, hkX, -, -, X₁, st1⟩ := Y.newCold hexec (own := own) (C := cls) (index := ik) (n := 6) hown' hk' hins hini'
    (g := F0 m pc ls rest) rfl (by rw [hb]; exact d0) (Nat.le_refl _) (Nat.le_refl _)
  generalize hT1 : (T.setVm vm₁).pushCell { cls := cX, slots := kX.instanceTypes.map defaultValue, vm := .none } = T1 at X₁ st1
  have hcat : (Value.ref T.heap.size).category = 1 := rfl
  have hcellA : T1.heap[T.heap.size]? = some (freshCell cX kX) := by rw [← hT1]; exact State.heap_pushCell_size _ _
  have d3' : decode c.code (pc + 3) = .ok (.dup, 1) := by rw [hb]; exact d3
  have d4' : decode c.code (pc + 4) = .ok (.ldc is, 2) := by rw [hb]; exact d4
  have hstr' : vk_R own is text sa s' := vk_R.warm hW0 hstr
  obtain ⟨U, hsteps, hrun, hend, hW, hsame, ce, hce, hO⟩ := X₁.ctorThrowS hexec htr (own := own) (cls := cls) (names := names) (ic := ic) hown' hcls hnames h (fun x hx => nomatch hx) hfX hkX hcellA (by rw [hhp, hT]; exact Nat.le_refl _) (msg := .ref sa) rfl
    (g := { method := m, pc := pc + 6, locals := ls, stack := .ref sa :: .ref T.heap.size :: .ref T.heap.size :: rest, locked := none }) rfl hsize rfl rfl (rest := rest) rfl
    (by rw [hb]; exact d6) (by rw [hb]; exact d9) hout hRframes (by simp only [List.map_cons, List.sum_cons, hcat]; omega) hlocks
  obtain ⟨f1, f2⟩ := vx_frame hsame
  rw [hhp] at f1 f2
  have hWs : s.WarmedH U.vm := State.WarmedH.trans hW0 hW
  have hcl : s.vm.findClass cls = some ce.cls := by
    have h9 := hO.cls
    rw [hvm] at h9
    exact h9
  have hall : s.sameButNew ({ U with vm := s.vm } : State) locs mc ms := by
    subst hA
    obtain ⟨e1, e2⟩ := hsame
    rw [State.setFrames_setFrames] at e1
    have h2 : (T.setVm s.vm).sameButNew ({ U with vm := s.vm } : State) [] (0 + 1) (0 + 6) := ⟨e1, e2⟩
    have h3 := X.same.trans h2
    rw [List.append_nil] at h3
    exact h3.mono hc hs
  refine ⟨U, ?_, .threw T.heap.size, hrun, hend, Or.inr ⟨T.heap.size, rfl, cls, ce, locs, hx U hWs.alike f1 (fun q hq => f2 q hq (fun z hz => nomatch hz)), hce, hO.vm, hcl, hWs, hall, hf⟩⟩
  refine st1 _ ?_
  show Steps p.tables e below (T1.setTop { method := m, pc := pc + 3, locals := ls, stack := .ref T.heap.size :: rest, locked := none }) _
  jvm_step X₁.here [X₁.here.top, hexec, d3', Value.category]
  exact X₁.ldcString hexec (own := own) (text := text) (index := is) (a := sa) hown' hstr'.1 hstr'.2
    (g := { method := m, pc := pc + 4, locals := ls, stack := .ref T.heap.size :: .ref T.heap.size :: rest, locked := none }) rfl d4' _ hsteps
/-- 'throw new E("text")', the text by a wide index -/
theorem vx_throwSW {cc : ByteArray} {pc : Nat} (hexec : p.tables.exec = Jvm.exec) (hb : c.code = cc) (hl : l.stackTraces = false) {own cls text : String} {names : List String} {ik is ic mc ms sa : Nat} {A : Nat → Prop}
    (hown : s.vm.findClass own = some m.cls) (hcls : Bundle.fit cls = true) (hnames : ∀ n ∈ names, Bundle.fit n = true)
    (hk : (Cond.classLink own ik cls).before args s = true) (hini : (Cond.initialized cls).before args s = true) (hstr : vk_R own is text sa s) (hat : ∀ w ∈ vx_atS own ic cls names, w.before args s = true)
    (hgood : ∀ w ∈ Cond.classLink own ik cls :: Cond.initialized cls :: vx_atS own ic cls names, vx_ot w = true)
    (hU : vx_Zq Bundle.tN "UNASSIGNED_STACK" Bundle.steD A s s.heap) (hN : vx_Zq Bundle.tN "SUPPRESSED_SENTINEL" Bundle.listD A s s.heap) (hS : va_S A s.heap H locs) (hsize : ls.size = c.maxLocals)
    (d0 : decode cc pc = .ok (.new ik, 3)) (d3 : decode cc (pc + 3) = .ok (.dup, 1)) (d4 : decode cc (pc + 4) = .ok (.ldc_w is, 3)) (d7 : decode cc (pc + 7) = .ok (.invokespecial ic, 3)) (d10 : decode cc (pc + 10) = .ok (.athrow, 1))
    (hout : ∀ x ∈ c.exceptionTable.toList, covers x (pc + 10) = false)
    (hRframes : names.length + 3 < R.frames) (hRlocals : (rest.map fun v => v.category).sum + (13 * (names.length + 1) + 43) ≤ R.locals) (hRcells : cells + 1 ≤ R.cells) (hRslots : slots + 6 ≤ R.slots) (hlocks : meth.locks = false)
    (hx : ∀ t : State, s.vm.Alike t.vm → H.size ≤ t.heap.size → (∀ q : Nat, q < H.size → t.heap[q]? = H[q]?) → XC cls s t)
    (hf : ∀ z ∈ locs, free z.base) (hc : cells + 1 ≤ mc) (hs : slots + 6 ≤ ms) :
    W p l e R s m args below meth c H locs cells slots (vx_MQ below Qc XC args s mc ms free) (F0 m pc ls rest) := by
  intro T hT X
  have htr : e.platform.stackTraces = false := (show e.platform.stackTraces = l.stackTraces by rw [X.admits.platform]).trans hl
  have Y := vx_rebase X (R' := { frames := R.frames, locals := R.locals, cells := 1, slots := 6 }) (Nat.le_refl _) (Nat.le_refl _) hRcells hRslots
  obtain ⟨s', hA⟩ : ∃ z, z = (T.setVm s.vm).setFrames (.invoking m args :: below) := ⟨_, rfl⟩
  rw [← hA] at Y
  have hvm : s'.vm = s.vm := by rw [hA]; rfl
  have hhp : s'.heap = H := by rw [hA]; exact hT
  have hW0 : s.WarmedH s'.vm := by rw [hvm]; exact State.WarmedH.refl s
  have hat' : ∀ w ∈ vx_atS own ic cls names, w.before args s' = true := fun w hw => vx_ot_at hW0 hvm.symm (hgood w (List.mem_cons_of_mem _ (List.mem_cons_of_mem _ hw))) (hat w hw)
  have hk' : (Cond.classLink own ik cls).before args s' = true := vx_ot_at hW0 hvm.symm (hgood _ List.mem_cons_self) hk
  have hini' : (Cond.initialized cls).before args s' = true := vx_ot_at hW0 hvm.symm (hgood _ (List.mem_cons_of_mem _ List.mem_cons_self)) hini
  have hU' : vx_Zq Bundle.tN "UNASSIGNED_STACK" Bundle.steD A s' s'.heap := by rw [hhp]; exact vx_Zq.moved hW0.alike (hU.kept hS.2.1)
  have hN' : vx_Zq Bundle.tN "SUPPRESSED_SENTINEL" Bundle.listD A s' s'.heap := by rw [hhp]; exact vx_Zq.moved hW0.alike (hN.kept hS.2.1)
  have h : ∀ w ∈ Bundle.ownAtoms own ic cls names, w.before args s' = true := vx_own hat' (vx_isRefq hU'.1) (vx_isRefq hN'.1) hU'.2.word hN'.2.word
  have hown' : s'.vm.findClass own = some m.cls := by rw [hvm]; exact hown
  have hins : (Cond.instantiable cls 6).before args s' = true := h _ (by simp [Bundle.ownAtoms])
  obtain ⟨vm₁, cX, kX, hfX, hkX, -, -, X₁, st1⟩ := Y.newCold hexec (own := own) (C := cls) (index := ik) (n := 6) hown' hk' hins hini'
    (g := F0 m pc ls rest) rfl (by rw [hb]; exact d0) (Nat.le_refl _) (Nat.le_refl _)
  generalize hT1 : (T.setVm vm₁).pushCell { cls := cX, slots := kX.instanceTypes.map defaultValue, vm := .none } = T1 at X₁ st1
  have hcat : (Value.ref T.heap.size).category = 1 := rfl
  have hcellA : T1.heap[T.heap.size]? = some (freshCell cX kX) := by rw [← hT1]; exact State.heap_pushCell_size _ _
  have d3' : decode c.code (pc + 3) = .ok (.dup, 1) := by rw [hb]; exact d3
  have d4' : decode c.code (pc + 4) = .ok (.ldc_w is, 3) := by rw [hb]; exact d4
  have hstr' : vk_R own is text sa s' := vk_R.warm hW0 hstr
  obtain ⟨U, hsteps, hrun, hend, hW, hsame, ce, hce, hO⟩ := X₁.ctorThrowS hexec htr (own := own) (cls := cls) (names := names) (ic := ic) hown' hcls hnames h (fun x hx => nomatch hx) hfX hkX hcellA (by rw [hhp, hT]; exact Nat.le_refl _) (msg := .ref sa) rfl
    (g := { method := m, pc := pc + 7, locals := ls, stack := .ref sa :: .ref T.heap.size :: .ref T.heap.size :: rest, locked := none }) rfl hsize rfl rfl (rest := rest) rfl
    (by rw [hb]; exact d7) (by rw [hb]; exact d10) hout hRframes (by simp only [List.map_cons, List.sum_cons, hcat]; omega) hlocks
  obtain ⟨f1, f2⟩ := vx_frame hsame
  rw [hhp] at f1 f2
  have hWs : s.WarmedH U.vm := State.WarmedH.trans hW0 hW
  have hcl : s.vm.findClass cls = some ce.cls := by
    have h9 := hO.cls
    rw [hvm] at h9
    exact h9
  have hall : s.sameButNew ({ U with vm := s.vm } : State) locs mc ms := by
    subst hA
    obtain ⟨e1, e2⟩ := hsame
    rw [State.setFrames_setFrames] at e1
    have h2 : (T.setVm s.vm).sameButNew ({ U with vm := s.vm } : State) [] (0 + 1) (0 + 6) := ⟨e1, e2⟩
    have h3 := X.same.trans h2
    rw [List.append_nil] at h3
    exact h3.mono hc hs
  refine ⟨U, ?_, .threw T.heap.size, hrun, hend, Or.inr ⟨T.heap.size, rfl, cls, ce, locs, hx U hWs.alike f1 (fun q hq => f2 q hq (fun z hz => nomatch hz)), hce, hO.vm, hcl, hWs, hall, hf⟩⟩
  refine st1 _ ?_
  show Steps p.tables e below (T1.setTop { method := m, pc := pc + 3, locals := ls, stack := .ref T.heap.size :: rest, locked := none }) _
  jvm_step X₁.here [X₁.here.top, hexec, d3', Value.category]
  exact X₁.ldcStringW hexec (own := own) (text := text) (index := is) (a := sa) hown' hstr'.1 hstr'.2
    (g := { method := m, pc := pc + 4, locals := ls, stack := .ref T.heap.size :: .ref T.heap.size :: rest, locked := none }) rfl d4' _ hsteps
end Ends
section Bodies
variable {l : Launch}
theorem vx_ofW {y : MethodName} {ws ws' : List Cond} {rm : Room} {Pc : Array Value → State → Prop} {Qc : Array Value → State → Outcome → State → Prop} {XC : String → State → State → Prop} {mc ms : Nat} {free : Addr → Prop} {cc : ByteArray} {maxL : Nat} {ret : Option FieldType}
    (hy : plainName y.cls = true) (hw : ws = Cond.code y cc maxL ret :: ws')
    (body : ∀ p e s m args below meth c s₁, BodyLoose p l y (headSpec ws rm) cc maxL ret e s m args below meth c s₁ → c.maxLocals = maxL → (∀ x ∈ c.exceptionTable.toList, False) → Pc args s →
      W p l e (headSpec ws rm).room s m args below meth c s.heap [] 0 0 (vx_MQ below Qc XC args s mc ms free) (entryFrame m args maxL)) : vx_Met l y ws rm Pc Qc XC mc ms free := by
  refine MetFree.of_bodyS (code := cc) (maxLocals := maxL) (ret := ret) hy ?_ ?_
  · intro args s m h hn
    obtain ⟨meth, c, h1, h2, h3, h4, h5, h6, -, -⟩ := Cond.code_spec hn (atoms_spec (ws := ws) h _ (by rw [hw]; exact List.mem_cons_self))
    exact ⟨meth, c, h1, h2, h3, h4, h5, h6⟩
  · intro p e s m args below meth c s₁ B hml hP _
    have hh0 : s₁.heap = s.heap := by rw [B.state]; rfl
    have ht : ∀ x ∈ c.exceptionTable.toList, False := by
      obtain ⟨meth9, c9, h1, h2, -, -, -, -, h7, -⟩ := Cond.code_spec B.named (atoms_spec (ws := ws) B.pre _ (by rw [hw]; exact List.mem_cons_self))
      cases Option.some.inj (h1.symm.trans B.method)
      cases Option.some.inj (h2.symm.trans (Stand.of_body B).code)
      intro x hx
      rw [Array.isEmpty_iff.mp h7] at hx
      cases hx
    obtain ⟨t, a1, o, b1, b2, b3⟩ := body p e s m args below meth c s₁ B hml ht hP s₁ hh0 (Stand.of_body B)
    exact ⟨t, o, a1, b1, b2, b3⟩
/-- the table of a body with handlers -/
theorem vx_table {p : Program} {x y : MethodName} {S : Spec} {cc bytes : ByteArray} {maxL maxL' : Nat} {ret ret' : Option FieldType} {e : Env} {s s₁ : State} {m : MethodId} {args : Array Value} {below : List Frame} {meth : Method} {c : Code} {hh : List (Nat × Nat × Nat × Nat)}
    (B : BodyLoose p l y S cc maxL ret e s m args below meth c s₁) (h : (Cond.codeWith y bytes maxL' ret' hh).before args s = true) : c.exceptionTable.toList = tableOf hh := by
  obtain ⟨m9, meth9, c9, hn9, h1, h2, -, -, h6, -⟩ := Cond.codeWith_spec h
  cases Option.some.inj (hn9.symm.trans B.named)
  cases Option.some.inj (h1.symm.trans B.method)
  cases Option.some.inj (h2.symm.trans (Stand.of_body B).code)
  rw [← h6, table_eq]
end Bodies
end VXA
/-! ===== END ===== -/
/-! ===== BEGIN a static call of a method with an exception table ===== -/
section VXS
variable {p : Program} {l : Launch} {e : Env} {R : Room} {s : State} {m : MethodId} {args : Array Value} {below : List Frame} {meth : Method} {c : Code} {T : State} {H : Heap} {locs : List Loc} {cells slots : Nat}
abbrev vx_CSW (R : Room) (s : State) (args : Array Value) (own : String) (index : Nat) (y : MethodName) (bytes : ByteArray) (maxL : Nat) (ret : Option FieldType) (hh : List (Nat × Nat × Nat × Nat)) (ws : List Cond) (rm : Room) (mc ms n : Nat) : Prop :=
  (rm.cells = mc ∧ rm.slots = ms ∧ rm.frames + 1 ≤ R.frames ∧ 8 + (maxL + 11) + rm.locals ≤ R.locals ∧ (∀ w ∈ ws, ∀ (a' : Array Value) (U : State), s.WarmedH U.vm → w.before a' U = true) ∧ Cond.codeWith y bytes maxL ret hh ∈ ws) ∧
  (Cond.codeWith y bytes maxL ret hh).before args s = true ∧ (Cond.initialized y.cls).before args s = true ∧ (y.cls ≠ "java/lang/invoke/MethodHandle" ∧ y.cls ≠ "java/lang/invoke/VarHandle") ∧
  (∀ sig, parseMethodDescriptor y.desc = some sig → n = sig.parameters.length) ∧ (Cond.methodLink own index y).before args s = true ∧ (Cond.static y).before args s = true
theorem vx_cwSW {own : String} {index maxL mc ms : Nat} {y : MethodName} {bytes : ByteArray} {ret : Option FieldType} {hh : List (Nat × Nat × Nat × Nat)} {Ts ws ws' : List Cond} {rm : Room} (n : Nat) (ht : ∀ w ∈ Ts, w.before args s = true) (hT : GoodIn Ts (va_wsS own index y ws)) (hw : ws = Cond.codeWith y bytes maxL ret hh :: ws') (hrc : rm.cells = mc) (hrs : rm.slots = ms)
    (hd : y.cls ≠ "java/lang/invoke/MethodHandle" ∧ y.cls ≠ "java/lang/invoke/VarHandle" ∧ (parseMethodDescriptor y.desc).map (fun d => d.parameters.length) = some n) (hR : rm.frames + 1 ≤ R.frames ∧ 8 + (maxL + 11) + rm.locals ≤ R.locals) :
    vx_CSW R s args own index y bytes maxL ret hh ws rm mc ms n := by
  have ok : ∀ w ∈ va_wsS own index y ws, w.before args s = true := fun w h => ht w (hT w h).1
  have hG : GoodIn Ts ws := fun w h => hT w (by unfold va_wsS; exact List.mem_append_right _ h)
  have hc : Cond.codeWith y bytes maxL ret hh ∈ ws := by rw [hw]; exact List.mem_cons_self
  refine ⟨⟨hrc, hrs, hR.1, hR.2, pay_in ht hG, hc⟩, ht _ (hG _ hc).1, ok _ (by simp [va_wsS]), ⟨hd.1, hd.2.1⟩, fun sig h => ?_, ok _ (by simp [va_wsS]), ok _ (by simp [va_wsS])⟩
  have h2 := hd.2.2
  rw [h] at h2
  exact (Option.some.inj h2).symm
theorem vx_callSW (X : Stand p l e R s m args below meth c T locs cells slots) (hexec : p.tables.exec = Jvm.exec) {own : String} {index : Nat} {y : MethodName} {bytes : ByteArray} {maxL : Nat} {ret : Option FieldType} {hh : List (Nat × Nat × Nat × Nat)}
    (hown : s.vm.findClass own = some m.cls) (hlink : (Cond.methodLink own index y).before args s = true) (hstat : (Cond.static y).before args s = true) (hinit : (Cond.initialized y.cls).before args s = true)
    (hcode : (Cond.codeWith y bytes maxL ret hh).before args s = true) (hy : y.cls ≠ "java/lang/invoke/MethodHandle" ∧ y.cls ≠ "java/lang/invoke/VarHandle")
    {W9 : Nat} {Pre : Pt → Array Value → Prop} {Post : Pt → Array Value → Option Value → Pt → Prop} (hK : Back l R p e below s args y 3 W9 Pre Post)
    {g : JFrame} (hg : g.method = m) (hsize : g.locals.size = c.maxLocals) {argsL rest : List Value} (hlen : ∀ sig, parseMethodDescriptor y.desc = some sig → argsL.length = sig.parameters.length)
    (hstack : g.stack = argsL.reverse ++ rest) (hW : 2 * g.monitorRoom + (rest.map fun v => v.category).sum ≤ W9) (hdg : decode c.code g.pc = .ok (.invokestatic index, 3))
    (hpre : ∀ vm₁, s.WarmedH vm₁ → Pre ⟨T.setVm vm₁, locs, cells, slots⟩ argsL.toArray) :
    ∃ (v : Option Value) (vm₁ : Vm) (B : Pt), s.WarmedH vm₁ ∧ Stand p l e R s m args below meth c B.U B.locs B.cells B.slots ∧ Post ⟨T.setVm vm₁, locs, cells, slots⟩ argsL.toArray v B ∧
      ∀ target, Steps p.tables e below (B.U.setTop { g with pc := g.pc + 3, stack := v.toList ++ rest }) target → Steps p.tables e below (T.setTop g) target := by
  obtain ⟨mk, methM, cM, hnamed, hmethM, -, -, -, -, -, -, hsigM⟩ := Cond.codeWith_spec hcode
  have hstatic : methM.isStatic = true := Cond.static_spec hnamed hmethM hstat
  obtain ⟨kP, hkP, -⟩ := className_of_methodNamed hnamed
  have hinitP : kP.init = .initialized := Cond.initialized_spec (findClass_of_methodNamed hnamed) hkP hinit
  obtain ⟨vm₁, X₁, hstep₁⟩ := X.invokestatic hexec hown hlink hnamed hmethM hstatic hkP hinitP hy (g := g) hg (argsL := argsL) (rest := rest) (hlen _ hsigM) hstack hdg
  obtain ⟨v, B, X', hpost, hsteps⟩ := hK m meth c ⟨T.setVm vm₁, locs, cells, slots⟩ { g with stack := rest } (.invokestatic index) mk argsL.toArray X₁ hg hsize hdg hW (X₁.named hnamed) (hpre vm₁ X₁.warmed)
  exact ⟨v, vm₁, B, X₁.warmed, X', hpost, fun target h => hstep₁ _ fun acts => by rw [doInvoke_state]; exact hsteps.trans h⟩
theorem vx_runSW {y : MethodName} {bytes cc : ByteArray} {maxL nL mc ms n index : Nat} {ret : Option FieldType} {hh : List (Nat × Nat × Nat × Nat)} {ws : List Cond} {rm : Room} {Pc : Array Value → State → Prop} {Qc : Array Value → State → Outcome → State → Prop} {free : Addr → Prop} {Ts : List Cond} {own : String} {As rest : List Value} {g : JFrame}
    (S : CallFix p m c cc nL s args Ts own) (hM : Met l y ws rm Pc Qc mc ms free) (cw : vx_CSW R s args own index y bytes maxL ret hh ws rm mc ms n) (hp : PreS s H Pc As)
    (hg : g.method = m) (hn : As.length = n) (hsize : g.locals.size = nL) (hstack : g.stack = As.reverse ++ rest) (hW : 2 * g.monitorRoom + (rest.map fun v => v.category).sum ≤ 8) (hdg : decode cc g.pc = .ok (.invokestatic index, 3)) (hf : cells + mc ≤ R.cells ∧ slots + ms ≤ R.slots) :
    va_Run p l e R s m args below meth c H locs cells slots mc ms g rest (Qc As.toArray) (free) := by
  obtain ⟨⟨hrc, hrs, hfr, hlo, hws, hcw⟩, hcode, hini, hy, hlen, hl, hstt⟩ := cw
  have hK : Back l R p e below s args y 3 8 (PreOf R mc ms Pc) (PostOf Qc mc ms free) := va_backW (hh := hh) (bytes := bytes) (maxL := maxL) (ret := ret) hM hp.1 hrc hrs hfr hlo hws hcw (fun a' U hW => word_at hW (Or.inl (by first | rfl | simp [Cond.onTables, Cond.keeps, Cond.steady])) hini)
  obtain ⟨hx, hb, hml, ho, -⟩ := S
  intro T hT X
  obtain ⟨v, vm₁, ⟨U', l2, c2, s2⟩, hW₁, X', ⟨g', mk, t, L, e1, e2, hq, h1, hL, h2, h3⟩, st⟩ := vx_callSW X hx (hh := hh) (bytes := bytes) (maxL := maxL) (ret := ret) ho hl hstt hini hcode hy hK hg (hsize.trans hml.symm) (argsL := As) (rest := rest) (fun sig h => hn.trans (hlen sig h)) hstack hW (by rw [hb]; exact hdg)
    (fun vm₁ hW₁ => ⟨hf.1, hf.2, hp.2 (T.setVm vm₁) hT hW₁⟩)
  dsimp only [Pt.U, Pt.locs, Pt.cells, Pt.slots] at X' e1 e2 h1 h2 h3 st
  subst h1; subst h2; subst h3
  exact ⟨v, (T.setVm vm₁).calling g' mk As.toArray, t, U', L, hT, X', hL, e1, e2, hq, st⟩
/-- not caught here, past rows that name other classes: it goes on to the caller -/
theorem vx_outP {p : Program} {l : Launch} {e : Env} {R : Room} {s : State} {m : MethodId} {args : Array Value} {below : List Frame} {meth : Method} {c : Code} {H : Heap} {locs : List Loc} {cells slots : Nat} {free : Addr → Prop} {ls : Array Slot} {rest : List Value} {Qc : Array Value → State → Outcome → State → Prop} {XC : String → State → State → Prop}
    {pc : Nat} {own E : String} {ce : Cell} {q : Addr} {mc ms : Nat} (hown : s.vm.findClass own = some m.cls) (hlocks : meth.locks = false)
    (hpass : ∀ z ∈ c.exceptionTable.toList, covers z pc = false ∨ (z.catchType ≠ 0 ∧ ∃ nm : String, (Cond.classLink own z.catchType nm).before args s = true ∧ va_Nc E nm s)) (hcell : H[q]? = some ce) (hv : ce.vm = .none) (hcl : s.vm.findClass E = some ce.cls)
    (hx : ∀ t : State, t.heap = H → s.vm.Alike t.vm → XC E s t) (hf : ∀ z ∈ locs, free z.base) (hc : cells ≤ mc) (hs : slots ≤ ms) :
    vx_W p l e R s m args below meth c H locs cells slots (vx_MQ below Qc XC args s mc ms free) (F0 m pc ls rest) q := by
  intro T hT X
  have hpl : e.platform.magicAccessors = ({} : Platform).magicAccessors := by rw [X.admits.platform]
  obtain ⟨vm', hW', X', st⟩ := X.outThrough hlocks q (g := F0 m pc ls rest) rfl rfl rfl (cell := ce) (by rw [hT]; exact hcell) (by rw [hv]; rfl)
    (by obtain ⟨k9, h9, -⟩ := Vm.findClass_spec hcl; exact ⟨k9, h9⟩) (fun z hz => by
      rcases hpass z hz with h | ⟨hz0, nm, hl1, hn1⟩
      · exact Or.inl h
      · obtain ⟨c6, hc6, hcl6⟩ := Cond.classLink_spec hown hl1 e.platform hpl
        obtain ⟨a8, b8, h1, h2, h3⟩ := hn1
        cases Option.some.inj (h1.symm.trans hcl)
        cases Option.some.inj (h2.symm.trans hc6)
        exact Or.inr ⟨hz0, _, hcl6, h3⟩)
  obtain ⟨g₀, hfr⟩ := X'.frames_eq
  have hcell9 : ((T.setVm vm').setFrames (.throwing q :: below)).heap[q]? = some ce := by
    show T.heap[q]? = some ce
    rw [hT]; exact hcell
  have hend : Ended ((T.setVm vm').setFrames (.throwing q :: below)) below (.threw q) := State.frames_setFrames _ (State.cur_lt_of_frames hfr)
  refine ⟨(T.setVm vm').setFrames (.throwing q :: below), ?_, .threw q, X'.here.running, hend, Or.inr ⟨q, rfl, E, ce, locs, hx _ hT (X'.ends _).1.alike, hcell9, hv, hcl, (X'.ends _).1, (X'.ends _).2.mono hc hs, hf⟩⟩
  rw [X.pushThrowing_eq]
  exact st
/-- a thing of a world lies in the heap -/
theorem vx_lt {D : va_G} {cl : List vw_C} {ws : va_W} {H1 : Heap} (h : va_P D cl ws H1) {k : Nat} {q : Nat × va_E} (hk : ws[k]? = some q) : q.1 < H1.size := (h k q hk).lt
end VXS
/-! ===== END ===== -/
/-! ===== BEGIN methods with a table of their own: called by a name, returning or throwing ===== -/
section VXH
/-! vx_backW, vx_callVX, vx_callSX, vx_callVW, vx_runVW, vx_runVX, vx_runSX, vx_ofWH follow the same proofs as their sisters above (Free/Laws.lean, Shelf42/LK1.lean); vx_outP calls Shelf42/NT130.lean (outThrough). -/
section
variable {l : Launch} {R : Room} {p : Program} {e : Env} {below : List Frame} {s : State} {sargs : Array Value} {y : MethodName} {len W9 : Nat}
theorem vx_backW {ws : List Cond} {rm : Room} {Pc : Array Value → State → Prop} {Qc : Array Value → State → Outcome → State → Prop} {XC : String → State → State → Prop} {mc ms : Nat} {free : Addr → Prop} {bytes : ByteArray} {maxL : Nat} {ret : Option FieldType} {hh : List (Nat × Nat × Nat × Nat)}
    (hM : vx_Met l y ws rm Pc Qc XC mc ms free) (hblind : FrameBlind Pc) (hrc : rm.cells = mc) (hrs : rm.slots = ms)
    (hframes : rm.frames + 1 ≤ R.frames) (hlocals : W9 + (maxL + 11) + rm.locals ≤ R.locals)
    (hws : ∀ w ∈ ws, ∀ a' U, s.WarmedH U.vm → w.before a' U = true) (hcode : Cond.codeWith y bytes maxL ret hh ∈ ws) (hinit : ∀ a' U, s.WarmedH U.vm → (Cond.initialized y.cls).before a' U = true) :
    vx_Back l R p e below s sargs y len W9 (PreOf R mc ms Pc) (PostOf Qc mc ms free) (vx_Post XC mc ms free) := by
  intro m meth c A g ig mk a X hg hsize hdg hW hn hp
  have h1 : (headSpec ws rm).pre.before a A.U = true := atoms_intro fun w hw => hws w hw _ _ X.warmed
  have h2 : (Cond.codeWith y bytes maxL ret hh).before a A.U = true := hws _ hcode _ _ X.warmed
  have h3 : (Cond.initialized y.cls).before a A.U = true := hinit _ _ X.warmed
  have h4 : A.cells + (headSpec ws rm).room.cells ≤ R.cells := by rw [show (headSpec ws rm).room.cells = mc from hrc]; exact hp.1
  have h5 : A.slots + (headSpec ws rm).room.slots ≤ R.slots := by rw [show (headSpec ws rm).room.slots = ms from hrs]; exact hp.2.1
  have hPc : Pc a (A.U.calling g mk a) := hblind _ _ _ _ hp.2.2
  obtain ⟨U, Ls, c0, s0⟩ := A
  dsimp only [Pt.U, Pt.locs, Pt.cells, Pt.slots] at h1 h2 h3 h4 h5 X hn hPc ⊢
  obtain ⟨m9, methY, cY, hn9, hmY, hcY, -, hlY, -⟩ := Cond.codeWith_spec h2
  cases Option.some.inj (hn9.symm.trans hn)
  obtain ⟨kY, hkY, -⟩ := className_of_methodNamed hn
  have hinitY : kY.init = .initialized := Cond.initialized_spec (findClass_of_methodNamed hn) hkY h3
  have h : At U g.method c below := by rw [hg]; exact X.here
  have hlocals9 : W9 + (maxL + 11) + (headSpec ws rm).room.locals ≤ R.locals := hlocals
  have happ : (headSpec ws rm).appliesLoose y e.platform (U.calling g mk a) = true :=
    Spec.appliesLoose_calling (g := g) h hdg hn hkY hinitY
      (X.room_calling (g := g) (R' := (headSpec ws rm).room) hsize hmY hcY hframes (by rw [hlY]; omega) h4 h5) h1
  obtain ⟨mid, hmid⟩ := h.above
  have hfr : (U.setTop g).frames = (.java g :: mid) ++ below := by rw [State.frames_setTop' g h.top, hmid]; rfl
  obtain ⟨o, s₂, hsteps, -, hend, hq⟩ := Steps.callFree hM p X.admits X.cas X.clock (acts := []) hfr happ hPc trivial
  have hq' : vx_Q Qc XC mc ms free a (U.calling g mk a) o s₂ := hq
  rw [State.frames_setTop' g h.top] at hend
  obtain ⟨g₀, hg0⟩ := Option.isSome_iff_exists.mp h.top
  obtain ⟨r, hr⟩ := State.topJava?_eq_some.mp hg0
  have hr' : (({ U with heap := s₂.heap, slotsUsed := s₂.slotsUsed } : State).setVm s₂.vm).frames = .java g₀ :: r := hr
  rcases hq' with ⟨hqc, L, hfe, hL⟩ | ⟨q, rfl, E, ce, L, hx, hce, hcv, hcl, hW₂, hsm, hL⟩
  · obtain ⟨⟨v, rfl⟩, hW₂, e2, q2, q3, q4, q5, q6⟩ := id hfe
    have e3 : s₂ = ({ (U.calling g mk a).setFrames s₂.frames with heap := s₂.heap, slotsUsed := s₂.slotsUsed } : State).setVm s₂.vm := by
      have : s₂ = ({ s₂ with vm := (U.calling g mk a).vm } : State).setVm s₂.vm := rfl
      rw [e2] at this
      exact this
    obtain ⟨c₂, i₂, len₂, hc₂, hd₂, hf₂⟩ := hend
    have hW' : U.WarmedH s₂.vm := hW₂
    have hcc : c₂ = c := by
      have h1 : s₂.code? g.method = U.code? g.method := by
        rw [State.code?_eq, State.code?_eq, hW'.alike.method?]
      exact Option.some.inj (hc₂.symm.trans (h1.trans h.code))
    subst hcc
    have hlen : len₂ = len := by rw [hdg] at hd₂; cases hd₂; rfl
    subst hlen
    have hs₂ : s₂ = (({ U with heap := s₂.heap, slotsUsed := s₂.slotsUsed } : State).setVm s₂.vm).setTop { g with pc := g.pc + len₂, stack := v.toList ++ g.stack } := by
      refine e3.trans ?_
      rw [hf₂, State.calling_eq h.top, State.setFrames_setFrames, State.setTop_of_frames _ hr', hr]
      rfl
    have hsame : U.sameButNew ({ U with heap := s₂.heap, slotsUsed := s₂.slotsUsed } : State) L mc ms := by
      refine ⟨?_, q2, q3, q4, q5, q6⟩
      obtain ⟨t, ht, -⟩ := State.frames_cons hr
      show ({ U with heap := s₂.heap, slotsUsed := s₂.slotsUsed } : State) = { U.setFrames U.frames with heap := s₂.heap, slotsUsed := s₂.slotsUsed }
      rw [State.setFrames_self ht]
    subst hg
    refine Or.inl ⟨v, ⟨(({ U with heap := s₂.heap, slotsUsed := s₂.slotsUsed } : State).setVm s₂.vm), Ls ++ L, c0 + mc, s0 + ms⟩,
      ⟨X.admits, X.cas, X.clock, X.frames, X.room, X.hears, X.method, X.code, (X.here.setHeapUsed s₂.heap s₂.slotsUsed).setVm hW'.alike, X.tail, State.WarmedH.trans X.warmed hW', X.limits, X.bytes, X.same.trans (hsame.setVm s.vm)⟩,
      ⟨g, mk, s₂, L, rfl, rfl, hqc, rfl, hL, rfl, rfl⟩, ?_⟩
    show Steps p.tables e below _ ((({ U with heap := s₂.heap, slotsUsed := s₂.slotsUsed } : State).setVm s₂.vm).setTop { g with pc := g.pc + len₂, stack := v.toList ++ g.stack })
    rw [← hs₂]
    exact hsteps
  · obtain ⟨e2, q2, q3, q4, q5, q6⟩ := id hsm
    have e3 : s₂ = ({ (U.calling g mk a).setFrames s₂.frames with heap := s₂.heap, slotsUsed := s₂.slotsUsed } : State).setVm s₂.vm := by
      have : s₂ = ({ s₂ with vm := (U.calling g mk a).vm } : State).setVm s₂.vm := rfl
      rw [e2] at this
      exact this
    have hf₂ : s₂.frames = .throwing q :: .java g :: U.frames.tail := hend
    have hW' : U.WarmedH s₂.vm := hW₂
    have hs₂ : s₂ = ((({ U with heap := s₂.heap, slotsUsed := s₂.slotsUsed } : State).setVm s₂.vm).setTop g).pushFrame (.throwing q) := by
      refine e3.trans ?_
      rw [hf₂, State.calling_eq h.top, State.setFrames_setFrames, State.pushFrame, State.frames_setTop _ hr', State.setTop_of_frames _ hr', State.setFrames_setFrames, hr]
      rfl
    have hsame : U.sameButNew ({ U with heap := s₂.heap, slotsUsed := s₂.slotsUsed } : State) L mc ms := by
      refine ⟨?_, q2, q3, q4, q5, q6⟩
      obtain ⟨t, ht, -⟩ := State.frames_cons hr
      show ({ U with heap := s₂.heap, slotsUsed := s₂.slotsUsed } : State) = { U.setFrames U.frames with heap := s₂.heap, slotsUsed := s₂.slotsUsed }
      rw [State.setFrames_self ht]
    subst hg
    refine Or.inr ⟨q, ⟨(({ U with heap := s₂.heap, slotsUsed := s₂.slotsUsed } : State).setVm s₂.vm), Ls ++ L, c0 + mc, s0 + ms⟩,
      ⟨X.admits, X.cas, X.clock, X.frames, X.room, X.hears, X.method, X.code, (X.here.setHeapUsed s₂.heap s₂.slotsUsed).setVm hW'.alike, X.tail, State.WarmedH.trans X.warmed hW', X.limits, X.bytes, X.same.trans (hsame.setVm s.vm)⟩,
      ⟨g, mk, s₂, L, E, ce, rfl, rfl, hx, hce, hcv, hcl, rfl, hL, rfl, rfl⟩, ?_⟩
    show Steps p.tables e below _ (((({ U with heap := s₂.heap, slotsUsed := s₂.slotsUsed } : State).setVm s₂.vm).setTop g).pushFrame (.throwing q))
    rw [← hs₂]
    exact hsteps
end
variable {p : Program} {l : Launch} {e : Env} {R : Room} {s : State} {m : MethodId} {args : Array Value} {below : List Frame} {meth : Method} {c : Code} {T : State} {H : Heap} {locs : List Loc} {cells slots : Nat}
theorem vx_callVX (X : Stand p l e R s m args below meth c T locs cells slots) (hexec : p.tables.exec = Jvm.exec) {own C : String} {index : Nat} {y : MethodName} {bytes : ByteArray} {maxL : Nat} {ret : Option FieldType} {hh : List (Nat × Nat × Nat × Nat)}
    (hown : s.vm.findClass own = some m.cls) (hlink : (Cond.methodLink own index y).before args s = true) (hinst : (Cond.instanceMethod y).before args s = true) (hsel : (Cond.selects C y y).before args s = true)
    (hcode : (Cond.codeWith y bytes maxL ret hh).before args s = true) (hy : y.cls ≠ "java/lang/invoke/MethodHandle" ∧ y.cls ≠ "java/lang/invoke/VarHandle")
    {W9 : Nat} {Pre : Pt → Array Value → Prop} {Post : Pt → Array Value → Option Value → Pt → Prop} {PostX : Pt → Array Value → Addr → Pt → Prop} (hK : vx_Back l R p e below s args y 3 W9 Pre Post PostX)
    {b : Addr} {cellB : Cell} (hcell : T.heap[b]? = some cellB) (hobj : cellB.vm.isStatics = false) (hcls : s.vm.findClass C = some cellB.cls)
    {g : JFrame} (hg : g.method = m) (hsize : g.locals.size = c.maxLocals) {argsL rest : List Value} (hlen : ∀ sig, parseMethodDescriptor y.desc = some sig → argsL.length = sig.parameters.length)
    (hstack : g.stack = argsL.reverse ++ .ref b :: rest) (hW : 2 * g.monitorRoom + (rest.map fun v => v.category).sum ≤ W9) (hdg : decode c.code g.pc = .ok (.invokevirtual index, 3))
    (hpre : ∀ vm₁, s.WarmedH vm₁ → Pre ⟨T.setVm vm₁, locs, cells, slots⟩ (Value.ref b :: argsL).toArray) :
    (∃ (v : Option Value) (vm₁ : Vm) (B : Pt), s.WarmedH vm₁ ∧ Stand p l e R s m args below meth c B.U B.locs B.cells B.slots ∧ Post ⟨T.setVm vm₁, locs, cells, slots⟩ (Value.ref b :: argsL).toArray v B ∧
      ∀ target, Steps p.tables e below (B.U.setTop { g with pc := g.pc + 3, stack := v.toList ++ rest }) target → Steps p.tables e below (T.setTop g) target) ∨
    (∃ (q : Addr) (vm₁ : Vm) (B : Pt), s.WarmedH vm₁ ∧ Stand p l e R s m args below meth c B.U B.locs B.cells B.slots ∧ PostX ⟨T.setVm vm₁, locs, cells, slots⟩ (Value.ref b :: argsL).toArray q B ∧
      Steps p.tables e below (T.setTop g) ((B.U.setTop { g with stack := rest }).pushFrame (.throwing q))) := by
  obtain ⟨mk, methM, hnamed, hmethM, hstM, habM⟩ := Cond.instanceMethod_spec hinst
  obtain ⟨m8, methM', cM, hn8, hmethM', -, -, -, -, -, -, hsigM⟩ := Cond.codeWith_spec hcode
  cases Option.some.inj (hn8.symm.trans hnamed)
  cases hmethM.symm.trans hmethM'
  obtain ⟨c2, r2, m2, q1, q2, q3, q4, kP, hkP, hkPi⟩ := Cond.selects_spec hsel
  cases hcls.symm.trans q1
  cases (State.methodFound?_of_named hnamed hy).symm.trans q2
  cases hnamed.symm.trans q3
  have hselP : selectMethod e.platform s.vm cellB.cls mk = .method mk := by rw [Launch.admits_selectMethod X.admits]; exact q4
  obtain ⟨vm₁, X₁, hstep₁⟩ := X.invokevirtual hexec hown hlink hnamed hmethM hstM hkP hkPi hy (a := b) (cell := cellB) hcell
    (fun z h => by rw [h] at hobj; cases hobj) hselP hmethM habM hkP hkPi (g := g) hg (argsL := argsL) (rest := rest) (hlen _ hsigM) hstack hdg
  rcases hK m meth c ⟨T.setVm vm₁, locs, cells, slots⟩ { g with stack := rest } (.invokevirtual index) mk (Value.ref b :: argsL).toArray X₁ hg hsize hdg hW (X₁.named hnamed) (hpre vm₁ X₁.warmed) with ⟨v, B, X', hpost, hsteps⟩ | ⟨q, B, X', hpost, hsteps⟩
  · exact Or.inl ⟨v, vm₁, B, X₁.warmed, X', hpost, fun target h => hstep₁ _ fun acts => by rw [doInvoke_state]; exact hsteps.trans h⟩
  · exact Or.inr ⟨q, vm₁, B, X₁.warmed, X', hpost, hstep₁ _ fun acts => by rw [doInvoke_state]; exact hsteps⟩
theorem vx_callSX (X : Stand p l e R s m args below meth c T locs cells slots) (hexec : p.tables.exec = Jvm.exec) {own : String} {index : Nat} {y : MethodName} {bytes : ByteArray} {maxL : Nat} {ret : Option FieldType} {hh : List (Nat × Nat × Nat × Nat)}
    (hown : s.vm.findClass own = some m.cls) (hlink : (Cond.methodLink own index y).before args s = true) (hstat : (Cond.static y).before args s = true) (hinit : (Cond.initialized y.cls).before args s = true)
    (hcode : (Cond.codeWith y bytes maxL ret hh).before args s = true) (hy : y.cls ≠ "java/lang/invoke/MethodHandle" ∧ y.cls ≠ "java/lang/invoke/VarHandle")
    {W9 : Nat} {Pre : Pt → Array Value → Prop} {Post : Pt → Array Value → Option Value → Pt → Prop} {PostX : Pt → Array Value → Addr → Pt → Prop} (hK : vx_Back l R p e below s args y 3 W9 Pre Post PostX)
    {g : JFrame} (hg : g.method = m) (hsize : g.locals.size = c.maxLocals) {argsL rest : List Value} (hlen : ∀ sig, parseMethodDescriptor y.desc = some sig → argsL.length = sig.parameters.length)
    (hstack : g.stack = argsL.reverse ++ rest) (hW : 2 * g.monitorRoom + (rest.map fun v => v.category).sum ≤ W9) (hdg : decode c.code g.pc = .ok (.invokestatic index, 3))
    (hpre : ∀ vm₁, s.WarmedH vm₁ → Pre ⟨T.setVm vm₁, locs, cells, slots⟩ argsL.toArray) :
    (∃ (v : Option Value) (vm₁ : Vm) (B : Pt), s.WarmedH vm₁ ∧ Stand p l e R s m args below meth c B.U B.locs B.cells B.slots ∧ Post ⟨T.setVm vm₁, locs, cells, slots⟩ argsL.toArray v B ∧
      ∀ target, Steps p.tables e below (B.U.setTop { g with pc := g.pc + 3, stack := v.toList ++ rest }) target → Steps p.tables e below (T.setTop g) target) ∨
    (∃ (q : Addr) (vm₁ : Vm) (B : Pt), s.WarmedH vm₁ ∧ Stand p l e R s m args below meth c B.U B.locs B.cells B.slots ∧ PostX ⟨T.setVm vm₁, locs, cells, slots⟩ argsL.toArray q B ∧
      Steps p.tables e below (T.setTop g) ((B.U.setTop { g with stack := rest }).pushFrame (.throwing q))) := by
  obtain ⟨mk, methM, cM, hnamed, hmethM, -, -, -, -, -, -, hsigM⟩ := Cond.codeWith_spec hcode
  have hstatic : methM.isStatic = true := Cond.static_spec hnamed hmethM hstat
  obtain ⟨kP, hkP, -⟩ := className_of_methodNamed hnamed
  have hinitP : kP.init = .initialized := Cond.initialized_spec (findClass_of_methodNamed hnamed) hkP hinit
  obtain ⟨vm₁, X₁, hstep₁⟩ := X.invokestatic hexec hown hlink hnamed hmethM hstatic hkP hinitP hy (g := g) hg (argsL := argsL) (rest := rest) (hlen _ hsigM) hstack hdg
  rcases hK m meth c ⟨T.setVm vm₁, locs, cells, slots⟩ { g with stack := rest } (.invokestatic index) mk argsL.toArray X₁ hg hsize hdg hW (X₁.named hnamed) (hpre vm₁ X₁.warmed) with ⟨v, B, X', hpost, hsteps⟩ | ⟨q, B, X', hpost, hsteps⟩
  · exact Or.inl ⟨v, vm₁, B, X₁.warmed, X', hpost, fun target h => hstep₁ _ fun acts => by rw [doInvoke_state]; exact hsteps.trans h⟩
  · exact Or.inr ⟨q, vm₁, B, X₁.warmed, X', hpost, hstep₁ _ fun acts => by rw [doInvoke_state]; exact hsteps⟩
theorem vx_callVW (X : Stand p l e R s m args below meth c T locs cells slots) (hexec : p.tables.exec = Jvm.exec) {own C : String} {index : Nat} {y : MethodName} {bytes : ByteArray} {maxL : Nat} {ret : Option FieldType} {hh : List (Nat × Nat × Nat × Nat)}
    (hown : s.vm.findClass own = some m.cls) (hlink : (Cond.methodLink own index y).before args s = true) (hinst : (Cond.instanceMethod y).before args s = true) (hsel : (Cond.selects C y y).before args s = true)
    (hcode : (Cond.codeWith y bytes maxL ret hh).before args s = true) (hy : y.cls ≠ "java/lang/invoke/MethodHandle" ∧ y.cls ≠ "java/lang/invoke/VarHandle")
    {W9 : Nat} {Pre : Pt → Array Value → Prop} {Post : Pt → Array Value → Option Value → Pt → Prop} (hK : Back l R p e below s args y 3 W9 Pre Post)
    {b : Addr} {cellB : Cell} (hcell : T.heap[b]? = some cellB) (hobj : cellB.vm.isStatics = false) (hcls : s.vm.findClass C = some cellB.cls)
    {g : JFrame} (hg : g.method = m) (hsize : g.locals.size = c.maxLocals) {argsL rest : List Value} (hlen : ∀ sig, parseMethodDescriptor y.desc = some sig → argsL.length = sig.parameters.length)
    (hstack : g.stack = argsL.reverse ++ .ref b :: rest) (hW : 2 * g.monitorRoom + (rest.map fun v => v.category).sum ≤ W9) (hdg : decode c.code g.pc = .ok (.invokevirtual index, 3))
    (hpre : ∀ vm₁, s.WarmedH vm₁ → Pre ⟨T.setVm vm₁, locs, cells, slots⟩ (Value.ref b :: argsL).toArray) :
    ∃ (v : Option Value) (vm₁ : Vm) (B : Pt), s.WarmedH vm₁ ∧ Stand p l e R s m args below meth c B.U B.locs B.cells B.slots ∧ Post ⟨T.setVm vm₁, locs, cells, slots⟩ (Value.ref b :: argsL).toArray v B ∧
      ∀ target, Steps p.tables e below (B.U.setTop { g with pc := g.pc + 3, stack := v.toList ++ rest }) target → Steps p.tables e below (T.setTop g) target := by
  obtain ⟨mk, methM, hnamed, hmethM, hstM, habM⟩ := Cond.instanceMethod_spec hinst
  obtain ⟨m8, methM', cM, hn8, hmethM', -, -, -, -, -, -, hsigM⟩ := Cond.codeWith_spec hcode
  cases Option.some.inj (hn8.symm.trans hnamed)
  cases hmethM.symm.trans hmethM'
  obtain ⟨c2, r2, m2, q1, q2, q3, q4, kP, hkP, hkPi⟩ := Cond.selects_spec hsel
  cases hcls.symm.trans q1
  cases (State.methodFound?_of_named hnamed hy).symm.trans q2
  cases hnamed.symm.trans q3
  have hselP : selectMethod e.platform s.vm cellB.cls mk = .method mk := by rw [Launch.admits_selectMethod X.admits]; exact q4
  obtain ⟨vm₁, X₁, hstep₁⟩ := X.invokevirtual hexec hown hlink hnamed hmethM hstM hkP hkPi hy (a := b) (cell := cellB) hcell
    (fun z h => by rw [h] at hobj; cases hobj) hselP hmethM habM hkP hkPi (g := g) hg (argsL := argsL) (rest := rest) (hlen _ hsigM) hstack hdg
  obtain ⟨v, B, X', hpost, hsteps⟩ := hK m meth c ⟨T.setVm vm₁, locs, cells, slots⟩ { g with stack := rest } (.invokevirtual index) mk (Value.ref b :: argsL).toArray X₁ hg hsize hdg hW (X₁.named hnamed) (hpre vm₁ X₁.warmed)
  exact ⟨v, vm₁, B, X₁.warmed, X', hpost, fun target h => hstep₁ _ fun acts => by rw [doInvoke_state]; exact hsteps.trans h⟩
abbrev vx_CVW (R : Room) (s : State) (args : Array Value) (own C : String) (index : Nat) (y : MethodName) (bytes : ByteArray) (maxL : Nat) (ret : Option FieldType) (hh : List (Nat × Nat × Nat × Nat)) (ws : List Cond) (rm : Room) (mc ms n : Nat) : Prop :=
  (rm.cells = mc ∧ rm.slots = ms ∧ rm.frames + 1 ≤ R.frames ∧ 8 + (maxL + 11) + rm.locals ≤ R.locals ∧ (∀ w ∈ ws, ∀ (a' : Array Value) (U : State), s.WarmedH U.vm → w.before a' U = true) ∧ Cond.codeWith y bytes maxL ret hh ∈ ws) ∧
  (Cond.codeWith y bytes maxL ret hh).before args s = true ∧ (Cond.initialized y.cls).before args s = true ∧ (y.cls ≠ "java/lang/invoke/MethodHandle" ∧ y.cls ≠ "java/lang/invoke/VarHandle") ∧
  (∀ sig, parseMethodDescriptor y.desc = some sig → n = sig.parameters.length) ∧ (Cond.methodLink own index y).before args s = true ∧ (Cond.instanceMethod y).before args s = true ∧ (Cond.selects C y y).before args s = true
theorem vx_cwVW {own C : String} {index maxL mc ms : Nat} {y : MethodName} {bytes : ByteArray} {ret : Option FieldType} {hh : List (Nat × Nat × Nat × Nat)} {Ts ws ws' : List Cond} {rm : Room} (n : Nat) (ht : ∀ w ∈ Ts, w.before args s = true) (hT : GoodIn Ts (wsV own index C y ws)) (hw : ws = Cond.codeWith y bytes maxL ret hh :: ws') (hrc : rm.cells = mc) (hrs : rm.slots = ms)
    (hd : y.cls = C ∧ y.cls ≠ "java/lang/invoke/MethodHandle" ∧ y.cls ≠ "java/lang/invoke/VarHandle" ∧ (parseMethodDescriptor y.desc).map (fun d => d.parameters.length) = some n) (hR : rm.frames + 1 ≤ R.frames ∧ 8 + (maxL + 11) + rm.locals ≤ R.locals) :
    vx_CVW R s args own C index y bytes maxL ret hh ws rm mc ms n := by
  obtain ⟨hC, hd⟩ := hd
  subst hC
  have ok : ∀ w ∈ wsV own index y.cls y ws, w.before args s = true := fun w h => ht w (hT w h).1
  have hG : GoodIn Ts ws := fun w h => hT w (by unfold wsV; exact List.mem_append_right _ h)
  have hc : Cond.codeWith y bytes maxL ret hh ∈ ws := by rw [hw]; exact List.mem_cons_self
  refine ⟨⟨hrc, hrs, hR.1, hR.2, pay_in ht hG, hc⟩, ht _ (hG _ hc).1, ok _ (by simp [wsV]), ⟨hd.1, hd.2.1⟩, fun sig h => ?_, ok _ (by simp [wsV]), ok _ (by simp [wsV]), ok _ (by simp [wsV])⟩
  have h2 := hd.2.2
  rw [h] at h2
  exact (Option.some.inj h2).symm
theorem vx_runVW {y : MethodName} {bytes cc : ByteArray} {maxL nL mc ms n index : Nat} {ret : Option FieldType} {hh : List (Nat × Nat × Nat × Nat)} {ws : List Cond} {rm : Room} {Pc : Array Value → State → Prop} {Qc : Array Value → State → Outcome → State → Prop} {free : Addr → Prop} {Ts : List Cond} {own C : String} {b : Addr} {As rest : List Value} {g : JFrame}
    (S : CallFix p m c cc nL s args Ts own) (hM : Met l y ws rm Pc Qc mc ms free) (cw : vx_CVW R s args own C index y bytes maxL ret hh ws rm mc ms n) (hp : PreV s H C b Pc As)
    (hg : g.method = m) (hn : As.length = n) (hsize : g.locals.size = nL) (hstack : g.stack = As.reverse ++ .ref b :: rest) (hW : 2 * g.monitorRoom + (rest.map fun v => v.category).sum ≤ 8) (hdg : decode cc g.pc = .ok (.invokevirtual index, 3)) (hf : cells + mc ≤ R.cells ∧ slots + ms ≤ R.slots) :
    va_Run p l e R s m args below meth c H locs cells slots mc ms g rest (Qc (Value.ref b :: As).toArray) free := by
  obtain ⟨⟨hrc, hrs, hfr, hlo, hws, hcw⟩, hcode, hini, hy, hlen, hl, hin, hse⟩ := cw
  have hK : Back l R p e below s args y 3 8 (PreOf R mc ms Pc) (PostOf Qc mc ms free) := va_backW (hh := hh) (bytes := bytes) (maxL := maxL) (ret := ret) hM hp.1 hrc hrs hfr hlo hws hcw (fun a' U hW => word_at hW (Or.inl (by first | rfl | simp [Cond.onTables, Cond.keeps, Cond.steady])) hini)
  obtain ⟨hx, hb, hml, ho, -⟩ := S
  obtain ⟨-, ⟨cellB, hcB, hoB, hclB⟩, hPc⟩ := hp
  intro T hT X
  obtain ⟨v, vm₁, ⟨U', l2, c2, s2⟩, hW₁, X', ⟨g', mk, t, L, e1, e2, hq, h1, hL, h2, h3⟩, st⟩ := vx_callVW X hx (C := C) (hh := hh) (bytes := bytes) (maxL := maxL) (ret := ret) ho hl hin hse hcode hy hK (by rw [hT]; exact hcB) hoB hclB hg (hsize.trans hml.symm) (argsL := As) (rest := rest) (fun sig h => hn.trans (hlen sig h)) hstack hW (by rw [hb]; exact hdg)
    (fun vm₁ hW₁ => ⟨hf.1, hf.2, hPc (T.setVm vm₁) hT hW₁⟩)
  dsimp only [Pt.U, Pt.locs, Pt.cells, Pt.slots] at X' e1 e2 h1 h2 h3 st
  subst h1; subst h2; subst h3
  exact ⟨v, (T.setVm vm₁).calling g' mk (Value.ref b :: As).toArray, t, U', L, hT, X', hL, e1, e2, hq, st⟩
section
variable {y : MethodName} {bytes cc : ByteArray} {maxL nL mc ms n index : Nat} {ret : Option FieldType} {ws : List Cond} {rm : Room} {Pc : Array Value → State → Prop} {Qc : Array Value → State → Outcome → State → Prop} {XC : String → State → State → Prop} {free : Addr → Prop} {Ts : List Cond} {own C : String} {b : Addr} {As rest : List Value} {g : JFrame}
theorem vx_runVX {hh : List (Nat × Nat × Nat × Nat)} (S : CallFix p m c cc nL s args Ts own) (hM : vx_Met l y ws rm Pc Qc XC mc ms free) (cw : vx_CVW R s args own C index y bytes maxL ret hh ws rm mc ms n) (hp : PreV s H C b Pc As)
    (hg : g.method = m) (hn : As.length = n) (hsize : g.locals.size = nL) (hstack : g.stack = As.reverse ++ .ref b :: rest) (hW : 2 * g.monitorRoom + (rest.map fun v => v.category).sum ≤ 8) (hdg : decode cc g.pc = .ok (.invokevirtual index, 3)) (hf : cells + mc ≤ R.cells ∧ slots + ms ≤ R.slots) :
    vx_Run p l e R s m args below meth c H locs cells slots mc ms g rest (Qc (Value.ref b :: As).toArray) XC free := by
  obtain ⟨⟨hrc, hrs, hfr, hlo, hws, hcw⟩, hcode, hini, hy, hlen, hl, hin, hse⟩ := cw
  have hK : vx_Back l R p e below s args y 3 8 (PreOf R mc ms Pc) (PostOf Qc mc ms free) (vx_Post XC mc ms free) := vx_backW (hh := hh) (bytes := bytes) (maxL := maxL) (ret := ret) hM hp.1 hrc hrs hfr hlo hws hcw (fun a' U hW => word_at hW (Or.inl (by first | rfl | simp [Cond.onTables, Cond.keeps, Cond.steady])) hini)
  obtain ⟨hx, hb, hml, ho, -⟩ := S
  obtain ⟨-, ⟨cellB, hcB, hoB, hclB⟩, hPc⟩ := hp
  intro T hT X
  rcases vx_callVX X hx (C := C) (hh := hh) (bytes := bytes) (maxL := maxL) (ret := ret) ho hl hin hse hcode hy hK (by rw [hT]; exact hcB) hoB hclB hg (hsize.trans hml.symm) (argsL := As) (rest := rest) (fun sig h => hn.trans (hlen sig h)) hstack hW (by rw [hb]; exact hdg)
    (fun vm₁ hW₁ => ⟨hf.1, hf.2, hPc (T.setVm vm₁) hT hW₁⟩) with ⟨v, vm₁, ⟨U', l2, c2, s2⟩, hW₁, X', ⟨g', mk, t, L, e1, e2, hq, h1, hL, h2, h3⟩, st⟩ | ⟨q, vm₁, ⟨U', l2, c2, s2⟩, hW₁, X', ⟨g', mk, t, L, E, ce, e1, e2, hq, hce, hcv, hcl, h1, hL, h2, h3⟩, st⟩
  · dsimp only [Pt.U, Pt.locs, Pt.cells, Pt.slots] at X' e1 e2 h1 h2 h3 st
    subst h1; subst h2; subst h3
    exact Or.inl ⟨v, (T.setVm vm₁).calling g' mk (Value.ref b :: As).toArray, t, U', L, hT, X', hL, e1, e2, hq, st⟩
  · dsimp only [Pt.U, Pt.locs, Pt.cells, Pt.slots] at X' e1 e2 h1 h2 h3 st hcl
    subst h1; subst h2; subst h3
    exact Or.inr ⟨q, (T.setVm vm₁).calling g' mk (Value.ref b :: As).toArray, t, U', L, E, ce, hT, X', hL, e1, e2, hq, hce, hcv, vx_cls hW₁ hcl, st⟩
theorem vx_runSX {hh : List (Nat × Nat × Nat × Nat)} (S : CallFix p m c cc nL s args Ts own) (hM : vx_Met l y ws rm Pc Qc XC mc ms free) (cw : vx_CSW R s args own index y bytes maxL ret hh ws rm mc ms n) (hp : PreS s H Pc As)
    (hg : g.method = m) (hn : As.length = n) (hsize : g.locals.size = nL) (hstack : g.stack = As.reverse ++ rest) (hW : 2 * g.monitorRoom + (rest.map fun v => v.category).sum ≤ 8) (hdg : decode cc g.pc = .ok (.invokestatic index, 3)) (hf : cells + mc ≤ R.cells ∧ slots + ms ≤ R.slots) :
    vx_Run p l e R s m args below meth c H locs cells slots mc ms g rest (Qc As.toArray) XC free := by
  obtain ⟨⟨hrc, hrs, hfr, hlo, hws, hcw⟩, hcode, hini, hy, hlen, hl, hstt⟩ := cw
  have hK : vx_Back l R p e below s args y 3 8 (PreOf R mc ms Pc) (PostOf Qc mc ms free) (vx_Post XC mc ms free) := vx_backW (hh := hh) (bytes := bytes) (maxL := maxL) (ret := ret) hM hp.1 hrc hrs hfr hlo hws hcw (fun a' U hW => word_at hW (Or.inl (by first | rfl | simp [Cond.onTables, Cond.keeps, Cond.steady])) hini)
  obtain ⟨hx, hb, hml, ho, -⟩ := S
  intro T hT X
  rcases vx_callSX X hx (hh := hh) (bytes := bytes) (maxL := maxL) (ret := ret) ho hl hstt hini hcode hy hK hg (hsize.trans hml.symm) (argsL := As) (rest := rest) (fun sig h => hn.trans (hlen sig h)) hstack hW (by rw [hb]; exact hdg)
    (fun vm₁ hW₁ => ⟨hf.1, hf.2, hp.2 (T.setVm vm₁) hT hW₁⟩) with ⟨v, vm₁, ⟨U', l2, c2, s2⟩, hW₁, X', ⟨g', mk, t, L, e1, e2, hq, h1, hL, h2, h3⟩, st⟩ | ⟨q, vm₁, ⟨U', l2, c2, s2⟩, hW₁, X', ⟨g', mk, t, L, E, ce, e1, e2, hq, hce, hcv, hcl, h1, hL, h2, h3⟩, st⟩
  · dsimp only [Pt.U, Pt.locs, Pt.cells, Pt.slots] at X' e1 e2 h1 h2 h3 st
    subst h1; subst h2; subst h3
    exact Or.inl ⟨v, (T.setVm vm₁).calling g' mk As.toArray, t, U', L, hT, X', hL, e1, e2, hq, st⟩
  · dsimp only [Pt.U, Pt.locs, Pt.cells, Pt.slots] at X' e1 e2 h1 h2 h3 st hcl
    subst h1; subst h2; subst h3
    exact Or.inr ⟨q, (T.setVm vm₁).calling g' mk As.toArray, t, U', L, E, ce, hT, X', hL, e1, e2, hq, hce, hcv, vx_cls hW₁ hcl, st⟩
end
end VXH
theorem vx_ofWH {l : Launch} {y : MethodName} {ws ws' : List Cond} {rm : Room} {Pc : Array Value → State → Prop} {Qc : Array Value → State → Outcome → State → Prop} {XC : String → State → State → Prop} {mc ms : Nat} {free : Addr → Prop} {cc : ByteArray} {maxL : Nat} {ret : Option FieldType} {hh : List (Nat × Nat × Nat × Nat)}
    (hy : plainName y.cls = true) (hw : ws = Cond.codeWith y cc maxL ret hh :: ws')
    (body : ∀ p e s m args below meth c s₁, BodyLoose p l y (headSpec ws rm) cc maxL ret e s m args below meth c s₁ → c.maxLocals = maxL → Pc args s →
      W p l e (headSpec ws rm).room s m args below meth c s.heap [] 0 0 (vx_MQ below Qc XC args s mc ms free) (entryFrame m args maxL)) : vx_Met l y ws rm Pc Qc XC mc ms free := by
  refine MetFree.of_bodyS (code := cc) (maxLocals := maxL) (ret := ret) hy ?_ ?_
  · intro args s m h hn
    obtain ⟨m9, meth, c, hn9, h1, h2, h3, h4, -, h5, h6, -⟩ := Cond.codeWith_spec (atoms_spec (ws := ws) h _ (by rw [hw]; exact List.mem_cons_self))
    cases hn.symm.trans hn9
    exact ⟨meth, c, h1, h2, h3, h4, h5, h6⟩
  · intro p e s m args below meth c s₁ B hml hP _
    have hh0 : s₁.heap = s.heap := by rw [B.state]; rfl
    obtain ⟨t, a1, o, b1, b2, b3⟩ := body p e s m args below meth c s₁ B hml hP s₁ hh0 (Stand.of_body B)
    exact ⟨t, o, a1, b1, b2, b3⟩
/-! ===== END ===== -/
end
section
def RX0 : String := "Gravimere$Archive"
def TX0 : u_T := fun k => match k with
  | 0 => ("Gravimere$Archive", "pulls", "[J", true)
  | 1 => ("Gravimere$Archive", "months", "[I", true)
  | _ => ("Gravimere$Archive", "count", "I", false)
def tyX0 : Nat → FieldType := fun k => match k with
  | 0 => .array .long
  | 1 => .array .int
  | _ => .int
abbrev wsX00 : List Cond := u_ws RX0 TX0 3
theorem nmX0 : ∀ a, a < 3 → ∀ b, b < 3 → a ≠ b → (TX0 a).2.1 ≠ (TX0 b).2.1 := by decide +kernel
theorem tyX0_ok : ∀ k, k < 3 → parseFieldDescriptor (TX0 k).2.2.1 = some (tyX0 k) := by decide +kernel
abbrev cX0_init : ByteArray := prog_2_method_1_code
def yX0_init : MethodName := ⟨RX0, "<init>", "()V"⟩
abbrev cX0_keep : ByteArray := prog_2_method_2_code
def yX0_keep : MethodName := ⟨RX0, "keep", "([JI)I"⟩
abbrev cX0_trendFrom : ByteArray := prog_2_method_3_code
def yX0_trendFrom : MethodName := ⟨RX0, "trendFrom", "(IIII)J"⟩
def RX1 : String := "Gravimere$Body"
def TX1 : u_T := fun k => match k with
  | 0 => ("Gravimere$Body", "masses", "[J", true)
  | 1 => ("Gravimere$Body", "waters", "[J", true)
  | _ => ("Gravimere$Body", "pulls", "[J", true)
def tyX1 : Nat → FieldType := fun k => match k with
  | 0 => .array .long
  | 1 => .array .long
  | _ => .array .long
abbrev wsX10 : List Cond := u_ws RX1 TX1 3
theorem nmX1 : ∀ a, a < 3 → ∀ b, b < 3 → a ≠ b → (TX1 a).2.1 ≠ (TX1 b).2.1 := by decide +kernel
theorem tyX1_ok : ∀ k, k < 3 → parseFieldDescriptor (TX1 k).2.2.1 = some (tyX1 k) := by decide +kernel
abbrev cX1_init : ByteArray := prog_3_method_1_code
def yX1_init : MethodName := ⟨RX1, "<init>", "()V"⟩
abbrev cX1_putMass : ByteArray := prog_3_method_2_code
def yX1_putMass : MethodName := ⟨RX1, "putMass", "(IIIJ)J"⟩
abbrev cX1_putWater : ByteArray := prog_3_method_3_code
def yX1_putWater : MethodName := ⟨RX1, "putWater", "(IIJ)J"⟩
abbrev cX1_changePulls : ByteArray := prog_3_method_4_code
def yX1_changePulls : MethodName := ⟨RX1, "changePulls", "(IIIJJ)V"⟩
abbrev cX1_keptPull : ByteArray := prog_3_method_5_code
def yX1_keptPull : MethodName := ⟨RX1, "keptPull", "(II)J"⟩
abbrev cX1_summedPull : ByteArray := prog_3_method_6_code
def yX1_summedPull : MethodName := ⟨RX1, "summedPull", "(II)J"⟩
abbrev cX1_squareOf : ByteArray := prog_3_method_7_code
def yX1_squareOf : MethodName := ⟨RX1, "squareOf", "(III)J"⟩
abbrev cX1_pullOf : ByteArray := prog_3_method_8_code
def yX1_pullOf : MethodName := ⟨RX1, "pullOf", "(JJ)J"⟩
def RX2 : String := "Gravimere$Moon"
def TX2 : u_T := fun k => match k with
  | 0 => ("Gravimere$Moon", "strength", "I", false)
  | _ => ("Gravimere$Moon", "period", "I", false)
def tyX2 : Nat → FieldType := fun k => match k with
  | 0 => .int
  | _ => .int
abbrev wsX20 : List Cond := u_ws RX2 TX2 2
theorem nmX2 : ∀ a, a < 2 → ∀ b, b < 2 → a ≠ b → (TX2 a).2.1 ≠ (TX2 b).2.1 := by decide +kernel
theorem tyX2_ok : ∀ k, k < 2 → parseFieldDescriptor (TX2 k).2.2.1 = some (tyX2 k) := by decide +kernel
abbrev cX2_init : ByteArray := prog_4_method_1_code
def yX2_init : MethodName := ⟨RX2, "<init>", "()V"⟩
abbrev cX2_put : ByteArray := prog_4_method_2_code
def yX2_put : MethodName := ⟨RX2, "put", "(II)I"⟩
abbrev cX2_tideIn : ByteArray := prog_4_method_3_code
def yX2_tideIn : MethodName := ⟨RX2, "tideIn", "(I)J"⟩
def RX3 : String := "Gravimere$Needles"
def TX3 : u_T := fun k => match k with
  | 0 => ("Gravimere$Needles", "kinds", "[I", true)
  | 1 => ("Gravimere$Needles", "offs", "[I", true)
  | 2 => ("Gravimere$Needles", "tiedMonths", "[I", true)
  | _ => ("Gravimere$Needles", "count", "I", false)
def tyX3 : Nat → FieldType := fun k => match k with
  | 0 => .array .int
  | 1 => .array .int
  | 2 => .array .int
  | _ => .int
abbrev wsX30 : List Cond := u_ws RX3 TX3 4
theorem nmX3 : ∀ a, a < 4 → ∀ b, b < 4 → a ≠ b → (TX3 a).2.1 ≠ (TX3 b).2.1 := by decide +kernel
theorem tyX3_ok : ∀ k, k < 4 → parseFieldDescriptor (TX3 k).2.2.1 = some (tyX3 k) := by decide +kernel
abbrev cX3_init : ByteArray := prog_5_method_1_code
def yX3_init : MethodName := ⟨RX3, "<init>", "()V"⟩
abbrev cX3_add : ByteArray := prog_5_method_2_code
def yX3_add : MethodName := ⟨RX3, "add", "(III)I"⟩
abbrev cX3_offIn : ByteArray := prog_5_method_3_code
def yX3_offIn : MethodName := ⟨RX3, "offIn", "(II)J"⟩
def RX4 : String := "Gravimere$Survey"
def TX4 : u_T := fun k => match k with
  | 0 => ("Gravimere$Survey", "starts", "[I", true)
  | 1 => ("Gravimere$Survey", "ends", "[I", true)
  | 2 => ("Gravimere$Survey", "rises", "[I", true)
  | 3 => ("Gravimere$Survey", "lineDoubts", "[I", true)
  | 4 => ("Gravimere$Survey", "heights", "[I", true)
  | 5 => ("Gravimere$Survey", "doubts", "[I", true)
  | 6 => ("Gravimere$Survey", "triedDoubts", "[I", true)
  | 7 => ("Gravimere$Survey", "benchmarks", "I", false)
  | _ => ("Gravimere$Survey", "lines", "I", false)
def tyX4 : Nat → FieldType := fun k => match k with
  | 0 => .array .int
  | 1 => .array .int
  | 2 => .array .int
  | 3 => .array .int
  | 4 => .array .int
  | 5 => .array .int
  | 6 => .array .int
  | 7 => .int
  | _ => .int
abbrev wsX40 : List Cond := u_ws RX4 TX4 9
theorem nmX4 : ∀ a, a < 9 → ∀ b, b < 9 → a ≠ b → (TX4 a).2.1 ≠ (TX4 b).2.1 := by decide +kernel
theorem tyX4_ok : ∀ k, k < 9 → parseFieldDescriptor (TX4 k).2.2.1 = some (tyX4 k) := by decide +kernel
abbrev cX4_init : ByteArray := prog_6_method_1_code
def yX4_init : MethodName := ⟨RX4, "<init>", "()V"⟩
abbrev cX4_addBenchmark : ByteArray := prog_6_method_2_code
def yX4_addBenchmark : MethodName := ⟨RX4, "addBenchmark", "()I"⟩
abbrev cX4_addLine : ByteArray := prog_6_method_3_code
def yX4_addLine : MethodName := ⟨RX4, "addLine", "(IIII)I"⟩
abbrev cX4_findHeights : ByteArray := prog_6_method_4_code
def yX4_findHeights : MethodName := ⟨RX4, "findHeights", "()V"⟩
abbrev cX4_knowOnlyFirst : ByteArray := prog_6_method_5_code
def yX4_knowOnlyFirst : MethodName := ⟨RX4, "knowOnlyFirst", "([I)V"⟩
abbrev cX4_surestLine : ByteArray := prog_6_method_6_code
def yX4_surestLine : MethodName := ⟨RX4, "surestLine", "()I"⟩
abbrev cX4_doubtBeyond : ByteArray := prog_6_method_7_code
def yX4_doubtBeyond : MethodName := ⟨RX4, "doubtBeyond", "(I)I"⟩
abbrev cX4_goAlong : ByteArray := prog_6_method_8_code
def yX4_goAlong : MethodName := ⟨RX4, "goAlong", "(I)V"⟩
abbrev cX4_contradicts : ByteArray := prog_6_method_9_code
def yX4_contradicts : MethodName := ⟨RX4, "contradicts", "(I)Z"⟩
abbrev cX4_tryAllLines : ByteArray := prog_6_method_10_code
def yX4_tryAllLines : MethodName := ⟨RX4, "tryAllLines", "()V"⟩
abbrev cX4_tryEachLine : ByteArray := prog_6_method_11_code
def yX4_tryEachLine : MethodName := ⟨RX4, "tryEachLine", "()Z"⟩
abbrev cX4_makesLess : ByteArray := prog_6_method_12_code
def yX4_makesLess : MethodName := ⟨RX4, "makesLess", "(III)Z"⟩
def RX5 : String := "Gravimere"
def TX5 : u_T := fun k => match k with
  | 0 => ("Gravimere", "body", "LGravimere$Body;", true)
  | 1 => ("Gravimere", "moon", "LGravimere$Moon;", true)
  | 2 => ("Gravimere", "needles", "LGravimere$Needles;", true)
  | 3 => ("Gravimere", "survey", "LGravimere$Survey;", true)
  | 4 => ("Gravimere", "archive", "LGravimere$Archive;", true)
  | _ => ("Gravimere", "month", "I", false)
def tyX5 : Nat → FieldType := fun k => match k with
  | 0 => .object "Gravimere$Body"
  | 1 => .object "Gravimere$Moon"
  | 2 => .object "Gravimere$Needles"
  | 3 => .object "Gravimere$Survey"
  | 4 => .object "Gravimere$Archive"
  | _ => .int
abbrev wsX50 : List Cond := u_ws RX5 TX5 6
theorem nmX5 : ∀ a, a < 6 → ∀ b, b < 6 → a ≠ b → (TX5 a).2.1 ≠ (TX5 b).2.1 := by decide +kernel
theorem tyX5_ok : ∀ k, k < 6 → parseFieldDescriptor (TX5 k).2.2.1 = some (tyX5 k) := by decide +kernel
abbrev cX5_init : ByteArray := prog_1_method_1_code
def yX5_init : MethodName := ⟨RX5, "<init>", "()V"⟩
abbrev cX5_mass : ByteArray := prog_1_method_2_code
def yX5_mass : MethodName := ⟨RX5, "mass", "(IIIJ)J"⟩
abbrev cX5_water : ByteArray := prog_1_method_3_code
def yX5_water : MethodName := ⟨RX5, "water", "(IIJ)J"⟩
abbrev cX5_pull : ByteArray := prog_1_method_4_code
def yX5_pull : MethodName := ⟨RX5, "pull", "(II)J"⟩
abbrev cX5_pullAnew : ByteArray := prog_1_method_5_code
def yX5_pullAnew : MethodName := ⟨RX5, "pullAnew", "(II)J"⟩
abbrev cX5_gap : ByteArray := prog_1_method_6_code
def yX5_gap : MethodName := ⟨RX5, "gap", "(II)J"⟩
abbrev cX5_tide : ByteArray := prog_1_method_7_code
def yX5_tide : MethodName := ⟨RX5, "tide", "(II)I"⟩
abbrev cX5_pass : ByteArray := prog_1_method_8_code
def yX5_pass : MethodName := ⟨RX5, "pass", "(I)I"⟩
abbrev cX5_needle : ByteArray := prog_1_method_9_code
def yX5_needle : MethodName := ⟨RX5, "needle", "(II)I"⟩
abbrev cX5_tie : ByteArray := prog_1_method_10_code
def yX5_tie : MethodName := ⟨RX5, "tie", "(I)J"⟩
abbrev cX5_read : ByteArray := prog_1_method_11_code
def yX5_read : MethodName := ⟨RX5, "read", "(III)J"⟩
abbrev cX5_benchmark : ByteArray := prog_1_method_12_code
def yX5_benchmark : MethodName := ⟨RX5, "benchmark", "()I"⟩
abbrev cX5_line : ByteArray := prog_1_method_13_code
def yX5_line : MethodName := ⟨RX5, "line", "(IIII)I"⟩
abbrev cX5_height : ByteArray := prog_1_method_14_code
def yX5_height : MethodName := ⟨RX5, "height", "(I)I"⟩
abbrev cX5_doubt : ByteArray := prog_1_method_15_code
def yX5_doubt : MethodName := ⟨RX5, "doubt", "(I)I"⟩
abbrev cX5_doubtAnew : ByteArray := prog_1_method_16_code
def yX5_doubtAnew : MethodName := ⟨RX5, "doubtAnew", "(I)I"⟩
abbrev cX5_isInConflict : ByteArray := prog_1_method_17_code
def yX5_isInConflict : MethodName := ⟨RX5, "isInConflict", "(I)Z"⟩
abbrev cX5_release : ByteArray := prog_1_method_18_code
def yX5_release : MethodName := ⟨RX5, "release", "()I"⟩
abbrev cX5_trend : ByteArray := prog_1_method_19_code
def yX5_trend : MethodName := ⟨RX5, "trend", "(IIII)J"⟩
abbrev cX5_requireCell : ByteArray := prog_1_method_20_code
def yX5_requireCell : MethodName := ⟨RX5, "requireCell", "(II)V"⟩
abbrev cX5_requireNumber : ByteArray := prog_1_method_21_code
def yX5_requireNumber : MethodName := ⟨RX5, "requireNumber", "(II)V"⟩
abbrev cX5_requireRange : ByteArray := prog_1_method_22_code
def yX5_requireRange : MethodName := ⟨RX5, "requireRange", "(JJJ)V"⟩
abbrev cX5_requireRoom : ByteArray := prog_1_method_23_code
def yX5_requireRoom : MethodName := ⟨RX5, "requireRoom", "(II)V"⟩
abbrev cX5_cellNumber : ByteArray := prog_1_method_24_code
def yX5_cellNumber : MethodName := ⟨RX5, "cellNumber", "(II)I"⟩
def RX6 : String := "GravimereModel"
def TX6 : u_T := fun k => match k with
  | 0 => ("GravimereModel", "thrown", "I", false)
  | 1 => ("GravimereModel", "month", "I", false)
  | 2 => ("GravimereModel", "masses", "[J", true)
  | 3 => ("GravimereModel", "strength", "I", false)
  | 4 => ("GravimereModel", "period", "I", false)
  | 5 => ("GravimereModel", "kind", "[I", true)
  | 6 => ("GravimereModel", "off", "[I", true)
  | 7 => ("GravimereModel", "tied", "[I", true)
  | 8 => ("GravimereModel", "needles", "I", false)
  | 9 => ("GravimereModel", "benchmarks", "I", false)
  | 10 => ("GravimereModel", "from", "[I", true)
  | 11 => ("GravimereModel", "to", "[I", true)
  | 12 => ("GravimereModel", "higher", "[I", true)
  | 13 => ("GravimereModel", "unsure", "[I", true)
  | 14 => ("GravimereModel", "lines", "I", false)
  | 15 => ("GravimereModel", "doubts", "[I", true)
  | 16 => ("GravimereModel", "heights", "[I", true)
  | 17 => ("GravimereModel", "kept", "[J", true)
  | 18 => ("GravimereModel", "made", "[I", true)
  | _ => ("GravimereModel", "releases", "I", false)
def tyX6 : Nat → FieldType := fun k => match k with
  | 0 => .int
  | 1 => .int
  | 2 => .array .long
  | 3 => .int
  | 4 => .int
  | 5 => .array .int
  | 6 => .array .int
  | 7 => .array .int
  | 8 => .int
  | 9 => .int
  | 10 => .array .int
  | 11 => .array .int
  | 12 => .array .int
  | 13 => .array .int
  | 14 => .int
  | 15 => .array .int
  | 16 => .array .int
  | 17 => .array .long
  | 18 => .array .int
  | _ => .int
abbrev wsX60 : List Cond := u_ws RX6 TX6 20
theorem nmX6 : ∀ a, a < 20 → ∀ b, b < 20 → a ≠ b → (TX6 a).2.1 ≠ (TX6 b).2.1 := by decide +kernel
theorem tyX6_ok : ∀ k, k < 20 → parseFieldDescriptor (TX6 k).2.2.1 = some (tyX6 k) := by decide +kernel
abbrev cX6_init : ByteArray := prog_8_method_1_code
def yX6_init : MethodName := ⟨RX6, "<init>", "()V"⟩
abbrev cX6_thrown : ByteArray := prog_8_method_2_code
def yX6_thrown : MethodName := ⟨RX6, "thrown", "()I"⟩
abbrev cX6_holds : ByteArray := prog_8_method_3_code
def yX6_holds : MethodName := ⟨RX6, "holds", "(I)Z"⟩
abbrev cX6_isIn : ByteArray := prog_8_method_4_code
def yX6_isIn : MethodName := ⟨RX6, "isIn", "(JJJ)Z"⟩
abbrev cX6_isCell : ByteArray := prog_8_method_5_code
def yX6_isCell : MethodName := ⟨RX6, "isCell", "(II)Z"⟩
abbrev cX6_isNeedle : ByteArray := prog_8_method_6_code
def yX6_isNeedle : MethodName := ⟨RX6, "isNeedle", "(I)Z"⟩
abbrev cX6_isBenchmark : ByteArray := prog_8_method_7_code
def yX6_isBenchmark : MethodName := ⟨RX6, "isBenchmark", "(I)Z"⟩
abbrev cX6_isRelease : ByteArray := prog_8_method_8_code
def yX6_isRelease : MethodName := ⟨RX6, "isRelease", "(I)Z"⟩
abbrev cX6_changed : ByteArray := prog_8_method_9_code
def yX6_changed : MethodName := ⟨RX6, "changed", "(IJ)J"⟩
abbrev cX6_mass : ByteArray := prog_8_method_10_code
def yX6_mass : MethodName := ⟨RX6, "mass", "(IIIJ)J"⟩
abbrev cX6_water : ByteArray := prog_8_method_11_code
def yX6_water : MethodName := ⟨RX6, "water", "(IIJ)J"⟩
abbrev cX6_pullAt : ByteArray := prog_8_method_12_code
def yX6_pullAt : MethodName := ⟨RX6, "pullAt", "(II)J"⟩
abbrev cX6_pull : ByteArray := prog_8_method_13_code
def yX6_pull : MethodName := ⟨RX6, "pull", "(II)J"⟩
abbrev cX6_pullAnew : ByteArray := prog_8_method_14_code
def yX6_pullAnew : MethodName := ⟨RX6, "pullAnew", "(II)J"⟩
abbrev cX6_gap : ByteArray := prog_8_method_15_code
def yX6_gap : MethodName := ⟨RX6, "gap", "(II)J"⟩
abbrev cX6_tide : ByteArray := prog_8_method_16_code
def yX6_tide : MethodName := ⟨RX6, "tide", "(II)I"⟩
abbrev cX6_pass : ByteArray := prog_8_method_17_code
def yX6_pass : MethodName := ⟨RX6, "pass", "(I)I"⟩
abbrev cX6_needle : ByteArray := prog_8_method_18_code
def yX6_needle : MethodName := ⟨RX6, "needle", "(II)I"⟩
abbrev cX6_offNow : ByteArray := prog_8_method_19_code
def yX6_offNow : MethodName := ⟨RX6, "offNow", "(I)J"⟩
abbrev cX6_tie : ByteArray := prog_8_method_20_code
def yX6_tie : MethodName := ⟨RX6, "tie", "(I)J"⟩
abbrev cX6_readAt : ByteArray := prog_8_method_21_code
def yX6_readAt : MethodName := ⟨RX6, "readAt", "(III)J"⟩
abbrev cX6_read : ByteArray := prog_8_method_22_code
def yX6_read : MethodName := ⟨RX6, "read", "(III)J"⟩
abbrev cX6_benchmark : ByteArray := prog_8_method_23_code
def yX6_benchmark : MethodName := ⟨RX6, "benchmark", "()I"⟩
abbrev cX6_line : ByteArray := prog_8_method_24_code
def yX6_line : MethodName := ⟨RX6, "line", "(IIII)I"⟩
abbrev cX6_isFound : ByteArray := prog_8_method_25_code
def yX6_isFound : MethodName := ⟨RX6, "isFound", "(I)Z"⟩
abbrev cX6_finds : ByteArray := prog_8_method_26_code
def yX6_finds : MethodName := ⟨RX6, "finds", "(I)I"⟩
abbrev cX6_next : ByteArray := prog_8_method_27_code
def yX6_next : MethodName := ⟨RX6, "next", "()I"⟩
abbrev cX6_findsAll : ByteArray := prog_8_method_28_code
def yX6_findsAll : MethodName := ⟨RX6, "findsAll", "()V"⟩
abbrev cX6_height : ByteArray := prog_8_method_29_code
def yX6_height : MethodName := ⟨RX6, "height", "(I)I"⟩
abbrev cX6_doubtOf : ByteArray := prog_8_method_30_code
def yX6_doubtOf : MethodName := ⟨RX6, "doubtOf", "(I)I"⟩
abbrev cX6_doubt : ByteArray := prog_8_method_31_code
def yX6_doubt : MethodName := ⟨RX6, "doubt", "(I)I"⟩
abbrev cX6_doubtAnew : ByteArray := prog_8_method_32_code
def yX6_doubtAnew : MethodName := ⟨RX6, "doubtAnew", "(I)I"⟩
abbrev cX6_conflicts : ByteArray := prog_8_method_33_code
def yX6_conflicts : MethodName := ⟨RX6, "conflicts", "(I)Z"⟩
abbrev cX6_isInConflict : ByteArray := prog_8_method_34_code
def yX6_isInConflict : MethodName := ⟨RX6, "isInConflict", "(I)Z"⟩
abbrev cX6_release : ByteArray := prog_8_method_35_code
def yX6_release : MethodName := ⟨RX6, "release", "()I"⟩
abbrev cX6_down : ByteArray := prog_8_method_36_code
def yX6_down : MethodName := ⟨RX6, "down", "(JJ)J"⟩
abbrev cX6_trend : ByteArray := prog_8_method_37_code
def yX6_trend : MethodName := ⟨RX6, "trend", "(IIII)J"⟩
def RJ9 : String := "java/lang/Math"
def TJ9 : u_T := fun k => match k with
  | _ => ("", "", "", false)
def tyJ9 : Nat → FieldType := fun k => match k with
  | _ => .int
abbrev wsJ90 : List Cond := u_ws RJ9 TJ9 0
theorem nmJ9 : ∀ a, a < 0 → ∀ b, b < 0 → a ≠ b → (TJ9 a).2.1 ≠ (TJ9 b).2.1 := by decide +kernel
theorem tyJ9_ok : ∀ k, k < 0 → parseFieldDescriptor (TJ9 k).2.2.1 = some (tyJ9 k) := by decide +kernel
abbrev cJ9_floorDiv_f86c9 : ByteArray := prog_13_method_49_code
def yJ9_floorDiv_f86c9 : MethodName := ⟨RJ9, "floorDiv", "(JJ)J"⟩
abbrev cJ9_abs_0f7a4 : ByteArray := prog_13_method_59_code
def yJ9_abs_0f7a4 : MethodName := ⟨RJ9, "abs", "(I)I"⟩
def RJ0 : String := "java/lang/String"
def TJ0 : u_T := fun k => match k with
  | _ => ("", "", "", false)
def tyJ0 : Nat → FieldType := fun k => match k with
  | _ => .int
abbrev wsJ00 : List Cond := u_ws RJ0 TJ0 0
theorem nmJ0 : ∀ a, a < 0 → ∀ b, b < 0 → a ≠ b → (TJ0 a).2.1 ≠ (TJ0 b).2.1 := by decide +kernel
theorem tyJ0_ok : ∀ k, k < 0 → parseFieldDescriptor (TJ0 k).2.2.1 = some (tyJ0 k) := by decide +kernel
def RJ10 : String := "java/lang/System"
def TJ10 : u_T := fun k => match k with
  | _ => ("", "", "", false)
def tyJ10 : Nat → FieldType := fun k => match k with
  | _ => .int
abbrev wsJ100 : List Cond := u_ws RJ10 TJ10 0
theorem nmJ10 : ∀ a, a < 0 → ∀ b, b < 0 → a ≠ b → (TJ10 a).2.1 ≠ (TJ10 b).2.1 := by decide +kernel
theorem tyJ10_ok : ∀ k, k < 0 → parseFieldDescriptor (TJ10 k).2.2.1 = some (tyJ10 k) := by decide +kernel
def RL : String := "GravimereLaw"
abbrev cL_mass : ByteArray := method_3_code
def yL_mass : MethodName := ⟨RL, "mass", "(LGravimere;IIIJ[J)I"⟩
abbrev cL_water : ByteArray := method_4_code
def yL_water : MethodName := ⟨RL, "water", "(LGravimere;IIJ[J)I"⟩
abbrev cL_pull : ByteArray := method_5_code
def yL_pull : MethodName := ⟨RL, "pull", "(LGravimere;II[J)I"⟩
abbrev cL_pullAnew : ByteArray := method_6_code
def yL_pullAnew : MethodName := ⟨RL, "pullAnew", "(LGravimere;II[J)I"⟩
abbrev cL_gap : ByteArray := method_7_code
def yL_gap : MethodName := ⟨RL, "gap", "(LGravimere;II[J)I"⟩
abbrev cL_tide : ByteArray := method_8_code
def yL_tide : MethodName := ⟨RL, "tide", "(LGravimere;II[J)I"⟩
abbrev cL_pass : ByteArray := method_9_code
def yL_pass : MethodName := ⟨RL, "pass", "(LGravimere;I[J)I"⟩
abbrev cL_needle : ByteArray := method_10_code
def yL_needle : MethodName := ⟨RL, "needle", "(LGravimere;II[J)I"⟩
abbrev cL_tie : ByteArray := method_11_code
def yL_tie : MethodName := ⟨RL, "tie", "(LGravimere;I[J)I"⟩
abbrev cL_read : ByteArray := method_12_code
def yL_read : MethodName := ⟨RL, "read", "(LGravimere;III[J)I"⟩
abbrev cL_benchmark : ByteArray := method_13_code
def yL_benchmark : MethodName := ⟨RL, "benchmark", "(LGravimere;[J)I"⟩
abbrev cL_line : ByteArray := method_14_code
def yL_line : MethodName := ⟨RL, "line", "(LGravimere;IIII[J)I"⟩
abbrev cL_height : ByteArray := method_15_code
def yL_height : MethodName := ⟨RL, "height", "(LGravimere;I[J)I"⟩
abbrev cL_doubt : ByteArray := method_16_code
def yL_doubt : MethodName := ⟨RL, "doubt", "(LGravimere;I[J)I"⟩
abbrev cL_doubtAnew : ByteArray := method_17_code
def yL_doubtAnew : MethodName := ⟨RL, "doubtAnew", "(LGravimere;I[J)I"⟩
abbrev cL_isInConflict : ByteArray := method_18_code
def yL_isInConflict : MethodName := ⟨RL, "isInConflict", "(LGravimere;I[J)I"⟩
abbrev cL_release : ByteArray := method_19_code
def yL_release : MethodName := ⟨RL, "release", "(LGravimere;[J)I"⟩
abbrev cL_trend : ByteArray := method_20_code
def yL_trend : MethodName := ⟨RL, "trend", "(LGravimere;IIII[J)I"⟩
abbrev cL_law : ByteArray := code
def yL_law : MethodName := ⟨RL, "law", "([I)Z"⟩
def wsX0_init : List Cond := .code yX0_init cX0_init 1 none :: ([.methodLink RX0 3 objectInit, .instanceMethod objectInit, .code objectInit ⟨#[0xb1]⟩ 1 none, .arrayClass .long, .fieldLink RX0 9 "Gravimere$Archive" "pulls" "[J", .arrayClass .int, .fieldLink RX0 15 "Gravimere$Archive" "months" "[I", .fieldLink RX0 19 "Gravimere$Archive" "count" "I"] ++ wsX00)
def wsX0_keep : List Cond := .code yX0_keep cX0_keep 3 (some .int) :: ([.fieldLink RX0 9 "Gravimere$Archive" "pulls" "[J", .fieldLink RX0 19 "Gravimere$Archive" "count" "I", .methodLink RX0 23 arraycopyName, .native arraycopyName, .static arraycopyName, .initialized "java/lang/System", .fieldLink RX0 15 "Gravimere$Archive" "months" "[I"] ++ wsX00)
def wsX5_cellNumber : List Cond := .code yX5_cellNumber cX5_cellNumber 2 (some .int) :: ([])
def wsJ9_floorDiv_f86c9 : List Cond := .code yJ9_floorDiv_f86c9 cJ9_floorDiv_f86c9 6 (some .long) :: ([])
def wsX0_trendFrom : List Cond := .code yX0_trendFrom cX0_trendFrom 9 (some .long) :: ([.fieldLink RX0 15 "Gravimere$Archive" "months" "[I", .fieldLink RX0 9 "Gravimere$Archive" "pulls" "[J", .static yX5_cellNumber, .initialized RX5, .code yX5_cellNumber cX5_cellNumber 2 (some .int), .methodLink RX0 33 yJ9_floorDiv_f86c9, .static yJ9_floorDiv_f86c9, .initialized RJ9, .code yJ9_floorDiv_f86c9 cJ9_floorDiv_f86c9 6 (some .long)] ++ wsX00)
def wsX1_init : List Cond := .code yX1_init cX1_init 1 none :: ([.methodLink RX1 3 objectInit, .instanceMethod objectInit, .code objectInit ⟨#[0xb1]⟩ 1 none, .arrayClass .long, .fieldLink RX1 9 "Gravimere$Body" "masses" "[J", .fieldLink RX1 15 "Gravimere$Body" "waters" "[J", .fieldLink RX1 18 "Gravimere$Body" "pulls" "[J"] ++ wsX10)
def wsX1_squareOf : List Cond := .code yX1_squareOf cX1_squareOf 3 (some .long) :: ([])
def wsX1_pullOf : List Cond := .code yX1_pullOf cX1_pullOf 4 (some .long) :: ([.constantLong RX1 37 (1000000)])
def wsX1_changePulls : List Cond := .code yX1_changePulls cX1_changePulls 12 none :: ([.fieldLink RX1 18 "Gravimere$Body" "pulls" "[J", .methodLink RX1 29 yX1_squareOf, .static yX1_squareOf, .initialized RX1, .code yX1_squareOf cX1_squareOf 3 (some .long), .static yX5_cellNumber, .initialized RX5, .code yX5_cellNumber cX5_cellNumber 2 (some .int), .methodLink RX1 33 yX1_pullOf, .static yX1_pullOf, .code yX1_pullOf cX1_pullOf 4 (some .long), .constantLong RX1 37 (1000000)] ++ wsX10)
def wsX1_putMass : List Cond := .code yX1_putMass cX1_putMass 9 (some .long) :: ([.fieldLink RX1 9 "Gravimere$Body" "masses" "[J", .static yX5_cellNumber, .initialized RX5, .code yX5_cellNumber cX5_cellNumber 2 (some .int), .methodLink RX1 25 yX1_changePulls, .instanceMethod yX1_changePulls, .selects RX1 yX1_changePulls yX1_changePulls, .initialized RX1, .code yX1_changePulls cX1_changePulls 12 none, .fieldLink RX1 18 "Gravimere$Body" "pulls" "[J", .methodLink RX1 29 yX1_squareOf, .static yX1_squareOf, .code yX1_squareOf cX1_squareOf 3 (some .long), .methodLink RX1 33 yX1_pullOf, .static yX1_pullOf, .code yX1_pullOf cX1_pullOf 4 (some .long), .constantLong RX1 37 (1000000)] ++ wsX10)
def wsX1_putWater : List Cond := .code yX1_putWater cX1_putWater 8 (some .long) :: ([.fieldLink RX1 15 "Gravimere$Body" "waters" "[J", .static yX5_cellNumber, .initialized RX5, .code yX5_cellNumber cX5_cellNumber 2 (some .int), .methodLink RX1 25 yX1_changePulls, .instanceMethod yX1_changePulls, .selects RX1 yX1_changePulls yX1_changePulls, .initialized RX1, .code yX1_changePulls cX1_changePulls 12 none, .fieldLink RX1 18 "Gravimere$Body" "pulls" "[J", .methodLink RX1 29 yX1_squareOf, .static yX1_squareOf, .code yX1_squareOf cX1_squareOf 3 (some .long), .methodLink RX1 33 yX1_pullOf, .static yX1_pullOf, .code yX1_pullOf cX1_pullOf 4 (some .long), .constantLong RX1 37 (1000000)] ++ wsX10)
def wsX1_keptPull : List Cond := .code yX1_keptPull cX1_keptPull 3 (some .long) :: ([.fieldLink RX1 18 "Gravimere$Body" "pulls" "[J", .static yX5_cellNumber, .initialized RX5, .code yX5_cellNumber cX5_cellNumber 2 (some .int)] ++ wsX10)
def wsX1_summedPull : List Cond := .code yX1_summedPull cX1_summedPull 9 (some .long) :: ([.fieldLink RX1 15 "Gravimere$Body" "waters" "[J", .fieldLink RX1 9 "Gravimere$Body" "masses" "[J", .static yX5_cellNumber, .initialized RX5, .code yX5_cellNumber cX5_cellNumber 2 (some .int), .methodLink RX1 29 yX1_squareOf, .static yX1_squareOf, .initialized RX1, .code yX1_squareOf cX1_squareOf 3 (some .long), .methodLink RX1 33 yX1_pullOf, .static yX1_pullOf, .code yX1_pullOf cX1_pullOf 4 (some .long), .constantLong RX1 37 (1000000)] ++ wsX10)
def wsX2_init : List Cond := .code yX2_init cX2_init 1 none :: ([.methodLink RX2 1 objectInit, .instanceMethod objectInit, .code objectInit ⟨#[0xb1]⟩ 1 none, .fieldLink RX2 7 "Gravimere$Moon" "strength" "I", .fieldLink RX2 13 "Gravimere$Moon" "period" "I"] ++ wsX20)
def wsX2_put : List Cond := .code yX2_put cX2_put 4 (some .int) :: ([.fieldLink RX2 7 "Gravimere$Moon" "strength" "I", .fieldLink RX2 13 "Gravimere$Moon" "period" "I"] ++ wsX20)
def wsX2_tideIn : List Cond := .code yX2_tideIn cX2_tideIn 3 (some .long) :: ([.fieldLink RX2 13 "Gravimere$Moon" "period" "I", .fieldLink RX2 7 "Gravimere$Moon" "strength" "I"] ++ wsX20)
def wsX3_init : List Cond := .code yX3_init cX3_init 1 none :: ([.methodLink RX3 3 objectInit, .instanceMethod objectInit, .code objectInit ⟨#[0xb1]⟩ 1 none, .arrayClass .int, .fieldLink RX3 9 "Gravimere$Needles" "kinds" "[I", .fieldLink RX3 15 "Gravimere$Needles" "offs" "[I", .fieldLink RX3 18 "Gravimere$Needles" "tiedMonths" "[I", .fieldLink RX3 21 "Gravimere$Needles" "count" "I"] ++ wsX30)
def wsX3_add : List Cond := .code yX3_add cX3_add 4 (some .int) :: ([.fieldLink RX3 9 "Gravimere$Needles" "kinds" "[I", .fieldLink RX3 21 "Gravimere$Needles" "count" "I", .fieldLink RX3 15 "Gravimere$Needles" "offs" "[I", .fieldLink RX3 18 "Gravimere$Needles" "tiedMonths" "[I"] ++ wsX30)
def wsX3_offIn : List Cond := .code yX3_offIn cX3_offIn 3 (some .long) :: ([.fieldLink RX3 9 "Gravimere$Needles" "kinds" "[I", .fieldLink RX3 15 "Gravimere$Needles" "offs" "[I", .fieldLink RX3 18 "Gravimere$Needles" "tiedMonths" "[I"] ++ wsX30)
def wsX4_init : List Cond := .code yX4_init cX4_init 1 none :: ([.methodLink RX4 3 objectInit, .instanceMethod objectInit, .code objectInit ⟨#[0xb1]⟩ 1 none, .arrayClass .int, .fieldLink RX4 9 "Gravimere$Survey" "starts" "[I", .fieldLink RX4 15 "Gravimere$Survey" "ends" "[I", .fieldLink RX4 18 "Gravimere$Survey" "rises" "[I", .fieldLink RX4 21 "Gravimere$Survey" "lineDoubts" "[I", .fieldLink RX4 24 "Gravimere$Survey" "heights" "[I", .fieldLink RX4 27 "Gravimere$Survey" "doubts" "[I", .fieldLink RX4 30 "Gravimere$Survey" "triedDoubts" "[I", .fieldLink RX4 33 "Gravimere$Survey" "benchmarks" "I", .fieldLink RX4 37 "Gravimere$Survey" "lines" "I"] ++ wsX40)
def wsX4_addBenchmark : List Cond := .code yX4_addBenchmark cX4_addBenchmark 1 (some .int) :: ([.fieldLink RX4 33 "Gravimere$Survey" "benchmarks" "I"] ++ wsX40)
def wsX4_addLine : List Cond := .code yX4_addLine cX4_addLine 5 (some .int) :: ([.fieldLink RX4 9 "Gravimere$Survey" "starts" "[I", .fieldLink RX4 37 "Gravimere$Survey" "lines" "I", .fieldLink RX4 15 "Gravimere$Survey" "ends" "[I", .fieldLink RX4 18 "Gravimere$Survey" "rises" "[I", .fieldLink RX4 21 "Gravimere$Survey" "lineDoubts" "[I"] ++ wsX40)
def wsX4_knowOnlyFirst : List Cond := .code yX4_knowOnlyFirst cX4_knowOnlyFirst 2 none :: ([])
def wsX4_doubtBeyond : List Cond := .code yX4_doubtBeyond cX4_doubtBeyond 4 (some .int) :: ([.fieldLink RX4 27 "Gravimere$Survey" "doubts" "[I", .fieldLink RX4 9 "Gravimere$Survey" "starts" "[I", .fieldLink RX4 15 "Gravimere$Survey" "ends" "[I", .fieldLink RX4 21 "Gravimere$Survey" "lineDoubts" "[I"] ++ wsX40)
def wsX4_surestLine : List Cond := .code yX4_surestLine cX4_surestLine 5 (some .int) :: ([.fieldLink RX4 37 "Gravimere$Survey" "lines" "I", .methodLink RX4 52 yX4_doubtBeyond, .instanceMethod yX4_doubtBeyond, .selects RX4 yX4_doubtBeyond yX4_doubtBeyond, .initialized RX4, .code yX4_doubtBeyond cX4_doubtBeyond 4 (some .int), .fieldLink RX4 27 "Gravimere$Survey" "doubts" "[I", .fieldLink RX4 9 "Gravimere$Survey" "starts" "[I", .fieldLink RX4 15 "Gravimere$Survey" "ends" "[I", .fieldLink RX4 21 "Gravimere$Survey" "lineDoubts" "[I"] ++ wsX40)
def wsX4_goAlong : List Cond := .code yX4_goAlong cX4_goAlong 4 none :: ([.fieldLink RX4 9 "Gravimere$Survey" "starts" "[I", .fieldLink RX4 15 "Gravimere$Survey" "ends" "[I", .fieldLink RX4 27 "Gravimere$Survey" "doubts" "[I", .fieldLink RX4 21 "Gravimere$Survey" "lineDoubts" "[I", .fieldLink RX4 24 "Gravimere$Survey" "heights" "[I", .fieldLink RX4 18 "Gravimere$Survey" "rises" "[I"] ++ wsX40)
def wsX4_findHeights : List Cond := .code yX4_findHeights cX4_findHeights 3 none :: ([.fieldLink RX4 27 "Gravimere$Survey" "doubts" "[I", .fieldLink RX4 24 "Gravimere$Survey" "heights" "[I", .fieldLink RX4 33 "Gravimere$Survey" "benchmarks" "I", .methodLink RX4 40 yX4_knowOnlyFirst, .static yX4_knowOnlyFirst, .initialized RX4, .code yX4_knowOnlyFirst cX4_knowOnlyFirst 2 none, .methodLink RX4 44 yX4_surestLine, .instanceMethod yX4_surestLine, .selects RX4 yX4_surestLine yX4_surestLine, .code yX4_surestLine cX4_surestLine 5 (some .int), .fieldLink RX4 37 "Gravimere$Survey" "lines" "I", .methodLink RX4 52 yX4_doubtBeyond, .instanceMethod yX4_doubtBeyond, .selects RX4 yX4_doubtBeyond yX4_doubtBeyond, .code yX4_doubtBeyond cX4_doubtBeyond 4 (some .int), .fieldLink RX4 9 "Gravimere$Survey" "starts" "[I", .fieldLink RX4 15 "Gravimere$Survey" "ends" "[I", .fieldLink RX4 21 "Gravimere$Survey" "lineDoubts" "[I", .methodLink RX4 48 yX4_goAlong, .instanceMethod yX4_goAlong, .selects RX4 yX4_goAlong yX4_goAlong, .code yX4_goAlong cX4_goAlong 4 none, .fieldLink RX4 18 "Gravimere$Survey" "rises" "[I"] ++ wsX40)
def wsX4_contradicts : List Cond := .code yX4_contradicts cX4_contradicts 5 (some .boolean) :: ([.fieldLink RX4 9 "Gravimere$Survey" "starts" "[I", .fieldLink RX4 15 "Gravimere$Survey" "ends" "[I", .fieldLink RX4 27 "Gravimere$Survey" "doubts" "[I", .fieldLink RX4 18 "Gravimere$Survey" "rises" "[I", .fieldLink RX4 24 "Gravimere$Survey" "heights" "[I", .methodLink RX4 56 Lib.Math.abs.name, .static Lib.Math.abs.name, .initialized "java/lang/Math", .code Lib.Math.abs.name Lib.Math.abs.code 1 (some .int), .fieldLink RX4 21 "Gravimere$Survey" "lineDoubts" "[I"] ++ wsX40)
def wsX4_makesLess : List Cond := .code yX4_makesLess cX4_makesLess 5 (some .boolean) :: ([.fieldLink RX4 30 "Gravimere$Survey" "triedDoubts" "[I"] ++ wsX40)
def wsX4_tryEachLine : List Cond := .code yX4_tryEachLine cX4_tryEachLine 3 (some .boolean) :: ([.fieldLink RX4 37 "Gravimere$Survey" "lines" "I", .fieldLink RX4 9 "Gravimere$Survey" "starts" "[I", .fieldLink RX4 15 "Gravimere$Survey" "ends" "[I", .fieldLink RX4 21 "Gravimere$Survey" "lineDoubts" "[I", .methodLink RX4 65 yX4_makesLess, .instanceMethod yX4_makesLess, .selects RX4 yX4_makesLess yX4_makesLess, .initialized RX4, .code yX4_makesLess cX4_makesLess 5 (some .boolean), .fieldLink RX4 30 "Gravimere$Survey" "triedDoubts" "[I"] ++ wsX40)
def wsX4_tryAllLines : List Cond := .code yX4_tryAllLines cX4_tryAllLines 3 none :: ([.fieldLink RX4 30 "Gravimere$Survey" "triedDoubts" "[I", .fieldLink RX4 33 "Gravimere$Survey" "benchmarks" "I", .methodLink RX4 40 yX4_knowOnlyFirst, .static yX4_knowOnlyFirst, .initialized RX4, .code yX4_knowOnlyFirst cX4_knowOnlyFirst 2 none, .methodLink RX4 61 yX4_tryEachLine, .instanceMethod yX4_tryEachLine, .selects RX4 yX4_tryEachLine yX4_tryEachLine, .code yX4_tryEachLine cX4_tryEachLine 3 (some .boolean), .fieldLink RX4 37 "Gravimere$Survey" "lines" "I", .fieldLink RX4 9 "Gravimere$Survey" "starts" "[I", .fieldLink RX4 15 "Gravimere$Survey" "ends" "[I", .fieldLink RX4 21 "Gravimere$Survey" "lineDoubts" "[I", .methodLink RX4 65 yX4_makesLess, .instanceMethod yX4_makesLess, .selects RX4 yX4_makesLess yX4_makesLess, .code yX4_makesLess cX4_makesLess 5 (some .boolean)] ++ wsX40)
def wsX5_init_r1 : List Cond := [Cond.methodLink RX5 3 objectInit, Cond.instanceMethod objectInit, Cond.code objectInit ⟨#[0xb1]⟩ 1 none, Cond.classLink RX5 9 RX1, Cond.instantiable RX1 3, Cond.initialized RX1, Cond.fieldLink RX5 12 "Gravimere" "body" "LGravimere$Body;", Cond.classLink RX5 16 RX2, Cond.instantiable RX2 2, Cond.initialized RX2, Cond.fieldLink RX5 19 "Gravimere" "moon" "LGravimere$Moon;", Cond.classLink RX5 23 RX3, Cond.instantiable RX3 4, Cond.initialized RX3, Cond.fieldLink RX5 26 "Gravimere" "needles" "LGravimere$Needles;", Cond.classLink RX5 30 RX4, Cond.instantiable RX4 9, Cond.initialized RX4, Cond.fieldLink RX5 33 "Gravimere" "survey" "LGravimere$Survey;", Cond.classLink RX5 37 RX0, Cond.instantiable RX0 3, Cond.initialized RX0, Cond.fieldLink RX5 40 "Gravimere" "archive" "LGravimere$Archive;", Cond.fieldLink RX5 44 "Gravimere" "month" "I"]
def wsX5_init_r2 : List Cond := [Cond.instanceMethod yX1_init, Cond.code yX1_init cX1_init 1 none, Cond.methodLink RX1 3 objectInit, Cond.arrayClass .long, Cond.fieldLink RX1 9 "Gravimere$Body" "masses" "[J", Cond.fieldLink RX1 15 "Gravimere$Body" "waters" "[J", Cond.fieldLink RX1 18 "Gravimere$Body" "pulls" "[J", Cond.instanceMethod yX2_init, Cond.code yX2_init cX2_init 1 none, Cond.methodLink RX2 1 objectInit, Cond.fieldLink RX2 7 "Gravimere$Moon" "strength" "I", Cond.fieldLink RX2 13 "Gravimere$Moon" "period" "I", Cond.instanceMethod yX3_init, Cond.code yX3_init cX3_init 1 none, Cond.methodLink RX3 3 objectInit, Cond.arrayClass .int, Cond.fieldLink RX3 9 "Gravimere$Needles" "kinds" "[I", Cond.fieldLink RX3 15 "Gravimere$Needles" "offs" "[I", Cond.fieldLink RX3 18 "Gravimere$Needles" "tiedMonths" "[I", Cond.fieldLink RX3 21 "Gravimere$Needles" "count" "I", Cond.instanceMethod yX4_init, Cond.code yX4_init cX4_init 1 none, Cond.methodLink RX4 3 objectInit, Cond.fieldLink RX4 9 "Gravimere$Survey" "starts" "[I"]
def wsX5_init_r3 : List Cond := [Cond.fieldLink RX4 15 "Gravimere$Survey" "ends" "[I", Cond.fieldLink RX4 18 "Gravimere$Survey" "rises" "[I", Cond.fieldLink RX4 21 "Gravimere$Survey" "lineDoubts" "[I", Cond.fieldLink RX4 24 "Gravimere$Survey" "heights" "[I", Cond.fieldLink RX4 27 "Gravimere$Survey" "doubts" "[I", Cond.fieldLink RX4 30 "Gravimere$Survey" "triedDoubts" "[I", Cond.fieldLink RX4 33 "Gravimere$Survey" "benchmarks" "I", Cond.fieldLink RX4 37 "Gravimere$Survey" "lines" "I", Cond.instanceMethod yX0_init, Cond.code yX0_init cX0_init 1 none, Cond.methodLink RX0 3 objectInit, Cond.fieldLink RX0 9 "Gravimere$Archive" "pulls" "[J", Cond.fieldLink RX0 15 "Gravimere$Archive" "months" "[I", Cond.fieldLink RX0 19 "Gravimere$Archive" "count" "I"]
def wsX5_init : List Cond := .code yX5_init cX5_init 1 none :: ((wsX5_init_r1 ++ (wsX5_init_r2 ++ wsX5_init_r3)) ++ wsX10 ++ wsX50 ++ wsX20 ++ wsX30 ++ wsX40 ++ wsX00)
def wsX5_requireCell : List Cond := .code yX5_requireCell cX5_requireCell 2 none :: ([.classLink RX5 185 "java/lang/IndexOutOfBoundsException", .initialized "java/lang/IndexOutOfBoundsException"] ++ (vx_atS RX5 189 "java/lang/IndexOutOfBoundsException" ["java/lang/RuntimeException", "java/lang/Exception"]).filter goodWord)
def wsX5_requireNumber : List Cond := .code yX5_requireNumber cX5_requireNumber 2 none :: ([.classLink RX5 185 "java/lang/IndexOutOfBoundsException", .initialized "java/lang/IndexOutOfBoundsException"] ++ (vx_atS RX5 189 "java/lang/IndexOutOfBoundsException" ["java/lang/RuntimeException", "java/lang/Exception"]).filter goodWord)
def wsX5_requireRange : List Cond := .code yX5_requireRange cX5_requireRange 6 none :: ([.classLink RX5 132 "java/lang/IllegalArgumentException", .initialized "java/lang/IllegalArgumentException"] ++ (vx_atS RX5 136 "java/lang/IllegalArgumentException" ["java/lang/RuntimeException", "java/lang/Exception"]).filter goodWord)
def wsX5_mass_r1 : List Cond := [Cond.constantLong RX5 55 (40000000000), Cond.fieldLink RX5 12 "Gravimere" "body" "LGravimere$Body;", Cond.methodLink RX5 48 yX5_requireCell, Cond.static yX5_requireCell, Cond.initialized RX5, Cond.code yX5_requireCell cX5_requireCell 2 none, Cond.classLink RX5 185 "java/lang/IndexOutOfBoundsException", Cond.initialized "java/lang/IndexOutOfBoundsException", Cond.methodLink RX5 52 yX5_requireNumber, Cond.static yX5_requireNumber, Cond.code yX5_requireNumber cX5_requireNumber 2 none, Cond.methodLink RX5 57 yX5_requireRange, Cond.static yX5_requireRange, Cond.code yX5_requireRange cX5_requireRange 6 none, Cond.classLink RX5 132 "java/lang/IllegalArgumentException", Cond.initialized "java/lang/IllegalArgumentException", Cond.instanceMethod yX1_putMass, Cond.initialized RX1, Cond.selects RX1 yX1_putMass yX1_putMass, Cond.code yX1_putMass cX1_putMass 9 (some .long), Cond.fieldLink RX1 9 "Gravimere$Body" "masses" "[J", Cond.static yX5_cellNumber, Cond.code yX5_cellNumber cX5_cellNumber 2 (some .int), Cond.methodLink RX1 25 yX1_changePulls]
def wsX5_mass_r2 : List Cond := [Cond.instanceMethod yX1_changePulls, Cond.selects RX1 yX1_changePulls yX1_changePulls, Cond.code yX1_changePulls cX1_changePulls 12 none, Cond.fieldLink RX1 18 "Gravimere$Body" "pulls" "[J", Cond.methodLink RX1 29 yX1_squareOf, Cond.static yX1_squareOf, Cond.code yX1_squareOf cX1_squareOf 3 (some .long), Cond.methodLink RX1 33 yX1_pullOf, Cond.static yX1_pullOf, Cond.code yX1_pullOf cX1_pullOf 4 (some .long), Cond.constantLong RX1 37 (1000000)]
def wsX5_mass : List Cond := .code yX5_mass cX5_mass 6 (some .long) :: ((wsX5_mass_r1 ++ wsX5_mass_r2) ++ wsX50 ++ wsX10 ++ (vx_atS RX5 189 "java/lang/IndexOutOfBoundsException" ["java/lang/RuntimeException", "java/lang/Exception"]).filter goodWord ++ (vx_atS RX5 136 "java/lang/IllegalArgumentException" ["java/lang/RuntimeException", "java/lang/Exception"]).filter goodWord)
def wsX5_water_r1 : List Cond := [Cond.constantLong RX5 65 (1000000000), Cond.fieldLink RX5 12 "Gravimere" "body" "LGravimere$Body;", Cond.methodLink RX5 48 yX5_requireCell, Cond.static yX5_requireCell, Cond.initialized RX5, Cond.code yX5_requireCell cX5_requireCell 2 none, Cond.classLink RX5 185 "java/lang/IndexOutOfBoundsException", Cond.initialized "java/lang/IndexOutOfBoundsException", Cond.methodLink RX5 57 yX5_requireRange, Cond.static yX5_requireRange, Cond.code yX5_requireRange cX5_requireRange 6 none, Cond.classLink RX5 132 "java/lang/IllegalArgumentException", Cond.initialized "java/lang/IllegalArgumentException", Cond.instanceMethod yX1_putWater, Cond.initialized RX1, Cond.selects RX1 yX1_putWater yX1_putWater, Cond.code yX1_putWater cX1_putWater 8 (some .long), Cond.fieldLink RX1 15 "Gravimere$Body" "waters" "[J", Cond.static yX5_cellNumber, Cond.code yX5_cellNumber cX5_cellNumber 2 (some .int), Cond.methodLink RX1 25 yX1_changePulls, Cond.instanceMethod yX1_changePulls, Cond.selects RX1 yX1_changePulls yX1_changePulls, Cond.code yX1_changePulls cX1_changePulls 12 none]
def wsX5_water_r2 : List Cond := [Cond.fieldLink RX1 18 "Gravimere$Body" "pulls" "[J", Cond.methodLink RX1 29 yX1_squareOf, Cond.static yX1_squareOf, Cond.code yX1_squareOf cX1_squareOf 3 (some .long), Cond.methodLink RX1 33 yX1_pullOf, Cond.static yX1_pullOf, Cond.code yX1_pullOf cX1_pullOf 4 (some .long), Cond.constantLong RX1 37 (1000000)]
def wsX5_water : List Cond := .code yX5_water cX5_water 5 (some .long) :: ((wsX5_water_r1 ++ wsX5_water_r2) ++ wsX50 ++ wsX10 ++ (vx_atS RX5 189 "java/lang/IndexOutOfBoundsException" ["java/lang/RuntimeException", "java/lang/Exception"]).filter goodWord ++ (vx_atS RX5 136 "java/lang/IllegalArgumentException" ["java/lang/RuntimeException", "java/lang/Exception"]).filter goodWord)
def wsX5_pull : List Cond := .code yX5_pull cX5_pull 3 (some .long) :: ([.fieldLink RX5 12 "Gravimere" "body" "LGravimere$Body;", .methodLink RX5 48 yX5_requireCell, .static yX5_requireCell, .initialized RX5, .code yX5_requireCell cX5_requireCell 2 none, .classLink RX5 185 "java/lang/IndexOutOfBoundsException", .initialized "java/lang/IndexOutOfBoundsException", .instanceMethod yX1_keptPull, .initialized RX1, .selects RX1 yX1_keptPull yX1_keptPull, .code yX1_keptPull cX1_keptPull 3 (some .long), .fieldLink RX1 18 "Gravimere$Body" "pulls" "[J", .static yX5_cellNumber, .code yX5_cellNumber cX5_cellNumber 2 (some .int)] ++ wsX50 ++ wsX10 ++ (vx_atS RX5 189 "java/lang/IndexOutOfBoundsException" ["java/lang/RuntimeException", "java/lang/Exception"]).filter goodWord)
def wsX5_pullAnew : List Cond := .code yX5_pullAnew cX5_pullAnew 3 (some .long) :: ([.fieldLink RX5 12 "Gravimere" "body" "LGravimere$Body;", .methodLink RX5 48 yX5_requireCell, .static yX5_requireCell, .initialized RX5, .code yX5_requireCell cX5_requireCell 2 none, .classLink RX5 185 "java/lang/IndexOutOfBoundsException", .initialized "java/lang/IndexOutOfBoundsException", .instanceMethod yX1_summedPull, .initialized RX1, .selects RX1 yX1_summedPull yX1_summedPull, .code yX1_summedPull cX1_summedPull 9 (some .long), .fieldLink RX1 15 "Gravimere$Body" "waters" "[J", .fieldLink RX1 9 "Gravimere$Body" "masses" "[J", .static yX5_cellNumber, .code yX5_cellNumber cX5_cellNumber 2 (some .int), .methodLink RX1 29 yX1_squareOf, .static yX1_squareOf, .code yX1_squareOf cX1_squareOf 3 (some .long), .methodLink RX1 33 yX1_pullOf, .static yX1_pullOf, .code yX1_pullOf cX1_pullOf 4 (some .long), .constantLong RX1 37 (1000000)] ++ wsX50 ++ wsX10 ++ (vx_atS RX5 189 "java/lang/IndexOutOfBoundsException" ["java/lang/RuntimeException", "java/lang/Exception"]).filter goodWord)
def wsX5_gap : List Cond := .code yX5_gap cX5_gap 3 (some .long) :: ([.fieldLink RX5 12 "Gravimere" "body" "LGravimere$Body;", .methodLink RX5 48 yX5_requireCell, .static yX5_requireCell, .initialized RX5, .code yX5_requireCell cX5_requireCell 2 none, .classLink RX5 185 "java/lang/IndexOutOfBoundsException", .initialized "java/lang/IndexOutOfBoundsException", .methodLink RX5 52 yX5_requireNumber, .static yX5_requireNumber, .code yX5_requireNumber cX5_requireNumber 2 none, .instanceMethod yX1_keptPull, .initialized RX1, .selects RX1 yX1_keptPull yX1_keptPull, .code yX1_keptPull cX1_keptPull 3 (some .long), .fieldLink RX1 18 "Gravimere$Body" "pulls" "[J", .static yX5_cellNumber, .code yX5_cellNumber cX5_cellNumber 2 (some .int)] ++ wsX50 ++ wsX10 ++ (vx_atS RX5 189 "java/lang/IndexOutOfBoundsException" ["java/lang/RuntimeException", "java/lang/Exception"]).filter goodWord)
def wsX5_tide : List Cond := .code yX5_tide cX5_tide 3 (some .int) :: ([.constantLong RX5 78 (1000000), .constantLong RX5 80 (60), .fieldLink RX5 19 "Gravimere" "moon" "LGravimere$Moon;", .methodLink RX5 57 yX5_requireRange, .static yX5_requireRange, .initialized RX5, .code yX5_requireRange cX5_requireRange 6 none, .classLink RX5 132 "java/lang/IllegalArgumentException", .initialized "java/lang/IllegalArgumentException", .instanceMethod yX2_put, .initialized RX2, .selects RX2 yX2_put yX2_put, .code yX2_put cX2_put 4 (some .int), .fieldLink RX2 7 "Gravimere$Moon" "strength" "I", .fieldLink RX2 13 "Gravimere$Moon" "period" "I"] ++ wsX50 ++ wsX20 ++ (vx_atS RX5 136 "java/lang/IllegalArgumentException" ["java/lang/RuntimeException", "java/lang/Exception"]).filter goodWord)
def wsX5_pass : List Cond := .code yX5_pass cX5_pass 2 (some .int) :: ([.classLink RX5 88 "java/lang/IllegalStateException", .initialized "java/lang/IllegalStateException", .constantLong RX5 86 (120), .fieldLink RX5 44 "Gravimere" "month" "I", .methodLink RX5 57 yX5_requireRange, .static yX5_requireRange, .initialized RX5, .code yX5_requireRange cX5_requireRange 6 none, .classLink RX5 132 "java/lang/IllegalArgumentException", .initialized "java/lang/IllegalArgumentException"] ++ wsX50 ++ (vx_atS RX5 92 "java/lang/IllegalStateException" ["java/lang/RuntimeException", "java/lang/Exception"]).filter goodWord ++ (vx_atS RX5 136 "java/lang/IllegalArgumentException" ["java/lang/RuntimeException", "java/lang/Exception"]).filter goodWord)
def wsX5_requireRoom : List Cond := .code yX5_requireRoom cX5_requireRoom 2 none :: ([.classLink RX5 88 "java/lang/IllegalStateException", .initialized "java/lang/IllegalStateException"] ++ (vx_atS RX5 92 "java/lang/IllegalStateException" ["java/lang/RuntimeException", "java/lang/Exception"]).filter goodWord)
def wsX5_needle : List Cond := .code yX5_needle cX5_needle 3 (some .int) :: ([.constantLong RX5 95 (-1000), .constantLong RX5 97 (1000), .fieldLink RX5 26 "Gravimere" "needles" "LGravimere$Needles;", .fieldLink RX5 44 "Gravimere" "month" "I", .methodLink RX5 57 yX5_requireRange, .static yX5_requireRange, .initialized RX5, .code yX5_requireRange cX5_requireRange 6 none, .classLink RX5 132 "java/lang/IllegalArgumentException", .initialized "java/lang/IllegalArgumentException", .methodLink RX5 102 yX5_requireRoom, .static yX5_requireRoom, .code yX5_requireRoom cX5_requireRoom 2 none, .classLink RX5 88 "java/lang/IllegalStateException", .initialized "java/lang/IllegalStateException", .instanceMethod yX3_add, .initialized RX3, .selects RX3 yX3_add yX3_add, .code yX3_add cX3_add 4 (some .int), .fieldLink RX3 9 "Gravimere$Needles" "kinds" "[I", .fieldLink RX3 21 "Gravimere$Needles" "count" "I", .fieldLink RX3 15 "Gravimere$Needles" "offs" "[I", .fieldLink RX3 18 "Gravimere$Needles" "tiedMonths" "[I"] ++ wsX50 ++ wsX30 ++ (vx_atS RX5 136 "java/lang/IllegalArgumentException" ["java/lang/RuntimeException", "java/lang/Exception"]).filter goodWord ++ (vx_atS RX5 92 "java/lang/IllegalStateException" ["java/lang/RuntimeException", "java/lang/Exception"]).filter goodWord)
def wsX5_tie : List Cond := .code yX5_tie cX5_tie 4 (some .long) :: ([.classLink RX5 88 "java/lang/IllegalStateException", .initialized "java/lang/IllegalStateException", .fieldLink RX5 26 "Gravimere" "needles" "LGravimere$Needles;", .fieldLink RX5 44 "Gravimere" "month" "I", .methodLink RX5 52 yX5_requireNumber, .static yX5_requireNumber, .initialized RX5, .code yX5_requireNumber cX5_requireNumber 2 none, .classLink RX5 185 "java/lang/IndexOutOfBoundsException", .initialized "java/lang/IndexOutOfBoundsException", .instanceMethod yX3_offIn, .initialized RX3, .selects RX3 yX3_offIn yX3_offIn, .code yX3_offIn cX3_offIn 3 (some .long), .fieldLink RX3 9 "Gravimere$Needles" "kinds" "[I", .fieldLink RX3 15 "Gravimere$Needles" "offs" "[I", .fieldLink RX3 18 "Gravimere$Needles" "tiedMonths" "[I"] ++ wsX50 ++ wsX30 ++ (vx_atS RX5 92 "java/lang/IllegalStateException" ["java/lang/RuntimeException", "java/lang/Exception"]).filter goodWord ++ (vx_atS RX5 189 "java/lang/IndexOutOfBoundsException" ["java/lang/RuntimeException", "java/lang/Exception"]).filter goodWord)
def wsX5_read_r1 : List Cond := [Cond.fieldLink RX5 26 "Gravimere" "needles" "LGravimere$Needles;", Cond.fieldLink RX5 12 "Gravimere" "body" "LGravimere$Body;", Cond.fieldLink RX5 19 "Gravimere" "moon" "LGravimere$Moon;", Cond.fieldLink RX5 44 "Gravimere" "month" "I", Cond.methodLink RX5 52 yX5_requireNumber, Cond.static yX5_requireNumber, Cond.initialized RX5, Cond.code yX5_requireNumber cX5_requireNumber 2 none, Cond.classLink RX5 185 "java/lang/IndexOutOfBoundsException", Cond.initialized "java/lang/IndexOutOfBoundsException", Cond.methodLink RX5 48 yX5_requireCell, Cond.static yX5_requireCell, Cond.code yX5_requireCell cX5_requireCell 2 none, Cond.instanceMethod yX1_keptPull, Cond.initialized RX1, Cond.selects RX1 yX1_keptPull yX1_keptPull, Cond.code yX1_keptPull cX1_keptPull 3 (some .long), Cond.fieldLink RX1 18 "Gravimere$Body" "pulls" "[J", Cond.static yX5_cellNumber, Cond.code yX5_cellNumber cX5_cellNumber 2 (some .int), Cond.instanceMethod yX2_tideIn, Cond.initialized RX2, Cond.selects RX2 yX2_tideIn yX2_tideIn, Cond.code yX2_tideIn cX2_tideIn 3 (some .long)]
def wsX5_read_r2 : List Cond := [Cond.fieldLink RX2 13 "Gravimere$Moon" "period" "I", Cond.fieldLink RX2 7 "Gravimere$Moon" "strength" "I", Cond.instanceMethod yX3_offIn, Cond.initialized RX3, Cond.selects RX3 yX3_offIn yX3_offIn, Cond.code yX3_offIn cX3_offIn 3 (some .long), Cond.fieldLink RX3 9 "Gravimere$Needles" "kinds" "[I", Cond.fieldLink RX3 15 "Gravimere$Needles" "offs" "[I", Cond.fieldLink RX3 18 "Gravimere$Needles" "tiedMonths" "[I"]
def wsX5_read : List Cond := .code yX5_read cX5_read 4 (some .long) :: ((wsX5_read_r1 ++ wsX5_read_r2) ++ wsX50 ++ wsX30 ++ wsX10 ++ wsX20 ++ (vx_atS RX5 189 "java/lang/IndexOutOfBoundsException" ["java/lang/RuntimeException", "java/lang/Exception"]).filter goodWord)
def wsX5_benchmark : List Cond := .code yX5_benchmark cX5_benchmark 1 (some .int) :: ([.fieldLink RX5 33 "Gravimere" "survey" "LGravimere$Survey;", .methodLink RX5 102 yX5_requireRoom, .static yX5_requireRoom, .initialized RX5, .code yX5_requireRoom cX5_requireRoom 2 none, .classLink RX5 88 "java/lang/IllegalStateException", .initialized "java/lang/IllegalStateException", .instanceMethod yX4_addBenchmark, .initialized RX4, .selects RX4 yX4_addBenchmark yX4_addBenchmark, .code yX4_addBenchmark cX4_addBenchmark 1 (some .int), .fieldLink RX4 33 "Gravimere$Survey" "benchmarks" "I"] ++ wsX50 ++ wsX40 ++ (vx_atS RX5 92 "java/lang/IllegalStateException" ["java/lang/RuntimeException", "java/lang/Exception"]).filter goodWord)
def wsX5_line_r1 : List Cond := [Cond.classLink RX5 132 "java/lang/IllegalArgumentException", Cond.initialized "java/lang/IllegalArgumentException", Cond.fieldLink RX5 33 "Gravimere" "survey" "LGravimere$Survey;", Cond.constantLong RX5 137 (-1000000), Cond.constantLong RX5 78 (1000000), Cond.constantLong RX5 97 (1000), Cond.methodLink RX5 52 yX5_requireNumber, Cond.static yX5_requireNumber, Cond.initialized RX5, Cond.code yX5_requireNumber cX5_requireNumber 2 none, Cond.classLink RX5 185 "java/lang/IndexOutOfBoundsException", Cond.initialized "java/lang/IndexOutOfBoundsException", Cond.methodLink RX5 57 yX5_requireRange, Cond.static yX5_requireRange, Cond.code yX5_requireRange cX5_requireRange 6 none, Cond.methodLink RX5 102 yX5_requireRoom, Cond.static yX5_requireRoom, Cond.code yX5_requireRoom cX5_requireRoom 2 none, Cond.classLink RX5 88 "java/lang/IllegalStateException", Cond.initialized "java/lang/IllegalStateException", Cond.instanceMethod yX4_addLine, Cond.initialized RX4, Cond.selects RX4 yX4_addLine yX4_addLine, Cond.code yX4_addLine cX4_addLine 5 (some .int)]
def wsX5_line_r2 : List Cond := [Cond.fieldLink RX4 9 "Gravimere$Survey" "starts" "[I", Cond.fieldLink RX4 37 "Gravimere$Survey" "lines" "I", Cond.fieldLink RX4 15 "Gravimere$Survey" "ends" "[I", Cond.fieldLink RX4 18 "Gravimere$Survey" "rises" "[I", Cond.fieldLink RX4 21 "Gravimere$Survey" "lineDoubts" "[I"]
def wsX5_line : List Cond := .code yX5_line cX5_line 5 (some .int) :: ((wsX5_line_r1 ++ wsX5_line_r2) ++ wsX50 ++ wsX40 ++ (vx_atS RX5 136 "java/lang/IllegalArgumentException" ["java/lang/RuntimeException", "java/lang/Exception"]).filter goodWord ++ (vx_atS RX5 189 "java/lang/IndexOutOfBoundsException" ["java/lang/RuntimeException", "java/lang/Exception"]).filter goodWord ++ (vx_atS RX5 92 "java/lang/IllegalStateException" ["java/lang/RuntimeException", "java/lang/Exception"]).filter goodWord)
def wsX5_height_r1 : List Cond := [Cond.classLink RX5 88 "java/lang/IllegalStateException", Cond.initialized "java/lang/IllegalStateException", Cond.fieldLink RX5 33 "Gravimere" "survey" "LGravimere$Survey;", Cond.methodLink RX5 52 yX5_requireNumber, Cond.static yX5_requireNumber, Cond.initialized RX5, Cond.code yX5_requireNumber cX5_requireNumber 2 none, Cond.classLink RX5 185 "java/lang/IndexOutOfBoundsException", Cond.initialized "java/lang/IndexOutOfBoundsException", Cond.instanceMethod yX4_findHeights, Cond.initialized RX4, Cond.selects RX4 yX4_findHeights yX4_findHeights, Cond.code yX4_findHeights cX4_findHeights 3 none, Cond.fieldLink RX4 27 "Gravimere$Survey" "doubts" "[I", Cond.fieldLink RX4 24 "Gravimere$Survey" "heights" "[I", Cond.fieldLink RX4 33 "Gravimere$Survey" "benchmarks" "I", Cond.methodLink RX4 40 yX4_knowOnlyFirst, Cond.static yX4_knowOnlyFirst, Cond.code yX4_knowOnlyFirst cX4_knowOnlyFirst 2 none, Cond.methodLink RX4 44 yX4_surestLine, Cond.instanceMethod yX4_surestLine, Cond.selects RX4 yX4_surestLine yX4_surestLine, Cond.code yX4_surestLine cX4_surestLine 5 (some .int), Cond.fieldLink RX4 37 "Gravimere$Survey" "lines" "I"]
def wsX5_height_r2 : List Cond := [Cond.methodLink RX4 52 yX4_doubtBeyond, Cond.instanceMethod yX4_doubtBeyond, Cond.selects RX4 yX4_doubtBeyond yX4_doubtBeyond, Cond.code yX4_doubtBeyond cX4_doubtBeyond 4 (some .int), Cond.fieldLink RX4 9 "Gravimere$Survey" "starts" "[I", Cond.fieldLink RX4 15 "Gravimere$Survey" "ends" "[I", Cond.fieldLink RX4 21 "Gravimere$Survey" "lineDoubts" "[I", Cond.methodLink RX4 48 yX4_goAlong, Cond.instanceMethod yX4_goAlong, Cond.selects RX4 yX4_goAlong yX4_goAlong, Cond.code yX4_goAlong cX4_goAlong 4 none, Cond.fieldLink RX4 18 "Gravimere$Survey" "rises" "[I"]
def wsX5_height : List Cond := .code yX5_height cX5_height 2 (some .int) :: ((wsX5_height_r1 ++ wsX5_height_r2) ++ wsX50 ++ wsX40 ++ (vx_atS RX5 92 "java/lang/IllegalStateException" ["java/lang/RuntimeException", "java/lang/Exception"]).filter goodWord ++ (vx_atS RX5 189 "java/lang/IndexOutOfBoundsException" ["java/lang/RuntimeException", "java/lang/Exception"]).filter goodWord)
def wsX5_doubt_r1 : List Cond := [Cond.fieldLink RX5 33 "Gravimere" "survey" "LGravimere$Survey;", Cond.methodLink RX5 52 yX5_requireNumber, Cond.static yX5_requireNumber, Cond.initialized RX5, Cond.code yX5_requireNumber cX5_requireNumber 2 none, Cond.classLink RX5 185 "java/lang/IndexOutOfBoundsException", Cond.initialized "java/lang/IndexOutOfBoundsException", Cond.instanceMethod yX4_findHeights, Cond.initialized RX4, Cond.selects RX4 yX4_findHeights yX4_findHeights, Cond.code yX4_findHeights cX4_findHeights 3 none, Cond.fieldLink RX4 27 "Gravimere$Survey" "doubts" "[I", Cond.fieldLink RX4 24 "Gravimere$Survey" "heights" "[I", Cond.fieldLink RX4 33 "Gravimere$Survey" "benchmarks" "I", Cond.methodLink RX4 40 yX4_knowOnlyFirst, Cond.static yX4_knowOnlyFirst, Cond.code yX4_knowOnlyFirst cX4_knowOnlyFirst 2 none, Cond.methodLink RX4 44 yX4_surestLine, Cond.instanceMethod yX4_surestLine, Cond.selects RX4 yX4_surestLine yX4_surestLine, Cond.code yX4_surestLine cX4_surestLine 5 (some .int), Cond.fieldLink RX4 37 "Gravimere$Survey" "lines" "I", Cond.methodLink RX4 52 yX4_doubtBeyond, Cond.instanceMethod yX4_doubtBeyond]
def wsX5_doubt_r2 : List Cond := [Cond.selects RX4 yX4_doubtBeyond yX4_doubtBeyond, Cond.code yX4_doubtBeyond cX4_doubtBeyond 4 (some .int), Cond.fieldLink RX4 9 "Gravimere$Survey" "starts" "[I", Cond.fieldLink RX4 15 "Gravimere$Survey" "ends" "[I", Cond.fieldLink RX4 21 "Gravimere$Survey" "lineDoubts" "[I", Cond.methodLink RX4 48 yX4_goAlong, Cond.instanceMethod yX4_goAlong, Cond.selects RX4 yX4_goAlong yX4_goAlong, Cond.code yX4_goAlong cX4_goAlong 4 none, Cond.fieldLink RX4 18 "Gravimere$Survey" "rises" "[I"]
def wsX5_doubt : List Cond := .code yX5_doubt cX5_doubt 2 (some .int) :: ((wsX5_doubt_r1 ++ wsX5_doubt_r2) ++ wsX50 ++ wsX40 ++ (vx_atS RX5 189 "java/lang/IndexOutOfBoundsException" ["java/lang/RuntimeException", "java/lang/Exception"]).filter goodWord)
def wsX5_doubtAnew_r1 : List Cond := [Cond.fieldLink RX5 33 "Gravimere" "survey" "LGravimere$Survey;", Cond.methodLink RX5 52 yX5_requireNumber, Cond.static yX5_requireNumber, Cond.initialized RX5, Cond.code yX5_requireNumber cX5_requireNumber 2 none, Cond.classLink RX5 185 "java/lang/IndexOutOfBoundsException", Cond.initialized "java/lang/IndexOutOfBoundsException", Cond.instanceMethod yX4_tryAllLines, Cond.initialized RX4, Cond.selects RX4 yX4_tryAllLines yX4_tryAllLines, Cond.code yX4_tryAllLines cX4_tryAllLines 3 none, Cond.fieldLink RX4 30 "Gravimere$Survey" "triedDoubts" "[I", Cond.fieldLink RX4 33 "Gravimere$Survey" "benchmarks" "I", Cond.methodLink RX4 40 yX4_knowOnlyFirst, Cond.static yX4_knowOnlyFirst, Cond.code yX4_knowOnlyFirst cX4_knowOnlyFirst 2 none, Cond.methodLink RX4 61 yX4_tryEachLine, Cond.instanceMethod yX4_tryEachLine, Cond.selects RX4 yX4_tryEachLine yX4_tryEachLine, Cond.code yX4_tryEachLine cX4_tryEachLine 3 (some .boolean), Cond.fieldLink RX4 37 "Gravimere$Survey" "lines" "I", Cond.fieldLink RX4 9 "Gravimere$Survey" "starts" "[I", Cond.fieldLink RX4 15 "Gravimere$Survey" "ends" "[I", Cond.fieldLink RX4 21 "Gravimere$Survey" "lineDoubts" "[I"]
def wsX5_doubtAnew_r2 : List Cond := [Cond.methodLink RX4 65 yX4_makesLess, Cond.instanceMethod yX4_makesLess, Cond.selects RX4 yX4_makesLess yX4_makesLess, Cond.code yX4_makesLess cX4_makesLess 5 (some .boolean)]
def wsX5_doubtAnew : List Cond := .code yX5_doubtAnew cX5_doubtAnew 2 (some .int) :: ((wsX5_doubtAnew_r1 ++ wsX5_doubtAnew_r2) ++ wsX50 ++ wsX40 ++ (vx_atS RX5 189 "java/lang/IndexOutOfBoundsException" ["java/lang/RuntimeException", "java/lang/Exception"]).filter goodWord)
def wsX5_isInConflict_r1 : List Cond := [Cond.fieldLink RX5 33 "Gravimere" "survey" "LGravimere$Survey;", Cond.methodLink RX5 52 yX5_requireNumber, Cond.static yX5_requireNumber, Cond.initialized RX5, Cond.code yX5_requireNumber cX5_requireNumber 2 none, Cond.classLink RX5 185 "java/lang/IndexOutOfBoundsException", Cond.initialized "java/lang/IndexOutOfBoundsException", Cond.instanceMethod yX4_findHeights, Cond.initialized RX4, Cond.selects RX4 yX4_findHeights yX4_findHeights, Cond.code yX4_findHeights cX4_findHeights 3 none, Cond.fieldLink RX4 27 "Gravimere$Survey" "doubts" "[I", Cond.fieldLink RX4 24 "Gravimere$Survey" "heights" "[I", Cond.fieldLink RX4 33 "Gravimere$Survey" "benchmarks" "I", Cond.methodLink RX4 40 yX4_knowOnlyFirst, Cond.static yX4_knowOnlyFirst, Cond.code yX4_knowOnlyFirst cX4_knowOnlyFirst 2 none, Cond.methodLink RX4 44 yX4_surestLine, Cond.instanceMethod yX4_surestLine, Cond.selects RX4 yX4_surestLine yX4_surestLine, Cond.code yX4_surestLine cX4_surestLine 5 (some .int), Cond.fieldLink RX4 37 "Gravimere$Survey" "lines" "I", Cond.methodLink RX4 52 yX4_doubtBeyond, Cond.instanceMethod yX4_doubtBeyond]
def wsX5_isInConflict_r2 : List Cond := [Cond.selects RX4 yX4_doubtBeyond yX4_doubtBeyond, Cond.code yX4_doubtBeyond cX4_doubtBeyond 4 (some .int), Cond.fieldLink RX4 9 "Gravimere$Survey" "starts" "[I", Cond.fieldLink RX4 15 "Gravimere$Survey" "ends" "[I", Cond.fieldLink RX4 21 "Gravimere$Survey" "lineDoubts" "[I", Cond.methodLink RX4 48 yX4_goAlong, Cond.instanceMethod yX4_goAlong, Cond.selects RX4 yX4_goAlong yX4_goAlong, Cond.code yX4_goAlong cX4_goAlong 4 none, Cond.fieldLink RX4 18 "Gravimere$Survey" "rises" "[I", Cond.instanceMethod yX4_contradicts, Cond.selects RX4 yX4_contradicts yX4_contradicts, Cond.code yX4_contradicts cX4_contradicts 5 (some .boolean), Cond.methodLink RX4 56 Lib.Math.abs.name, Cond.static Lib.Math.abs.name, Cond.initialized "java/lang/Math", Cond.code Lib.Math.abs.name Lib.Math.abs.code 1 (some .int)]
def wsX5_isInConflict : List Cond := .code yX5_isInConflict cX5_isInConflict 2 (some .boolean) :: ((wsX5_isInConflict_r1 ++ wsX5_isInConflict_r2) ++ wsX50 ++ wsX40 ++ (vx_atS RX5 189 "java/lang/IndexOutOfBoundsException" ["java/lang/RuntimeException", "java/lang/Exception"]).filter goodWord)
def wsX5_release : List Cond := .code yX5_release cX5_release 1 (some .int) :: ([.fieldLink RX5 40 "Gravimere" "archive" "LGravimere$Archive;", .fieldLink RX5 12 "Gravimere" "body" "LGravimere$Body;", .fieldLink RX5 44 "Gravimere" "month" "I", .methodLink RX5 102 yX5_requireRoom, .static yX5_requireRoom, .initialized RX5, .code yX5_requireRoom cX5_requireRoom 2 none, .classLink RX5 88 "java/lang/IllegalStateException", .initialized "java/lang/IllegalStateException", .instanceMethod yX0_keep, .initialized RX0, .selects RX0 yX0_keep yX0_keep, .code yX0_keep cX0_keep 3 (some .int), .fieldLink RX0 9 "Gravimere$Archive" "pulls" "[J", .fieldLink RX0 19 "Gravimere$Archive" "count" "I", .methodLink RX0 23 arraycopyName, .native arraycopyName, .static arraycopyName, .initialized "java/lang/System", .fieldLink RX0 15 "Gravimere$Archive" "months" "[I"] ++ wsX50 ++ wsX00 ++ wsX10 ++ (vx_atS RX5 92 "java/lang/IllegalStateException" ["java/lang/RuntimeException", "java/lang/Exception"]).filter goodWord)
def wsX5_trend : List Cond := .code yX5_trend cX5_trend 6 (some .long) :: ([.classLink RX5 88 "java/lang/IllegalStateException", .initialized "java/lang/IllegalStateException", .fieldLink RX5 40 "Gravimere" "archive" "LGravimere$Archive;", .methodLink RX5 52 yX5_requireNumber, .static yX5_requireNumber, .initialized RX5, .code yX5_requireNumber cX5_requireNumber 2 none, .classLink RX5 185 "java/lang/IndexOutOfBoundsException", .initialized "java/lang/IndexOutOfBoundsException", .methodLink RX5 48 yX5_requireCell, .static yX5_requireCell, .code yX5_requireCell cX5_requireCell 2 none, .instanceMethod yX0_trendFrom, .initialized RX0, .selects RX0 yX0_trendFrom yX0_trendFrom, .code yX0_trendFrom cX0_trendFrom 9 (some .long), .fieldLink RX0 15 "Gravimere$Archive" "months" "[I", .fieldLink RX0 9 "Gravimere$Archive" "pulls" "[J", .static yX5_cellNumber, .code yX5_cellNumber cX5_cellNumber 2 (some .int), .methodLink RX0 33 yJ9_floorDiv_f86c9, .static yJ9_floorDiv_f86c9, .initialized RJ9, .code yJ9_floorDiv_f86c9 cJ9_floorDiv_f86c9 6 (some .long)] ++ wsX50 ++ wsX00 ++ (vx_atS RX5 92 "java/lang/IllegalStateException" ["java/lang/RuntimeException", "java/lang/Exception"]).filter goodWord ++ (vx_atS RX5 189 "java/lang/IndexOutOfBoundsException" ["java/lang/RuntimeException", "java/lang/Exception"]).filter goodWord)
def wsX6_init : List Cond := .code yX6_init cX6_init 1 none :: ([.methodLink RX6 1 objectInit, .instanceMethod objectInit, .code objectInit ⟨#[0xb1]⟩ 1 none, .arrayClass .long, .fieldLink RX6 7 "GravimereModel" "masses" "[J", .fieldLink RX6 13 "GravimereModel" "period" "I", .arrayClass .int, .fieldLink RX6 17 "GravimereModel" "kind" "[I", .fieldLink RX6 21 "GravimereModel" "off" "[I", .fieldLink RX6 24 "GravimereModel" "tied" "[I", .fieldLink RX6 27 "GravimereModel" "from" "[I", .fieldLink RX6 30 "GravimereModel" "to" "[I", .fieldLink RX6 33 "GravimereModel" "higher" "[I", .fieldLink RX6 36 "GravimereModel" "unsure" "[I", .fieldLink RX6 39 "GravimereModel" "doubts" "[I", .fieldLink RX6 42 "GravimereModel" "heights" "[I", .fieldLink RX6 45 "GravimereModel" "kept" "[J", .fieldLink RX6 48 "GravimereModel" "made" "[I", .fieldLink RX6 51 "GravimereModel" "month" "I"] ++ wsX60)
def wsX6_thrown : List Cond := .code yX6_thrown cX6_thrown 1 (some .int) :: ([.fieldLink RX6 54 "GravimereModel" "thrown" "I"] ++ wsX60)
def wsX6_holds : List Cond := .code yX6_holds cX6_holds 2 (some .boolean) :: ([.fieldLink RX6 54 "GravimereModel" "thrown" "I"] ++ wsX60)
def wsX6_isIn : List Cond := .code yX6_isIn cX6_isIn 6 (some .boolean) :: ([])
def wsX6_isCell : List Cond := .code yX6_isCell cX6_isCell 2 (some .boolean) :: ([.constantLong RX6 57 (7), .methodLink RX6 59 yX6_isIn, .static yX6_isIn, .initialized RX6, .code yX6_isIn cX6_isIn 6 (some .boolean)])
def wsX6_isNeedle : List Cond := .code yX6_isNeedle cX6_isNeedle 2 (some .boolean) :: ([.fieldLink RX6 63 "GravimereModel" "needles" "I", .methodLink RX6 59 yX6_isIn, .static yX6_isIn, .initialized RX6, .code yX6_isIn cX6_isIn 6 (some .boolean)] ++ wsX60)
def wsX6_isBenchmark : List Cond := .code yX6_isBenchmark cX6_isBenchmark 2 (some .boolean) :: ([.fieldLink RX6 66 "GravimereModel" "benchmarks" "I", .methodLink RX6 59 yX6_isIn, .static yX6_isIn, .initialized RX6, .code yX6_isIn cX6_isIn 6 (some .boolean)] ++ wsX60)
def wsX6_isRelease : List Cond := .code yX6_isRelease cX6_isRelease 2 (some .boolean) :: ([.fieldLink RX6 69 "GravimereModel" "releases" "I", .methodLink RX6 59 yX6_isIn, .static yX6_isIn, .initialized RX6, .code yX6_isIn cX6_isIn 6 (some .boolean)] ++ wsX60)
def wsX6_changed : List Cond := .code yX6_changed cX6_changed 6 (some .long) :: ([.fieldLink RX6 7 "GravimereModel" "masses" "[J"] ++ wsX60)
def wsX6_mass : List Cond := .code yX6_mass cX6_mass 7 (some .long) :: ([.constantLong RX6 76 (2), .constantLong RX6 78 (40000000000), .methodLink RX6 72 yX6_isCell, .static yX6_isCell, .initialized RX6, .code yX6_isCell cX6_isCell 2 (some .boolean), .constantLong RX6 57 (7), .methodLink RX6 59 yX6_isIn, .static yX6_isIn, .code yX6_isIn cX6_isIn 6 (some .boolean), .methodLink RX6 80 yX6_holds, .instanceMethod yX6_holds, .selects RX6 yX6_holds yX6_holds, .code yX6_holds cX6_holds 2 (some .boolean), .fieldLink RX6 54 "GravimereModel" "thrown" "I", .methodLink RX6 84 yX6_changed, .instanceMethod yX6_changed, .selects RX6 yX6_changed yX6_changed, .code yX6_changed cX6_changed 6 (some .long), .fieldLink RX6 7 "GravimereModel" "masses" "[J"] ++ wsX60)
def wsX6_water : List Cond := .code yX6_water cX6_water 6 (some .long) :: ([.constantLong RX6 88 (1000000000), .methodLink RX6 72 yX6_isCell, .static yX6_isCell, .initialized RX6, .code yX6_isCell cX6_isCell 2 (some .boolean), .constantLong RX6 57 (7), .methodLink RX6 59 yX6_isIn, .static yX6_isIn, .code yX6_isIn cX6_isIn 6 (some .boolean), .methodLink RX6 80 yX6_holds, .instanceMethod yX6_holds, .selects RX6 yX6_holds yX6_holds, .code yX6_holds cX6_holds 2 (some .boolean), .fieldLink RX6 54 "GravimereModel" "thrown" "I", .methodLink RX6 84 yX6_changed, .instanceMethod yX6_changed, .selects RX6 yX6_changed yX6_changed, .code yX6_changed cX6_changed 6 (some .long), .fieldLink RX6 7 "GravimereModel" "masses" "[J"] ++ wsX60)
def wsX6_pullAt : List Cond := .code yX6_pullAt cX6_pullAt 10 (some .long) :: ([.fieldLink RX6 7 "GravimereModel" "masses" "[J", .constantLong RX6 90 (1000000)] ++ wsX60)
def wsX6_pull : List Cond := .code yX6_pull cX6_pull 3 (some .long) :: ([.methodLink RX6 72 yX6_isCell, .static yX6_isCell, .initialized RX6, .code yX6_isCell cX6_isCell 2 (some .boolean), .constantLong RX6 57 (7), .methodLink RX6 59 yX6_isIn, .static yX6_isIn, .code yX6_isIn cX6_isIn 6 (some .boolean), .methodLink RX6 80 yX6_holds, .instanceMethod yX6_holds, .selects RX6 yX6_holds yX6_holds, .code yX6_holds cX6_holds 2 (some .boolean), .fieldLink RX6 54 "GravimereModel" "thrown" "I", .methodLink RX6 92 yX6_pullAt, .instanceMethod yX6_pullAt, .selects RX6 yX6_pullAt yX6_pullAt, .code yX6_pullAt cX6_pullAt 10 (some .long), .fieldLink RX6 7 "GravimereModel" "masses" "[J", .constantLong RX6 90 (1000000)] ++ wsX60)
def wsX6_pullAnew : List Cond := .code yX6_pullAnew cX6_pullAnew 3 (some .long) :: ([.methodLink RX6 72 yX6_isCell, .static yX6_isCell, .initialized RX6, .code yX6_isCell cX6_isCell 2 (some .boolean), .constantLong RX6 57 (7), .methodLink RX6 59 yX6_isIn, .static yX6_isIn, .code yX6_isIn cX6_isIn 6 (some .boolean), .methodLink RX6 80 yX6_holds, .instanceMethod yX6_holds, .selects RX6 yX6_holds yX6_holds, .code yX6_holds cX6_holds 2 (some .boolean), .fieldLink RX6 54 "GravimereModel" "thrown" "I", .methodLink RX6 92 yX6_pullAt, .instanceMethod yX6_pullAt, .selects RX6 yX6_pullAt yX6_pullAt, .code yX6_pullAt cX6_pullAt 10 (some .long), .fieldLink RX6 7 "GravimereModel" "masses" "[J", .constantLong RX6 90 (1000000)] ++ wsX60)
def wsX6_gap : List Cond := .code yX6_gap cX6_gap 3 (some .long) :: ([.methodLink RX6 72 yX6_isCell, .static yX6_isCell, .initialized RX6, .code yX6_isCell cX6_isCell 2 (some .boolean), .constantLong RX6 57 (7), .methodLink RX6 59 yX6_isIn, .static yX6_isIn, .code yX6_isIn cX6_isIn 6 (some .boolean), .methodLink RX6 80 yX6_holds, .instanceMethod yX6_holds, .selects RX6 yX6_holds yX6_holds, .code yX6_holds cX6_holds 2 (some .boolean), .fieldLink RX6 54 "GravimereModel" "thrown" "I", .methodLink RX6 92 yX6_pullAt, .instanceMethod yX6_pullAt, .selects RX6 yX6_pullAt yX6_pullAt, .code yX6_pullAt cX6_pullAt 10 (some .long), .fieldLink RX6 7 "GravimereModel" "masses" "[J", .constantLong RX6 90 (1000000)] ++ wsX60)
def wsX6_tide : List Cond := .code yX6_tide cX6_tide 4 (some .int) :: ([.constantLong RX6 90 (1000000), .constantLong RX6 96 (60), .fieldLink RX6 98 "GravimereModel" "strength" "I", .fieldLink RX6 13 "GravimereModel" "period" "I", .methodLink RX6 59 yX6_isIn, .static yX6_isIn, .initialized RX6, .code yX6_isIn cX6_isIn 6 (some .boolean), .methodLink RX6 80 yX6_holds, .instanceMethod yX6_holds, .selects RX6 yX6_holds yX6_holds, .code yX6_holds cX6_holds 2 (some .boolean), .fieldLink RX6 54 "GravimereModel" "thrown" "I"] ++ wsX60)
def wsX6_pass : List Cond := .code yX6_pass cX6_pass 2 (some .int) :: ([.constantLong RX6 101 (120), .fieldLink RX6 51 "GravimereModel" "month" "I", .methodLink RX6 59 yX6_isIn, .static yX6_isIn, .initialized RX6, .code yX6_isIn cX6_isIn 6 (some .boolean), .methodLink RX6 80 yX6_holds, .instanceMethod yX6_holds, .selects RX6 yX6_holds yX6_holds, .code yX6_holds cX6_holds 2 (some .boolean), .fieldLink RX6 54 "GravimereModel" "thrown" "I"] ++ wsX60)
def wsX6_needle : List Cond := .code yX6_needle cX6_needle 4 (some .int) :: ([.constantLong RX6 103 (-1000), .constantLong RX6 105 (1000), .fieldLink RX6 63 "GravimereModel" "needles" "I", .fieldLink RX6 17 "GravimereModel" "kind" "[I", .fieldLink RX6 21 "GravimereModel" "off" "[I", .fieldLink RX6 24 "GravimereModel" "tied" "[I", .fieldLink RX6 51 "GravimereModel" "month" "I", .methodLink RX6 59 yX6_isIn, .static yX6_isIn, .initialized RX6, .code yX6_isIn cX6_isIn 6 (some .boolean), .methodLink RX6 80 yX6_holds, .instanceMethod yX6_holds, .selects RX6 yX6_holds yX6_holds, .code yX6_holds cX6_holds 2 (some .boolean), .fieldLink RX6 54 "GravimereModel" "thrown" "I"] ++ wsX60)
def wsX6_offNow : List Cond := .code yX6_offNow cX6_offNow 2 (some .long) :: ([.fieldLink RX6 17 "GravimereModel" "kind" "[I", .fieldLink RX6 21 "GravimereModel" "off" "[I", .fieldLink RX6 51 "GravimereModel" "month" "I", .fieldLink RX6 24 "GravimereModel" "tied" "[I"] ++ wsX60)
def wsX6_tie : List Cond := .code yX6_tie cX6_tie 5 (some .long) :: ([.fieldLink RX6 17 "GravimereModel" "kind" "[I", .fieldLink RX6 24 "GravimereModel" "tied" "[I", .fieldLink RX6 51 "GravimereModel" "month" "I", .methodLink RX6 107 yX6_isNeedle, .instanceMethod yX6_isNeedle, .selects RX6 yX6_isNeedle yX6_isNeedle, .initialized RX6, .code yX6_isNeedle cX6_isNeedle 2 (some .boolean), .fieldLink RX6 63 "GravimereModel" "needles" "I", .methodLink RX6 59 yX6_isIn, .static yX6_isIn, .code yX6_isIn cX6_isIn 6 (some .boolean), .methodLink RX6 80 yX6_holds, .instanceMethod yX6_holds, .selects RX6 yX6_holds yX6_holds, .code yX6_holds cX6_holds 2 (some .boolean), .fieldLink RX6 54 "GravimereModel" "thrown" "I", .methodLink RX6 110 yX6_offNow, .instanceMethod yX6_offNow, .selects RX6 yX6_offNow yX6_offNow, .code yX6_offNow cX6_offNow 2 (some .long), .fieldLink RX6 21 "GravimereModel" "off" "[I"] ++ wsX60)
def wsX6_readAt : List Cond := .code yX6_readAt cX6_readAt 5 (some .long) :: ([.fieldLink RX6 51 "GravimereModel" "month" "I", .fieldLink RX6 13 "GravimereModel" "period" "I", .fieldLink RX6 98 "GravimereModel" "strength" "I", .methodLink RX6 92 yX6_pullAt, .instanceMethod yX6_pullAt, .selects RX6 yX6_pullAt yX6_pullAt, .initialized RX6, .code yX6_pullAt cX6_pullAt 10 (some .long), .fieldLink RX6 7 "GravimereModel" "masses" "[J", .constantLong RX6 90 (1000000), .methodLink RX6 110 yX6_offNow, .instanceMethod yX6_offNow, .selects RX6 yX6_offNow yX6_offNow, .code yX6_offNow cX6_offNow 2 (some .long), .fieldLink RX6 17 "GravimereModel" "kind" "[I", .fieldLink RX6 21 "GravimereModel" "off" "[I", .fieldLink RX6 24 "GravimereModel" "tied" "[I"] ++ wsX60)
def wsX6_read_r1 : List Cond := [Cond.methodLink RX6 107 yX6_isNeedle, Cond.instanceMethod yX6_isNeedle, Cond.selects RX6 yX6_isNeedle yX6_isNeedle, Cond.initialized RX6, Cond.code yX6_isNeedle cX6_isNeedle 2 (some .boolean), Cond.fieldLink RX6 63 "GravimereModel" "needles" "I", Cond.methodLink RX6 59 yX6_isIn, Cond.static yX6_isIn, Cond.code yX6_isIn cX6_isIn 6 (some .boolean), Cond.methodLink RX6 72 yX6_isCell, Cond.static yX6_isCell, Cond.code yX6_isCell cX6_isCell 2 (some .boolean), Cond.constantLong RX6 57 (7), Cond.methodLink RX6 80 yX6_holds, Cond.instanceMethod yX6_holds, Cond.selects RX6 yX6_holds yX6_holds, Cond.code yX6_holds cX6_holds 2 (some .boolean), Cond.fieldLink RX6 54 "GravimereModel" "thrown" "I", Cond.methodLink RX6 114 yX6_readAt, Cond.instanceMethod yX6_readAt, Cond.selects RX6 yX6_readAt yX6_readAt, Cond.code yX6_readAt cX6_readAt 5 (some .long), Cond.fieldLink RX6 51 "GravimereModel" "month" "I", Cond.fieldLink RX6 13 "GravimereModel" "period" "I"]
def wsX6_read_r2 : List Cond := [Cond.fieldLink RX6 98 "GravimereModel" "strength" "I", Cond.methodLink RX6 92 yX6_pullAt, Cond.instanceMethod yX6_pullAt, Cond.selects RX6 yX6_pullAt yX6_pullAt, Cond.code yX6_pullAt cX6_pullAt 10 (some .long), Cond.fieldLink RX6 7 "GravimereModel" "masses" "[J", Cond.constantLong RX6 90 (1000000), Cond.methodLink RX6 110 yX6_offNow, Cond.instanceMethod yX6_offNow, Cond.selects RX6 yX6_offNow yX6_offNow, Cond.code yX6_offNow cX6_offNow 2 (some .long), Cond.fieldLink RX6 17 "GravimereModel" "kind" "[I", Cond.fieldLink RX6 21 "GravimereModel" "off" "[I", Cond.fieldLink RX6 24 "GravimereModel" "tied" "[I"]
def wsX6_read : List Cond := .code yX6_read cX6_read 4 (some .long) :: ((wsX6_read_r1 ++ wsX6_read_r2) ++ wsX60)
def wsX6_benchmark : List Cond := .code yX6_benchmark cX6_benchmark 1 (some .int) :: ([.fieldLink RX6 66 "GravimereModel" "benchmarks" "I", .methodLink RX6 80 yX6_holds, .instanceMethod yX6_holds, .selects RX6 yX6_holds yX6_holds, .initialized RX6, .code yX6_holds cX6_holds 2 (some .boolean), .fieldLink RX6 54 "GravimereModel" "thrown" "I"] ++ wsX60)
def wsX6_line : List Cond := .code yX6_line cX6_line 7 (some .int) :: ([.constantLong RX6 121 (-1000000), .constantLong RX6 90 (1000000), .constantLong RX6 105 (1000), .fieldLink RX6 123 "GravimereModel" "lines" "I", .fieldLink RX6 27 "GravimereModel" "from" "[I", .fieldLink RX6 30 "GravimereModel" "to" "[I", .fieldLink RX6 33 "GravimereModel" "higher" "[I", .fieldLink RX6 36 "GravimereModel" "unsure" "[I", .methodLink RX6 118 yX6_isBenchmark, .instanceMethod yX6_isBenchmark, .selects RX6 yX6_isBenchmark yX6_isBenchmark, .initialized RX6, .code yX6_isBenchmark cX6_isBenchmark 2 (some .boolean), .fieldLink RX6 66 "GravimereModel" "benchmarks" "I", .methodLink RX6 59 yX6_isIn, .static yX6_isIn, .code yX6_isIn cX6_isIn 6 (some .boolean), .methodLink RX6 80 yX6_holds, .instanceMethod yX6_holds, .selects RX6 yX6_holds yX6_holds, .code yX6_holds cX6_holds 2 (some .boolean), .fieldLink RX6 54 "GravimereModel" "thrown" "I"] ++ wsX60)
def wsX6_isFound : List Cond := .code yX6_isFound cX6_isFound 2 (some .boolean) :: ([.fieldLink RX6 39 "GravimereModel" "doubts" "[I"] ++ wsX60)
def wsX6_finds : List Cond := .code yX6_finds cX6_finds 3 (some .int) :: ([.fieldLink RX6 27 "GravimereModel" "from" "[I", .fieldLink RX6 30 "GravimereModel" "to" "[I", .fieldLink RX6 36 "GravimereModel" "unsure" "[I", .fieldLink RX6 39 "GravimereModel" "doubts" "[I", .methodLink RX6 126 yX6_isFound, .instanceMethod yX6_isFound, .selects RX6 yX6_isFound yX6_isFound, .initialized RX6, .code yX6_isFound cX6_isFound 2 (some .boolean)] ++ wsX60)
def wsX6_next : List Cond := .code yX6_next cX6_next 4 (some .int) :: ([.fieldLink RX6 123 "GravimereModel" "lines" "I", .methodLink RX6 129 yX6_finds, .instanceMethod yX6_finds, .selects RX6 yX6_finds yX6_finds, .initialized RX6, .code yX6_finds cX6_finds 3 (some .int), .fieldLink RX6 27 "GravimereModel" "from" "[I", .fieldLink RX6 30 "GravimereModel" "to" "[I", .fieldLink RX6 36 "GravimereModel" "unsure" "[I", .fieldLink RX6 39 "GravimereModel" "doubts" "[I", .methodLink RX6 126 yX6_isFound, .instanceMethod yX6_isFound, .selects RX6 yX6_isFound yX6_isFound, .code yX6_isFound cX6_isFound 2 (some .boolean)] ++ wsX60)
def wsX6_findsAll : List Cond := .code yX6_findsAll cX6_findsAll 5 none :: ([.fieldLink RX6 39 "GravimereModel" "doubts" "[I", .fieldLink RX6 42 "GravimereModel" "heights" "[I", .fieldLink RX6 27 "GravimereModel" "from" "[I", .fieldLink RX6 30 "GravimereModel" "to" "[I", .fieldLink RX6 33 "GravimereModel" "higher" "[I", .methodLink RX6 133 yX6_next, .instanceMethod yX6_next, .selects RX6 yX6_next yX6_next, .initialized RX6, .code yX6_next cX6_next 4 (some .int), .fieldLink RX6 123 "GravimereModel" "lines" "I", .methodLink RX6 129 yX6_finds, .instanceMethod yX6_finds, .selects RX6 yX6_finds yX6_finds, .code yX6_finds cX6_finds 3 (some .int), .fieldLink RX6 36 "GravimereModel" "unsure" "[I", .methodLink RX6 126 yX6_isFound, .instanceMethod yX6_isFound, .selects RX6 yX6_isFound yX6_isFound, .code yX6_isFound cX6_isFound 2 (some .boolean)] ++ wsX60)
def wsX6_height_r1 : List Cond := [Cond.fieldLink RX6 42 "GravimereModel" "heights" "[I", Cond.methodLink RX6 118 yX6_isBenchmark, Cond.instanceMethod yX6_isBenchmark, Cond.selects RX6 yX6_isBenchmark yX6_isBenchmark, Cond.initialized RX6, Cond.code yX6_isBenchmark cX6_isBenchmark 2 (some .boolean), Cond.fieldLink RX6 66 "GravimereModel" "benchmarks" "I", Cond.methodLink RX6 59 yX6_isIn, Cond.static yX6_isIn, Cond.code yX6_isIn cX6_isIn 6 (some .boolean), Cond.methodLink RX6 137 yX6_findsAll, Cond.instanceMethod yX6_findsAll, Cond.selects RX6 yX6_findsAll yX6_findsAll, Cond.code yX6_findsAll cX6_findsAll 5 none, Cond.fieldLink RX6 39 "GravimereModel" "doubts" "[I", Cond.fieldLink RX6 27 "GravimereModel" "from" "[I", Cond.fieldLink RX6 30 "GravimereModel" "to" "[I", Cond.fieldLink RX6 33 "GravimereModel" "higher" "[I", Cond.methodLink RX6 133 yX6_next, Cond.instanceMethod yX6_next, Cond.selects RX6 yX6_next yX6_next, Cond.code yX6_next cX6_next 4 (some .int), Cond.fieldLink RX6 123 "GravimereModel" "lines" "I", Cond.methodLink RX6 129 yX6_finds]
def wsX6_height_r2 : List Cond := [Cond.instanceMethod yX6_finds, Cond.selects RX6 yX6_finds yX6_finds, Cond.code yX6_finds cX6_finds 3 (some .int), Cond.fieldLink RX6 36 "GravimereModel" "unsure" "[I", Cond.methodLink RX6 126 yX6_isFound, Cond.instanceMethod yX6_isFound, Cond.selects RX6 yX6_isFound yX6_isFound, Cond.code yX6_isFound cX6_isFound 2 (some .boolean), Cond.methodLink RX6 80 yX6_holds, Cond.instanceMethod yX6_holds, Cond.selects RX6 yX6_holds yX6_holds, Cond.code yX6_holds cX6_holds 2 (some .boolean), Cond.fieldLink RX6 54 "GravimereModel" "thrown" "I"]
def wsX6_height : List Cond := .code yX6_height cX6_height 3 (some .int) :: ((wsX6_height_r1 ++ wsX6_height_r2) ++ wsX60)
def wsX6_doubtOf : List Cond := .code yX6_doubtOf cX6_doubtOf 2 (some .int) :: ([.fieldLink RX6 39 "GravimereModel" "doubts" "[I", .methodLink RX6 137 yX6_findsAll, .instanceMethod yX6_findsAll, .selects RX6 yX6_findsAll yX6_findsAll, .initialized RX6, .code yX6_findsAll cX6_findsAll 5 none, .fieldLink RX6 42 "GravimereModel" "heights" "[I", .fieldLink RX6 27 "GravimereModel" "from" "[I", .fieldLink RX6 30 "GravimereModel" "to" "[I", .fieldLink RX6 33 "GravimereModel" "higher" "[I", .methodLink RX6 133 yX6_next, .instanceMethod yX6_next, .selects RX6 yX6_next yX6_next, .code yX6_next cX6_next 4 (some .int), .fieldLink RX6 123 "GravimereModel" "lines" "I", .methodLink RX6 129 yX6_finds, .instanceMethod yX6_finds, .selects RX6 yX6_finds yX6_finds, .code yX6_finds cX6_finds 3 (some .int), .fieldLink RX6 36 "GravimereModel" "unsure" "[I", .methodLink RX6 126 yX6_isFound, .instanceMethod yX6_isFound, .selects RX6 yX6_isFound yX6_isFound, .code yX6_isFound cX6_isFound 2 (some .boolean)] ++ wsX60)
def wsX6_doubt_r1 : List Cond := [Cond.methodLink RX6 118 yX6_isBenchmark, Cond.instanceMethod yX6_isBenchmark, Cond.selects RX6 yX6_isBenchmark yX6_isBenchmark, Cond.initialized RX6, Cond.code yX6_isBenchmark cX6_isBenchmark 2 (some .boolean), Cond.fieldLink RX6 66 "GravimereModel" "benchmarks" "I", Cond.methodLink RX6 59 yX6_isIn, Cond.static yX6_isIn, Cond.code yX6_isIn cX6_isIn 6 (some .boolean), Cond.methodLink RX6 80 yX6_holds, Cond.instanceMethod yX6_holds, Cond.selects RX6 yX6_holds yX6_holds, Cond.code yX6_holds cX6_holds 2 (some .boolean), Cond.fieldLink RX6 54 "GravimereModel" "thrown" "I", Cond.methodLink RX6 140 yX6_doubtOf, Cond.instanceMethod yX6_doubtOf, Cond.selects RX6 yX6_doubtOf yX6_doubtOf, Cond.code yX6_doubtOf cX6_doubtOf 2 (some .int), Cond.fieldLink RX6 39 "GravimereModel" "doubts" "[I", Cond.methodLink RX6 137 yX6_findsAll, Cond.instanceMethod yX6_findsAll, Cond.selects RX6 yX6_findsAll yX6_findsAll, Cond.code yX6_findsAll cX6_findsAll 5 none, Cond.fieldLink RX6 42 "GravimereModel" "heights" "[I"]
def wsX6_doubt_r2 : List Cond := [Cond.fieldLink RX6 27 "GravimereModel" "from" "[I", Cond.fieldLink RX6 30 "GravimereModel" "to" "[I", Cond.fieldLink RX6 33 "GravimereModel" "higher" "[I", Cond.methodLink RX6 133 yX6_next, Cond.instanceMethod yX6_next, Cond.selects RX6 yX6_next yX6_next, Cond.code yX6_next cX6_next 4 (some .int), Cond.fieldLink RX6 123 "GravimereModel" "lines" "I", Cond.methodLink RX6 129 yX6_finds, Cond.instanceMethod yX6_finds, Cond.selects RX6 yX6_finds yX6_finds, Cond.code yX6_finds cX6_finds 3 (some .int), Cond.fieldLink RX6 36 "GravimereModel" "unsure" "[I", Cond.methodLink RX6 126 yX6_isFound, Cond.instanceMethod yX6_isFound, Cond.selects RX6 yX6_isFound yX6_isFound, Cond.code yX6_isFound cX6_isFound 2 (some .boolean)]
def wsX6_doubt : List Cond := .code yX6_doubt cX6_doubt 2 (some .int) :: ((wsX6_doubt_r1 ++ wsX6_doubt_r2) ++ wsX60)
def wsX6_doubtAnew_r1 : List Cond := [Cond.methodLink RX6 118 yX6_isBenchmark, Cond.instanceMethod yX6_isBenchmark, Cond.selects RX6 yX6_isBenchmark yX6_isBenchmark, Cond.initialized RX6, Cond.code yX6_isBenchmark cX6_isBenchmark 2 (some .boolean), Cond.fieldLink RX6 66 "GravimereModel" "benchmarks" "I", Cond.methodLink RX6 59 yX6_isIn, Cond.static yX6_isIn, Cond.code yX6_isIn cX6_isIn 6 (some .boolean), Cond.methodLink RX6 80 yX6_holds, Cond.instanceMethod yX6_holds, Cond.selects RX6 yX6_holds yX6_holds, Cond.code yX6_holds cX6_holds 2 (some .boolean), Cond.fieldLink RX6 54 "GravimereModel" "thrown" "I", Cond.methodLink RX6 140 yX6_doubtOf, Cond.instanceMethod yX6_doubtOf, Cond.selects RX6 yX6_doubtOf yX6_doubtOf, Cond.code yX6_doubtOf cX6_doubtOf 2 (some .int), Cond.fieldLink RX6 39 "GravimereModel" "doubts" "[I", Cond.methodLink RX6 137 yX6_findsAll, Cond.instanceMethod yX6_findsAll, Cond.selects RX6 yX6_findsAll yX6_findsAll, Cond.code yX6_findsAll cX6_findsAll 5 none, Cond.fieldLink RX6 42 "GravimereModel" "heights" "[I"]
def wsX6_doubtAnew_r2 : List Cond := [Cond.fieldLink RX6 27 "GravimereModel" "from" "[I", Cond.fieldLink RX6 30 "GravimereModel" "to" "[I", Cond.fieldLink RX6 33 "GravimereModel" "higher" "[I", Cond.methodLink RX6 133 yX6_next, Cond.instanceMethod yX6_next, Cond.selects RX6 yX6_next yX6_next, Cond.code yX6_next cX6_next 4 (some .int), Cond.fieldLink RX6 123 "GravimereModel" "lines" "I", Cond.methodLink RX6 129 yX6_finds, Cond.instanceMethod yX6_finds, Cond.selects RX6 yX6_finds yX6_finds, Cond.code yX6_finds cX6_finds 3 (some .int), Cond.fieldLink RX6 36 "GravimereModel" "unsure" "[I", Cond.methodLink RX6 126 yX6_isFound, Cond.instanceMethod yX6_isFound, Cond.selects RX6 yX6_isFound yX6_isFound, Cond.code yX6_isFound cX6_isFound 2 (some .boolean)]
def wsX6_doubtAnew : List Cond := .code yX6_doubtAnew cX6_doubtAnew 2 (some .int) :: ((wsX6_doubtAnew_r1 ++ wsX6_doubtAnew_r2) ++ wsX60)
def wsX6_conflicts : List Cond := .code yX6_conflicts cX6_conflicts 5 (some .boolean) :: ([.fieldLink RX6 27 "GravimereModel" "from" "[I", .fieldLink RX6 30 "GravimereModel" "to" "[I", .fieldLink RX6 33 "GravimereModel" "higher" "[I", .fieldLink RX6 42 "GravimereModel" "heights" "[I", .fieldLink RX6 36 "GravimereModel" "unsure" "[I", .fieldLink RX6 39 "GravimereModel" "doubts" "[I", .methodLink RX6 137 yX6_findsAll, .instanceMethod yX6_findsAll, .selects RX6 yX6_findsAll yX6_findsAll, .initialized RX6, .code yX6_findsAll cX6_findsAll 5 none, .methodLink RX6 133 yX6_next, .instanceMethod yX6_next, .selects RX6 yX6_next yX6_next, .code yX6_next cX6_next 4 (some .int), .fieldLink RX6 123 "GravimereModel" "lines" "I", .methodLink RX6 129 yX6_finds, .instanceMethod yX6_finds, .selects RX6 yX6_finds yX6_finds, .code yX6_finds cX6_finds 3 (some .int), .methodLink RX6 126 yX6_isFound, .instanceMethod yX6_isFound, .selects RX6 yX6_isFound yX6_isFound, .code yX6_isFound cX6_isFound 2 (some .boolean)] ++ wsX60)
def wsX6_isInConflict_r1 : List Cond := [Cond.fieldLink RX6 123 "GravimereModel" "lines" "I", Cond.methodLink RX6 59 yX6_isIn, Cond.static yX6_isIn, Cond.initialized RX6, Cond.code yX6_isIn cX6_isIn 6 (some .boolean), Cond.methodLink RX6 80 yX6_holds, Cond.instanceMethod yX6_holds, Cond.selects RX6 yX6_holds yX6_holds, Cond.code yX6_holds cX6_holds 2 (some .boolean), Cond.fieldLink RX6 54 "GravimereModel" "thrown" "I", Cond.methodLink RX6 143 yX6_conflicts, Cond.instanceMethod yX6_conflicts, Cond.selects RX6 yX6_conflicts yX6_conflicts, Cond.code yX6_conflicts cX6_conflicts 5 (some .boolean), Cond.fieldLink RX6 27 "GravimereModel" "from" "[I", Cond.fieldLink RX6 30 "GravimereModel" "to" "[I", Cond.fieldLink RX6 33 "GravimereModel" "higher" "[I", Cond.fieldLink RX6 42 "GravimereModel" "heights" "[I", Cond.fieldLink RX6 36 "GravimereModel" "unsure" "[I", Cond.fieldLink RX6 39 "GravimereModel" "doubts" "[I", Cond.methodLink RX6 137 yX6_findsAll, Cond.instanceMethod yX6_findsAll, Cond.selects RX6 yX6_findsAll yX6_findsAll, Cond.code yX6_findsAll cX6_findsAll 5 none]
def wsX6_isInConflict_r2 : List Cond := [Cond.methodLink RX6 133 yX6_next, Cond.instanceMethod yX6_next, Cond.selects RX6 yX6_next yX6_next, Cond.code yX6_next cX6_next 4 (some .int), Cond.methodLink RX6 129 yX6_finds, Cond.instanceMethod yX6_finds, Cond.selects RX6 yX6_finds yX6_finds, Cond.code yX6_finds cX6_finds 3 (some .int), Cond.methodLink RX6 126 yX6_isFound, Cond.instanceMethod yX6_isFound, Cond.selects RX6 yX6_isFound yX6_isFound, Cond.code yX6_isFound cX6_isFound 2 (some .boolean)]
def wsX6_isInConflict : List Cond := .code yX6_isInConflict cX6_isInConflict 2 (some .boolean) :: ((wsX6_isInConflict_r1 ++ wsX6_isInConflict_r2) ++ wsX60)
def wsX6_release : List Cond := .code yX6_release cX6_release 2 (some .int) :: ([.fieldLink RX6 69 "GravimereModel" "releases" "I", .fieldLink RX6 45 "GravimereModel" "kept" "[J", .fieldLink RX6 48 "GravimereModel" "made" "[I", .fieldLink RX6 51 "GravimereModel" "month" "I", .methodLink RX6 80 yX6_holds, .instanceMethod yX6_holds, .selects RX6 yX6_holds yX6_holds, .initialized RX6, .code yX6_holds cX6_holds 2 (some .boolean), .fieldLink RX6 54 "GravimereModel" "thrown" "I", .methodLink RX6 92 yX6_pullAt, .instanceMethod yX6_pullAt, .selects RX6 yX6_pullAt yX6_pullAt, .code yX6_pullAt cX6_pullAt 10 (some .long), .fieldLink RX6 7 "GravimereModel" "masses" "[J", .constantLong RX6 90 (1000000)] ++ wsX60)
def wsX6_down : List Cond := .code yX6_down cX6_down 6 (some .long) :: ([])
def wsX6_trend : List Cond := .code yX6_trend cX6_trend 9 (some .long) :: ([.fieldLink RX6 48 "GravimereModel" "made" "[I", .fieldLink RX6 45 "GravimereModel" "kept" "[J", .methodLink RX6 146 yX6_isRelease, .instanceMethod yX6_isRelease, .selects RX6 yX6_isRelease yX6_isRelease, .initialized RX6, .code yX6_isRelease cX6_isRelease 2 (some .boolean), .fieldLink RX6 69 "GravimereModel" "releases" "I", .methodLink RX6 59 yX6_isIn, .static yX6_isIn, .code yX6_isIn cX6_isIn 6 (some .boolean), .methodLink RX6 72 yX6_isCell, .static yX6_isCell, .code yX6_isCell cX6_isCell 2 (some .boolean), .constantLong RX6 57 (7), .methodLink RX6 80 yX6_holds, .instanceMethod yX6_holds, .selects RX6 yX6_holds yX6_holds, .code yX6_holds cX6_holds 2 (some .boolean), .fieldLink RX6 54 "GravimereModel" "thrown" "I", .methodLink RX6 149 yX6_down, .static yX6_down, .code yX6_down cX6_down 6 (some .long)] ++ wsX60)
def wsJ9_abs_0f7a4 : List Cond := .code yJ9_abs_0f7a4 cJ9_abs_0f7a4 1 (some .int) :: ([])
def wsL_mass_r1 : List Cond := [Cond.classLink RL 13 "java/lang/IndexOutOfBoundsException", Cond.classLink RL 15 "java/lang/IllegalArgumentException", Cond.methodLink RL 7 yX5_mass, Cond.instanceMethod yX5_mass, Cond.selects RX5 yX5_mass yX5_mass, Cond.initialized RX5, Cond.code yX5_mass cX5_mass 6 (some .long), Cond.constantLong RX5 55 (40000000000), Cond.fieldLink RX5 12 "Gravimere" "body" "LGravimere$Body;", Cond.methodLink RX5 48 yX5_requireCell, Cond.static yX5_requireCell, Cond.code yX5_requireCell cX5_requireCell 2 none, Cond.classLink RX5 185 "java/lang/IndexOutOfBoundsException", Cond.initialized "java/lang/IndexOutOfBoundsException", Cond.methodLink RX5 52 yX5_requireNumber, Cond.static yX5_requireNumber, Cond.code yX5_requireNumber cX5_requireNumber 2 none, Cond.methodLink RX5 57 yX5_requireRange, Cond.static yX5_requireRange, Cond.code yX5_requireRange cX5_requireRange 6 none, Cond.classLink RX5 132 "java/lang/IllegalArgumentException", Cond.initialized "java/lang/IllegalArgumentException", Cond.instanceMethod yX1_putMass, Cond.initialized RX1]
def wsL_mass_r2 : List Cond := [Cond.selects RX1 yX1_putMass yX1_putMass, Cond.code yX1_putMass cX1_putMass 9 (some .long), Cond.fieldLink RX1 9 "Gravimere$Body" "masses" "[J", Cond.static yX5_cellNumber, Cond.code yX5_cellNumber cX5_cellNumber 2 (some .int), Cond.methodLink RX1 25 yX1_changePulls, Cond.instanceMethod yX1_changePulls, Cond.selects RX1 yX1_changePulls yX1_changePulls, Cond.code yX1_changePulls cX1_changePulls 12 none, Cond.fieldLink RX1 18 "Gravimere$Body" "pulls" "[J", Cond.methodLink RX1 29 yX1_squareOf, Cond.static yX1_squareOf, Cond.code yX1_squareOf cX1_squareOf 3 (some .long), Cond.methodLink RX1 33 yX1_pullOf, Cond.static yX1_pullOf, Cond.code yX1_pullOf cX1_pullOf 4 (some .long), Cond.constantLong RX1 37 (1000000)]
def wsL_mass : List Cond := .codeWith yL_mass cL_mass 8 (some .int) [(0, 13, 16, 13), (0, 13, 20, 15)] :: ((wsL_mass_r1 ++ wsL_mass_r2) ++ wsX50 ++ wsX10 ++ (vx_atS RX5 189 "java/lang/IndexOutOfBoundsException" ["java/lang/RuntimeException", "java/lang/Exception"]).filter goodWord ++ (vx_atS RX5 136 "java/lang/IllegalArgumentException" ["java/lang/RuntimeException", "java/lang/Exception"]).filter goodWord)
def wsL_water_r1 : List Cond := [Cond.classLink RL 13 "java/lang/IndexOutOfBoundsException", Cond.classLink RL 15 "java/lang/IllegalArgumentException", Cond.methodLink RL 17 yX5_water, Cond.instanceMethod yX5_water, Cond.selects RX5 yX5_water yX5_water, Cond.initialized RX5, Cond.code yX5_water cX5_water 5 (some .long), Cond.constantLong RX5 65 (1000000000), Cond.fieldLink RX5 12 "Gravimere" "body" "LGravimere$Body;", Cond.methodLink RX5 48 yX5_requireCell, Cond.static yX5_requireCell, Cond.code yX5_requireCell cX5_requireCell 2 none, Cond.classLink RX5 185 "java/lang/IndexOutOfBoundsException", Cond.initialized "java/lang/IndexOutOfBoundsException", Cond.methodLink RX5 57 yX5_requireRange, Cond.static yX5_requireRange, Cond.code yX5_requireRange cX5_requireRange 6 none, Cond.classLink RX5 132 "java/lang/IllegalArgumentException", Cond.initialized "java/lang/IllegalArgumentException", Cond.instanceMethod yX1_putWater, Cond.initialized RX1, Cond.selects RX1 yX1_putWater yX1_putWater, Cond.code yX1_putWater cX1_putWater 8 (some .long), Cond.fieldLink RX1 15 "Gravimere$Body" "waters" "[J"]
def wsL_water_r2 : List Cond := [Cond.static yX5_cellNumber, Cond.code yX5_cellNumber cX5_cellNumber 2 (some .int), Cond.methodLink RX1 25 yX1_changePulls, Cond.instanceMethod yX1_changePulls, Cond.selects RX1 yX1_changePulls yX1_changePulls, Cond.code yX1_changePulls cX1_changePulls 12 none, Cond.fieldLink RX1 18 "Gravimere$Body" "pulls" "[J", Cond.methodLink RX1 29 yX1_squareOf, Cond.static yX1_squareOf, Cond.code yX1_squareOf cX1_squareOf 3 (some .long), Cond.methodLink RX1 33 yX1_pullOf, Cond.static yX1_pullOf, Cond.code yX1_pullOf cX1_pullOf 4 (some .long), Cond.constantLong RX1 37 (1000000)]
def wsL_water : List Cond := .codeWith yL_water cL_water 7 (some .int) [(0, 11, 14, 13), (0, 11, 18, 15)] :: ((wsL_water_r1 ++ wsL_water_r2) ++ wsX50 ++ wsX10 ++ (vx_atS RX5 189 "java/lang/IndexOutOfBoundsException" ["java/lang/RuntimeException", "java/lang/Exception"]).filter goodWord ++ (vx_atS RX5 136 "java/lang/IllegalArgumentException" ["java/lang/RuntimeException", "java/lang/Exception"]).filter goodWord)
def wsL_pull : List Cond := .codeWith yL_pull cL_pull 5 (some .int) [(0, 9, 12, 13)] :: ([.classLink RL 13 "java/lang/IndexOutOfBoundsException", .methodLink RL 21 yX5_pull, .instanceMethod yX5_pull, .selects RX5 yX5_pull yX5_pull, .initialized RX5, .code yX5_pull cX5_pull 3 (some .long), .fieldLink RX5 12 "Gravimere" "body" "LGravimere$Body;", .methodLink RX5 48 yX5_requireCell, .static yX5_requireCell, .code yX5_requireCell cX5_requireCell 2 none, .classLink RX5 185 "java/lang/IndexOutOfBoundsException", .initialized "java/lang/IndexOutOfBoundsException", .instanceMethod yX1_keptPull, .initialized RX1, .selects RX1 yX1_keptPull yX1_keptPull, .code yX1_keptPull cX1_keptPull 3 (some .long), .fieldLink RX1 18 "Gravimere$Body" "pulls" "[J", .static yX5_cellNumber, .code yX5_cellNumber cX5_cellNumber 2 (some .int)] ++ wsX50 ++ wsX10 ++ (vx_atS RX5 189 "java/lang/IndexOutOfBoundsException" ["java/lang/RuntimeException", "java/lang/Exception"]).filter goodWord)
def wsL_pullAnew_r1 : List Cond := [Cond.classLink RL 13 "java/lang/IndexOutOfBoundsException", Cond.methodLink RL 25 yX5_pullAnew, Cond.instanceMethod yX5_pullAnew, Cond.selects RX5 yX5_pullAnew yX5_pullAnew, Cond.initialized RX5, Cond.code yX5_pullAnew cX5_pullAnew 3 (some .long), Cond.fieldLink RX5 12 "Gravimere" "body" "LGravimere$Body;", Cond.methodLink RX5 48 yX5_requireCell, Cond.static yX5_requireCell, Cond.code yX5_requireCell cX5_requireCell 2 none, Cond.classLink RX5 185 "java/lang/IndexOutOfBoundsException", Cond.initialized "java/lang/IndexOutOfBoundsException", Cond.instanceMethod yX1_summedPull, Cond.initialized RX1, Cond.selects RX1 yX1_summedPull yX1_summedPull, Cond.code yX1_summedPull cX1_summedPull 9 (some .long), Cond.fieldLink RX1 15 "Gravimere$Body" "waters" "[J", Cond.fieldLink RX1 9 "Gravimere$Body" "masses" "[J", Cond.static yX5_cellNumber, Cond.code yX5_cellNumber cX5_cellNumber 2 (some .int), Cond.methodLink RX1 29 yX1_squareOf, Cond.static yX1_squareOf, Cond.code yX1_squareOf cX1_squareOf 3 (some .long), Cond.methodLink RX1 33 yX1_pullOf]
def wsL_pullAnew_r2 : List Cond := [Cond.static yX1_pullOf, Cond.code yX1_pullOf cX1_pullOf 4 (some .long), Cond.constantLong RX1 37 (1000000)]
def wsL_pullAnew : List Cond := .codeWith yL_pullAnew cL_pullAnew 5 (some .int) [(0, 9, 12, 13)] :: ((wsL_pullAnew_r1 ++ wsL_pullAnew_r2) ++ wsX50 ++ wsX10 ++ (vx_atS RX5 189 "java/lang/IndexOutOfBoundsException" ["java/lang/RuntimeException", "java/lang/Exception"]).filter goodWord)
def wsL_gap : List Cond := .codeWith yL_gap cL_gap 5 (some .int) [(0, 9, 12, 13)] :: ([.classLink RL 13 "java/lang/IndexOutOfBoundsException", .methodLink RL 28 yX5_gap, .instanceMethod yX5_gap, .selects RX5 yX5_gap yX5_gap, .initialized RX5, .code yX5_gap cX5_gap 3 (some .long), .fieldLink RX5 12 "Gravimere" "body" "LGravimere$Body;", .methodLink RX5 48 yX5_requireCell, .static yX5_requireCell, .code yX5_requireCell cX5_requireCell 2 none, .classLink RX5 185 "java/lang/IndexOutOfBoundsException", .initialized "java/lang/IndexOutOfBoundsException", .methodLink RX5 52 yX5_requireNumber, .static yX5_requireNumber, .code yX5_requireNumber cX5_requireNumber 2 none, .instanceMethod yX1_keptPull, .initialized RX1, .selects RX1 yX1_keptPull yX1_keptPull, .code yX1_keptPull cX1_keptPull 3 (some .long), .fieldLink RX1 18 "Gravimere$Body" "pulls" "[J", .static yX5_cellNumber, .code yX5_cellNumber cX5_cellNumber 2 (some .int)] ++ wsX50 ++ wsX10 ++ (vx_atS RX5 189 "java/lang/IndexOutOfBoundsException" ["java/lang/RuntimeException", "java/lang/Exception"]).filter goodWord)
def wsL_tide : List Cond := .codeWith yL_tide cL_tide 5 (some .int) [(0, 10, 13, 15)] :: ([.classLink RL 15 "java/lang/IllegalArgumentException", .methodLink RL 31 yX5_tide, .instanceMethod yX5_tide, .selects RX5 yX5_tide yX5_tide, .initialized RX5, .code yX5_tide cX5_tide 3 (some .int), .constantLong RX5 78 (1000000), .constantLong RX5 80 (60), .fieldLink RX5 19 "Gravimere" "moon" "LGravimere$Moon;", .methodLink RX5 57 yX5_requireRange, .static yX5_requireRange, .code yX5_requireRange cX5_requireRange 6 none, .classLink RX5 132 "java/lang/IllegalArgumentException", .initialized "java/lang/IllegalArgumentException", .instanceMethod yX2_put, .initialized RX2, .selects RX2 yX2_put yX2_put, .code yX2_put cX2_put 4 (some .int), .fieldLink RX2 7 "Gravimere$Moon" "strength" "I", .fieldLink RX2 13 "Gravimere$Moon" "period" "I"] ++ wsX50 ++ wsX20 ++ (vx_atS RX5 136 "java/lang/IllegalArgumentException" ["java/lang/RuntimeException", "java/lang/Exception"]).filter goodWord)
def wsL_pass : List Cond := .codeWith yL_pass cL_pass 4 (some .int) [(0, 9, 12, 15), (0, 9, 15, 39)] :: ([.classLink RL 15 "java/lang/IllegalArgumentException", .classLink RL 39 "java/lang/IllegalStateException", .methodLink RL 35 yX5_pass, .instanceMethod yX5_pass, .selects RX5 yX5_pass yX5_pass, .initialized RX5, .code yX5_pass cX5_pass 2 (some .int), .classLink RX5 88 "java/lang/IllegalStateException", .initialized "java/lang/IllegalStateException", .constantLong RX5 86 (120), .fieldLink RX5 44 "Gravimere" "month" "I", .methodLink RX5 57 yX5_requireRange, .static yX5_requireRange, .code yX5_requireRange cX5_requireRange 6 none, .classLink RX5 132 "java/lang/IllegalArgumentException", .initialized "java/lang/IllegalArgumentException"] ++ wsX50 ++ (vx_atS RX5 92 "java/lang/IllegalStateException" ["java/lang/RuntimeException", "java/lang/Exception"]).filter goodWord ++ (vx_atS RX5 136 "java/lang/IllegalArgumentException" ["java/lang/RuntimeException", "java/lang/Exception"]).filter goodWord)
def wsL_needle_r1 : List Cond := [Cond.classLink RL 15 "java/lang/IllegalArgumentException", Cond.classLink RL 39 "java/lang/IllegalStateException", Cond.methodLink RL 41 yX5_needle, Cond.instanceMethod yX5_needle, Cond.selects RX5 yX5_needle yX5_needle, Cond.initialized RX5, Cond.code yX5_needle cX5_needle 3 (some .int), Cond.constantLong RX5 95 (-1000), Cond.constantLong RX5 97 (1000), Cond.fieldLink RX5 26 "Gravimere" "needles" "LGravimere$Needles;", Cond.fieldLink RX5 44 "Gravimere" "month" "I", Cond.methodLink RX5 57 yX5_requireRange, Cond.static yX5_requireRange, Cond.code yX5_requireRange cX5_requireRange 6 none, Cond.classLink RX5 132 "java/lang/IllegalArgumentException", Cond.initialized "java/lang/IllegalArgumentException", Cond.methodLink RX5 102 yX5_requireRoom, Cond.static yX5_requireRoom, Cond.code yX5_requireRoom cX5_requireRoom 2 none, Cond.classLink RX5 88 "java/lang/IllegalStateException", Cond.initialized "java/lang/IllegalStateException", Cond.instanceMethod yX3_add, Cond.initialized RX3, Cond.selects RX3 yX3_add yX3_add]
def wsL_needle_r2 : List Cond := [Cond.code yX3_add cX3_add 4 (some .int), Cond.fieldLink RX3 9 "Gravimere$Needles" "kinds" "[I", Cond.fieldLink RX3 21 "Gravimere$Needles" "count" "I", Cond.fieldLink RX3 15 "Gravimere$Needles" "offs" "[I", Cond.fieldLink RX3 18 "Gravimere$Needles" "tiedMonths" "[I"]
def wsL_needle : List Cond := .codeWith yL_needle cL_needle 5 (some .int) [(0, 10, 13, 15), (0, 10, 17, 39)] :: ((wsL_needle_r1 ++ wsL_needle_r2) ++ wsX50 ++ wsX30 ++ (vx_atS RX5 136 "java/lang/IllegalArgumentException" ["java/lang/RuntimeException", "java/lang/Exception"]).filter goodWord ++ (vx_atS RX5 92 "java/lang/IllegalStateException" ["java/lang/RuntimeException", "java/lang/Exception"]).filter goodWord)
def wsL_tie : List Cond := .codeWith yL_tie cL_tie 4 (some .int) [(0, 8, 11, 13), (0, 8, 14, 39)] :: ([.classLink RL 13 "java/lang/IndexOutOfBoundsException", .classLink RL 39 "java/lang/IllegalStateException", .methodLink RL 44 yX5_tie, .instanceMethod yX5_tie, .selects RX5 yX5_tie yX5_tie, .initialized RX5, .code yX5_tie cX5_tie 4 (some .long), .classLink RX5 88 "java/lang/IllegalStateException", .initialized "java/lang/IllegalStateException", .fieldLink RX5 26 "Gravimere" "needles" "LGravimere$Needles;", .fieldLink RX5 44 "Gravimere" "month" "I", .methodLink RX5 52 yX5_requireNumber, .static yX5_requireNumber, .code yX5_requireNumber cX5_requireNumber 2 none, .classLink RX5 185 "java/lang/IndexOutOfBoundsException", .initialized "java/lang/IndexOutOfBoundsException", .instanceMethod yX3_offIn, .initialized RX3, .selects RX3 yX3_offIn yX3_offIn, .code yX3_offIn cX3_offIn 3 (some .long), .fieldLink RX3 9 "Gravimere$Needles" "kinds" "[I", .fieldLink RX3 15 "Gravimere$Needles" "offs" "[I", .fieldLink RX3 18 "Gravimere$Needles" "tiedMonths" "[I"] ++ wsX50 ++ wsX30 ++ (vx_atS RX5 92 "java/lang/IllegalStateException" ["java/lang/RuntimeException", "java/lang/Exception"]).filter goodWord ++ (vx_atS RX5 189 "java/lang/IndexOutOfBoundsException" ["java/lang/RuntimeException", "java/lang/Exception"]).filter goodWord)
def wsL_read_r1 : List Cond := [Cond.classLink RL 13 "java/lang/IndexOutOfBoundsException", Cond.methodLink RL 48 yX5_read, Cond.instanceMethod yX5_read, Cond.selects RX5 yX5_read yX5_read, Cond.initialized RX5, Cond.code yX5_read cX5_read 4 (some .long), Cond.fieldLink RX5 26 "Gravimere" "needles" "LGravimere$Needles;", Cond.fieldLink RX5 12 "Gravimere" "body" "LGravimere$Body;", Cond.fieldLink RX5 19 "Gravimere" "moon" "LGravimere$Moon;", Cond.fieldLink RX5 44 "Gravimere" "month" "I", Cond.methodLink RX5 52 yX5_requireNumber, Cond.static yX5_requireNumber, Cond.code yX5_requireNumber cX5_requireNumber 2 none, Cond.classLink RX5 185 "java/lang/IndexOutOfBoundsException", Cond.initialized "java/lang/IndexOutOfBoundsException", Cond.methodLink RX5 48 yX5_requireCell, Cond.static yX5_requireCell, Cond.code yX5_requireCell cX5_requireCell 2 none, Cond.instanceMethod yX1_keptPull, Cond.initialized RX1, Cond.selects RX1 yX1_keptPull yX1_keptPull, Cond.code yX1_keptPull cX1_keptPull 3 (some .long), Cond.fieldLink RX1 18 "Gravimere$Body" "pulls" "[J", Cond.static yX5_cellNumber]
def wsL_read_r2 : List Cond := [Cond.code yX5_cellNumber cX5_cellNumber 2 (some .int), Cond.instanceMethod yX2_tideIn, Cond.initialized RX2, Cond.selects RX2 yX2_tideIn yX2_tideIn, Cond.code yX2_tideIn cX2_tideIn 3 (some .long), Cond.fieldLink RX2 13 "Gravimere$Moon" "period" "I", Cond.fieldLink RX2 7 "Gravimere$Moon" "strength" "I", Cond.instanceMethod yX3_offIn, Cond.initialized RX3, Cond.selects RX3 yX3_offIn yX3_offIn, Cond.code yX3_offIn cX3_offIn 3 (some .long), Cond.fieldLink RX3 9 "Gravimere$Needles" "kinds" "[I", Cond.fieldLink RX3 15 "Gravimere$Needles" "offs" "[I", Cond.fieldLink RX3 18 "Gravimere$Needles" "tiedMonths" "[I"]
def wsL_read : List Cond := .codeWith yL_read cL_read 6 (some .int) [(0, 11, 14, 13)] :: ((wsL_read_r1 ++ wsL_read_r2) ++ wsX50 ++ wsX30 ++ wsX10 ++ wsX20 ++ (vx_atS RX5 189 "java/lang/IndexOutOfBoundsException" ["java/lang/RuntimeException", "java/lang/Exception"]).filter goodWord)
def wsL_benchmark : List Cond := .codeWith yL_benchmark cL_benchmark 3 (some .int) [(0, 8, 11, 39)] :: ([.classLink RL 39 "java/lang/IllegalStateException", .methodLink RL 52 yX5_benchmark, .instanceMethod yX5_benchmark, .selects RX5 yX5_benchmark yX5_benchmark, .initialized RX5, .code yX5_benchmark cX5_benchmark 1 (some .int), .fieldLink RX5 33 "Gravimere" "survey" "LGravimere$Survey;", .methodLink RX5 102 yX5_requireRoom, .static yX5_requireRoom, .code yX5_requireRoom cX5_requireRoom 2 none, .classLink RX5 88 "java/lang/IllegalStateException", .initialized "java/lang/IllegalStateException", .instanceMethod yX4_addBenchmark, .initialized RX4, .selects RX4 yX4_addBenchmark yX4_addBenchmark, .code yX4_addBenchmark cX4_addBenchmark 1 (some .int), .fieldLink RX4 33 "Gravimere$Survey" "benchmarks" "I"] ++ wsX50 ++ wsX40 ++ (vx_atS RX5 92 "java/lang/IllegalStateException" ["java/lang/RuntimeException", "java/lang/Exception"]).filter goodWord)
def wsL_line_r1 : List Cond := [Cond.classLink RL 13 "java/lang/IndexOutOfBoundsException", Cond.classLink RL 15 "java/lang/IllegalArgumentException", Cond.classLink RL 39 "java/lang/IllegalStateException", Cond.methodLink RL 56 yX5_line, Cond.instanceMethod yX5_line, Cond.selects RX5 yX5_line yX5_line, Cond.initialized RX5, Cond.code yX5_line cX5_line 5 (some .int), Cond.classLink RX5 132 "java/lang/IllegalArgumentException", Cond.initialized "java/lang/IllegalArgumentException", Cond.fieldLink RX5 33 "Gravimere" "survey" "LGravimere$Survey;", Cond.constantLong RX5 137 (-1000000), Cond.constantLong RX5 78 (1000000), Cond.constantLong RX5 97 (1000), Cond.methodLink RX5 52 yX5_requireNumber, Cond.static yX5_requireNumber, Cond.code yX5_requireNumber cX5_requireNumber 2 none, Cond.classLink RX5 185 "java/lang/IndexOutOfBoundsException", Cond.initialized "java/lang/IndexOutOfBoundsException", Cond.methodLink RX5 57 yX5_requireRange, Cond.static yX5_requireRange, Cond.code yX5_requireRange cX5_requireRange 6 none, Cond.methodLink RX5 102 yX5_requireRoom, Cond.static yX5_requireRoom]
def wsL_line_r2 : List Cond := [Cond.code yX5_requireRoom cX5_requireRoom 2 none, Cond.classLink RX5 88 "java/lang/IllegalStateException", Cond.initialized "java/lang/IllegalStateException", Cond.instanceMethod yX4_addLine, Cond.initialized RX4, Cond.selects RX4 yX4_addLine yX4_addLine, Cond.code yX4_addLine cX4_addLine 5 (some .int), Cond.fieldLink RX4 9 "Gravimere$Survey" "starts" "[I", Cond.fieldLink RX4 37 "Gravimere$Survey" "lines" "I", Cond.fieldLink RX4 15 "Gravimere$Survey" "ends" "[I", Cond.fieldLink RX4 18 "Gravimere$Survey" "rises" "[I", Cond.fieldLink RX4 21 "Gravimere$Survey" "lineDoubts" "[I"]
def wsL_line : List Cond := .codeWith yL_line cL_line 7 (some .int) [(0, 14, 17, 13), (0, 14, 21, 15), (0, 14, 25, 39)] :: ((wsL_line_r1 ++ wsL_line_r2) ++ wsX50 ++ wsX40 ++ (vx_atS RX5 136 "java/lang/IllegalArgumentException" ["java/lang/RuntimeException", "java/lang/Exception"]).filter goodWord ++ (vx_atS RX5 189 "java/lang/IndexOutOfBoundsException" ["java/lang/RuntimeException", "java/lang/Exception"]).filter goodWord ++ (vx_atS RX5 92 "java/lang/IllegalStateException" ["java/lang/RuntimeException", "java/lang/Exception"]).filter goodWord)
def wsL_height_r1 : List Cond := [Cond.classLink RL 13 "java/lang/IndexOutOfBoundsException", Cond.classLink RL 39 "java/lang/IllegalStateException", Cond.methodLink RL 60 yX5_height, Cond.instanceMethod yX5_height, Cond.selects RX5 yX5_height yX5_height, Cond.initialized RX5, Cond.code yX5_height cX5_height 2 (some .int), Cond.classLink RX5 88 "java/lang/IllegalStateException", Cond.initialized "java/lang/IllegalStateException", Cond.fieldLink RX5 33 "Gravimere" "survey" "LGravimere$Survey;", Cond.methodLink RX5 52 yX5_requireNumber, Cond.static yX5_requireNumber, Cond.code yX5_requireNumber cX5_requireNumber 2 none, Cond.classLink RX5 185 "java/lang/IndexOutOfBoundsException", Cond.initialized "java/lang/IndexOutOfBoundsException", Cond.instanceMethod yX4_findHeights, Cond.initialized RX4, Cond.selects RX4 yX4_findHeights yX4_findHeights, Cond.code yX4_findHeights cX4_findHeights 3 none, Cond.fieldLink RX4 27 "Gravimere$Survey" "doubts" "[I", Cond.fieldLink RX4 24 "Gravimere$Survey" "heights" "[I", Cond.fieldLink RX4 33 "Gravimere$Survey" "benchmarks" "I", Cond.methodLink RX4 40 yX4_knowOnlyFirst, Cond.static yX4_knowOnlyFirst]
def wsL_height_r2 : List Cond := [Cond.code yX4_knowOnlyFirst cX4_knowOnlyFirst 2 none, Cond.methodLink RX4 44 yX4_surestLine, Cond.instanceMethod yX4_surestLine, Cond.selects RX4 yX4_surestLine yX4_surestLine, Cond.code yX4_surestLine cX4_surestLine 5 (some .int), Cond.fieldLink RX4 37 "Gravimere$Survey" "lines" "I", Cond.methodLink RX4 52 yX4_doubtBeyond, Cond.instanceMethod yX4_doubtBeyond, Cond.selects RX4 yX4_doubtBeyond yX4_doubtBeyond, Cond.code yX4_doubtBeyond cX4_doubtBeyond 4 (some .int), Cond.fieldLink RX4 9 "Gravimere$Survey" "starts" "[I", Cond.fieldLink RX4 15 "Gravimere$Survey" "ends" "[I", Cond.fieldLink RX4 21 "Gravimere$Survey" "lineDoubts" "[I", Cond.methodLink RX4 48 yX4_goAlong, Cond.instanceMethod yX4_goAlong, Cond.selects RX4 yX4_goAlong yX4_goAlong, Cond.code yX4_goAlong cX4_goAlong 4 none, Cond.fieldLink RX4 18 "Gravimere$Survey" "rises" "[I"]
def wsL_height : List Cond := .codeWith yL_height cL_height 4 (some .int) [(0, 9, 12, 13), (0, 9, 15, 39)] :: ((wsL_height_r1 ++ wsL_height_r2) ++ wsX50 ++ wsX40 ++ (vx_atS RX5 92 "java/lang/IllegalStateException" ["java/lang/RuntimeException", "java/lang/Exception"]).filter goodWord ++ (vx_atS RX5 189 "java/lang/IndexOutOfBoundsException" ["java/lang/RuntimeException", "java/lang/Exception"]).filter goodWord)
def wsL_doubt_r1 : List Cond := [Cond.classLink RL 13 "java/lang/IndexOutOfBoundsException", Cond.methodLink RL 63 yX5_doubt, Cond.instanceMethod yX5_doubt, Cond.selects RX5 yX5_doubt yX5_doubt, Cond.initialized RX5, Cond.code yX5_doubt cX5_doubt 2 (some .int), Cond.fieldLink RX5 33 "Gravimere" "survey" "LGravimere$Survey;", Cond.methodLink RX5 52 yX5_requireNumber, Cond.static yX5_requireNumber, Cond.code yX5_requireNumber cX5_requireNumber 2 none, Cond.classLink RX5 185 "java/lang/IndexOutOfBoundsException", Cond.initialized "java/lang/IndexOutOfBoundsException", Cond.instanceMethod yX4_findHeights, Cond.initialized RX4, Cond.selects RX4 yX4_findHeights yX4_findHeights, Cond.code yX4_findHeights cX4_findHeights 3 none, Cond.fieldLink RX4 27 "Gravimere$Survey" "doubts" "[I", Cond.fieldLink RX4 24 "Gravimere$Survey" "heights" "[I", Cond.fieldLink RX4 33 "Gravimere$Survey" "benchmarks" "I", Cond.methodLink RX4 40 yX4_knowOnlyFirst, Cond.static yX4_knowOnlyFirst, Cond.code yX4_knowOnlyFirst cX4_knowOnlyFirst 2 none, Cond.methodLink RX4 44 yX4_surestLine, Cond.instanceMethod yX4_surestLine]
def wsL_doubt_r2 : List Cond := [Cond.selects RX4 yX4_surestLine yX4_surestLine, Cond.code yX4_surestLine cX4_surestLine 5 (some .int), Cond.fieldLink RX4 37 "Gravimere$Survey" "lines" "I", Cond.methodLink RX4 52 yX4_doubtBeyond, Cond.instanceMethod yX4_doubtBeyond, Cond.selects RX4 yX4_doubtBeyond yX4_doubtBeyond, Cond.code yX4_doubtBeyond cX4_doubtBeyond 4 (some .int), Cond.fieldLink RX4 9 "Gravimere$Survey" "starts" "[I", Cond.fieldLink RX4 15 "Gravimere$Survey" "ends" "[I", Cond.fieldLink RX4 21 "Gravimere$Survey" "lineDoubts" "[I", Cond.methodLink RX4 48 yX4_goAlong, Cond.instanceMethod yX4_goAlong, Cond.selects RX4 yX4_goAlong yX4_goAlong, Cond.code yX4_goAlong cX4_goAlong 4 none, Cond.fieldLink RX4 18 "Gravimere$Survey" "rises" "[I"]
def wsL_doubt : List Cond := .codeWith yL_doubt cL_doubt 4 (some .int) [(0, 9, 12, 13)] :: ((wsL_doubt_r1 ++ wsL_doubt_r2) ++ wsX50 ++ wsX40 ++ (vx_atS RX5 189 "java/lang/IndexOutOfBoundsException" ["java/lang/RuntimeException", "java/lang/Exception"]).filter goodWord)
def wsL_doubtAnew_r1 : List Cond := [Cond.classLink RL 13 "java/lang/IndexOutOfBoundsException", Cond.methodLink RL 66 yX5_doubtAnew, Cond.instanceMethod yX5_doubtAnew, Cond.selects RX5 yX5_doubtAnew yX5_doubtAnew, Cond.initialized RX5, Cond.code yX5_doubtAnew cX5_doubtAnew 2 (some .int), Cond.fieldLink RX5 33 "Gravimere" "survey" "LGravimere$Survey;", Cond.methodLink RX5 52 yX5_requireNumber, Cond.static yX5_requireNumber, Cond.code yX5_requireNumber cX5_requireNumber 2 none, Cond.classLink RX5 185 "java/lang/IndexOutOfBoundsException", Cond.initialized "java/lang/IndexOutOfBoundsException", Cond.instanceMethod yX4_tryAllLines, Cond.initialized RX4, Cond.selects RX4 yX4_tryAllLines yX4_tryAllLines, Cond.code yX4_tryAllLines cX4_tryAllLines 3 none, Cond.fieldLink RX4 30 "Gravimere$Survey" "triedDoubts" "[I", Cond.fieldLink RX4 33 "Gravimere$Survey" "benchmarks" "I", Cond.methodLink RX4 40 yX4_knowOnlyFirst, Cond.static yX4_knowOnlyFirst, Cond.code yX4_knowOnlyFirst cX4_knowOnlyFirst 2 none, Cond.methodLink RX4 61 yX4_tryEachLine, Cond.instanceMethod yX4_tryEachLine, Cond.selects RX4 yX4_tryEachLine yX4_tryEachLine]
def wsL_doubtAnew_r2 : List Cond := [Cond.code yX4_tryEachLine cX4_tryEachLine 3 (some .boolean), Cond.fieldLink RX4 37 "Gravimere$Survey" "lines" "I", Cond.fieldLink RX4 9 "Gravimere$Survey" "starts" "[I", Cond.fieldLink RX4 15 "Gravimere$Survey" "ends" "[I", Cond.fieldLink RX4 21 "Gravimere$Survey" "lineDoubts" "[I", Cond.methodLink RX4 65 yX4_makesLess, Cond.instanceMethod yX4_makesLess, Cond.selects RX4 yX4_makesLess yX4_makesLess, Cond.code yX4_makesLess cX4_makesLess 5 (some .boolean)]
def wsL_doubtAnew : List Cond := .codeWith yL_doubtAnew cL_doubtAnew 4 (some .int) [(0, 9, 12, 13)] :: ((wsL_doubtAnew_r1 ++ wsL_doubtAnew_r2) ++ wsX50 ++ wsX40 ++ (vx_atS RX5 189 "java/lang/IndexOutOfBoundsException" ["java/lang/RuntimeException", "java/lang/Exception"]).filter goodWord)
def wsL_isInConflict_r1 : List Cond := [Cond.classLink RL 13 "java/lang/IndexOutOfBoundsException", Cond.methodLink RL 69 yX5_isInConflict, Cond.instanceMethod yX5_isInConflict, Cond.selects RX5 yX5_isInConflict yX5_isInConflict, Cond.initialized RX5, Cond.code yX5_isInConflict cX5_isInConflict 2 (some .boolean), Cond.fieldLink RX5 33 "Gravimere" "survey" "LGravimere$Survey;", Cond.methodLink RX5 52 yX5_requireNumber, Cond.static yX5_requireNumber, Cond.code yX5_requireNumber cX5_requireNumber 2 none, Cond.classLink RX5 185 "java/lang/IndexOutOfBoundsException", Cond.initialized "java/lang/IndexOutOfBoundsException", Cond.instanceMethod yX4_findHeights, Cond.initialized RX4, Cond.selects RX4 yX4_findHeights yX4_findHeights, Cond.code yX4_findHeights cX4_findHeights 3 none, Cond.fieldLink RX4 27 "Gravimere$Survey" "doubts" "[I", Cond.fieldLink RX4 24 "Gravimere$Survey" "heights" "[I", Cond.fieldLink RX4 33 "Gravimere$Survey" "benchmarks" "I", Cond.methodLink RX4 40 yX4_knowOnlyFirst, Cond.static yX4_knowOnlyFirst, Cond.code yX4_knowOnlyFirst cX4_knowOnlyFirst 2 none, Cond.methodLink RX4 44 yX4_surestLine, Cond.instanceMethod yX4_surestLine]
def wsL_isInConflict_r2 : List Cond := [Cond.selects RX4 yX4_surestLine yX4_surestLine, Cond.code yX4_surestLine cX4_surestLine 5 (some .int), Cond.fieldLink RX4 37 "Gravimere$Survey" "lines" "I", Cond.methodLink RX4 52 yX4_doubtBeyond, Cond.instanceMethod yX4_doubtBeyond, Cond.selects RX4 yX4_doubtBeyond yX4_doubtBeyond, Cond.code yX4_doubtBeyond cX4_doubtBeyond 4 (some .int), Cond.fieldLink RX4 9 "Gravimere$Survey" "starts" "[I", Cond.fieldLink RX4 15 "Gravimere$Survey" "ends" "[I", Cond.fieldLink RX4 21 "Gravimere$Survey" "lineDoubts" "[I", Cond.methodLink RX4 48 yX4_goAlong, Cond.instanceMethod yX4_goAlong, Cond.selects RX4 yX4_goAlong yX4_goAlong, Cond.code yX4_goAlong cX4_goAlong 4 none, Cond.fieldLink RX4 18 "Gravimere$Survey" "rises" "[I", Cond.instanceMethod yX4_contradicts, Cond.selects RX4 yX4_contradicts yX4_contradicts, Cond.code yX4_contradicts cX4_contradicts 5 (some .boolean), Cond.methodLink RX4 56 Lib.Math.abs.name, Cond.static Lib.Math.abs.name, Cond.initialized "java/lang/Math", Cond.code Lib.Math.abs.name Lib.Math.abs.code 1 (some .int)]
def wsL_isInConflict : List Cond := .codeWith yL_isInConflict cL_isInConflict 4 (some .int) [(0, 16, 19, 13)] :: ((wsL_isInConflict_r1 ++ wsL_isInConflict_r2) ++ wsX50 ++ wsX40 ++ (vx_atS RX5 189 "java/lang/IndexOutOfBoundsException" ["java/lang/RuntimeException", "java/lang/Exception"]).filter goodWord)
def wsL_release_r1 : List Cond := [Cond.classLink RL 39 "java/lang/IllegalStateException", Cond.methodLink RL 73 yX5_release, Cond.instanceMethod yX5_release, Cond.selects RX5 yX5_release yX5_release, Cond.initialized RX5, Cond.code yX5_release cX5_release 1 (some .int), Cond.fieldLink RX5 40 "Gravimere" "archive" "LGravimere$Archive;", Cond.fieldLink RX5 12 "Gravimere" "body" "LGravimere$Body;", Cond.fieldLink RX5 44 "Gravimere" "month" "I", Cond.methodLink RX5 102 yX5_requireRoom, Cond.static yX5_requireRoom, Cond.code yX5_requireRoom cX5_requireRoom 2 none, Cond.classLink RX5 88 "java/lang/IllegalStateException", Cond.initialized "java/lang/IllegalStateException", Cond.instanceMethod yX0_keep, Cond.initialized RX0, Cond.selects RX0 yX0_keep yX0_keep, Cond.code yX0_keep cX0_keep 3 (some .int), Cond.fieldLink RX0 9 "Gravimere$Archive" "pulls" "[J", Cond.fieldLink RX0 19 "Gravimere$Archive" "count" "I", Cond.methodLink RX0 23 arraycopyName, Cond.native arraycopyName, Cond.static arraycopyName, Cond.initialized "java/lang/System"]
def wsL_release_r2 : List Cond := [Cond.fieldLink RX0 15 "Gravimere$Archive" "months" "[I"]
def wsL_release : List Cond := .codeWith yL_release cL_release 3 (some .int) [(0, 8, 11, 39)] :: ((wsL_release_r1 ++ wsL_release_r2) ++ wsX50 ++ wsX00 ++ wsX10 ++ (vx_atS RX5 92 "java/lang/IllegalStateException" ["java/lang/RuntimeException", "java/lang/Exception"]).filter goodWord)
def wsL_trend_r1 : List Cond := [Cond.classLink RL 13 "java/lang/IndexOutOfBoundsException", Cond.classLink RL 39 "java/lang/IllegalStateException", Cond.methodLink RL 76 yX5_trend, Cond.instanceMethod yX5_trend, Cond.selects RX5 yX5_trend yX5_trend, Cond.initialized RX5, Cond.code yX5_trend cX5_trend 6 (some .long), Cond.classLink RX5 88 "java/lang/IllegalStateException", Cond.initialized "java/lang/IllegalStateException", Cond.fieldLink RX5 40 "Gravimere" "archive" "LGravimere$Archive;", Cond.methodLink RX5 52 yX5_requireNumber, Cond.static yX5_requireNumber, Cond.code yX5_requireNumber cX5_requireNumber 2 none, Cond.classLink RX5 185 "java/lang/IndexOutOfBoundsException", Cond.initialized "java/lang/IndexOutOfBoundsException", Cond.methodLink RX5 48 yX5_requireCell, Cond.static yX5_requireCell, Cond.code yX5_requireCell cX5_requireCell 2 none, Cond.instanceMethod yX0_trendFrom, Cond.initialized RX0, Cond.selects RX0 yX0_trendFrom yX0_trendFrom, Cond.code yX0_trendFrom cX0_trendFrom 9 (some .long), Cond.fieldLink RX0 15 "Gravimere$Archive" "months" "[I", Cond.fieldLink RX0 9 "Gravimere$Archive" "pulls" "[J"]
def wsL_trend_r2 : List Cond := [Cond.static yX5_cellNumber, Cond.code yX5_cellNumber cX5_cellNumber 2 (some .int), Cond.methodLink RX0 33 yJ9_floorDiv_f86c9, Cond.static yJ9_floorDiv_f86c9, Cond.initialized RJ9, Cond.code yJ9_floorDiv_f86c9 cJ9_floorDiv_f86c9 6 (some .long)]
def wsL_trend : List Cond := .codeWith yL_trend cL_trend 7 (some .int) [(0, 13, 16, 13), (0, 13, 20, 39)] :: ((wsL_trend_r1 ++ wsL_trend_r2) ++ wsX50 ++ wsX00 ++ (vx_atS RX5 92 "java/lang/IllegalStateException" ["java/lang/RuntimeException", "java/lang/Exception"]).filter goodWord ++ (vx_atS RX5 189 "java/lang/IndexOutOfBoundsException" ["java/lang/RuntimeException", "java/lang/Exception"]).filter goodWord)
def wsL_law0_r1 : List Cond := [Cond.classLink RL 8 RX5, Cond.instantiable RX5 6, Cond.initialized RX5, Cond.classLink RL 81 RX6, Cond.instantiable RX6 20, Cond.initialized RX6, Cond.arrayClass .long, Cond.constantLong RL 84 (4294967295), Cond.methodLink RL 80 yX5_init, Cond.instanceMethod yX5_init, Cond.code yX5_init cX5_init 1 none, Cond.methodLink RX5 3 objectInit, Cond.instanceMethod objectInit, Cond.code objectInit ⟨#[0xb1]⟩ 1 none, Cond.classLink RX5 9 RX1, Cond.instantiable RX1 3, Cond.initialized RX1, Cond.fieldLink RX5 12 "Gravimere" "body" "LGravimere$Body;", Cond.classLink RX5 16 RX2, Cond.instantiable RX2 2, Cond.initialized RX2, Cond.fieldLink RX5 19 "Gravimere" "moon" "LGravimere$Moon;", Cond.classLink RX5 23 RX3, Cond.instantiable RX3 4]
def wsL_law0_r2 : List Cond := [Cond.initialized RX3, Cond.fieldLink RX5 26 "Gravimere" "needles" "LGravimere$Needles;", Cond.classLink RX5 30 RX4, Cond.instantiable RX4 9, Cond.initialized RX4, Cond.fieldLink RX5 33 "Gravimere" "survey" "LGravimere$Survey;", Cond.classLink RX5 37 RX0, Cond.instantiable RX0 3, Cond.initialized RX0, Cond.fieldLink RX5 40 "Gravimere" "archive" "LGravimere$Archive;", Cond.fieldLink RX5 44 "Gravimere" "month" "I", Cond.instanceMethod yX1_init, Cond.code yX1_init cX1_init 1 none, Cond.methodLink RX1 3 objectInit, Cond.fieldLink RX1 9 "Gravimere$Body" "masses" "[J", Cond.fieldLink RX1 15 "Gravimere$Body" "waters" "[J", Cond.fieldLink RX1 18 "Gravimere$Body" "pulls" "[J", Cond.instanceMethod yX2_init, Cond.code yX2_init cX2_init 1 none, Cond.methodLink RX2 1 objectInit, Cond.fieldLink RX2 7 "Gravimere$Moon" "strength" "I", Cond.fieldLink RX2 13 "Gravimere$Moon" "period" "I", Cond.instanceMethod yX3_init, Cond.code yX3_init cX3_init 1 none]
def wsL_law0_r3 : List Cond := [Cond.methodLink RX3 3 objectInit, Cond.arrayClass .int, Cond.fieldLink RX3 9 "Gravimere$Needles" "kinds" "[I", Cond.fieldLink RX3 15 "Gravimere$Needles" "offs" "[I", Cond.fieldLink RX3 18 "Gravimere$Needles" "tiedMonths" "[I", Cond.fieldLink RX3 21 "Gravimere$Needles" "count" "I", Cond.instanceMethod yX4_init, Cond.code yX4_init cX4_init 1 none, Cond.methodLink RX4 3 objectInit, Cond.fieldLink RX4 9 "Gravimere$Survey" "starts" "[I", Cond.fieldLink RX4 15 "Gravimere$Survey" "ends" "[I", Cond.fieldLink RX4 18 "Gravimere$Survey" "rises" "[I", Cond.fieldLink RX4 21 "Gravimere$Survey" "lineDoubts" "[I", Cond.fieldLink RX4 24 "Gravimere$Survey" "heights" "[I", Cond.fieldLink RX4 27 "Gravimere$Survey" "doubts" "[I", Cond.fieldLink RX4 30 "Gravimere$Survey" "triedDoubts" "[I", Cond.fieldLink RX4 33 "Gravimere$Survey" "benchmarks" "I", Cond.fieldLink RX4 37 "Gravimere$Survey" "lines" "I", Cond.instanceMethod yX0_init, Cond.code yX0_init cX0_init 1 none, Cond.methodLink RX0 3 objectInit, Cond.fieldLink RX0 9 "Gravimere$Archive" "pulls" "[J", Cond.fieldLink RX0 15 "Gravimere$Archive" "months" "[I", Cond.fieldLink RX0 19 "Gravimere$Archive" "count" "I"]
def wsL_law0_r4 : List Cond := [Cond.methodLink RL 83 yX6_init, Cond.instanceMethod yX6_init, Cond.code yX6_init cX6_init 1 none, Cond.methodLink RX6 1 objectInit, Cond.fieldLink RX6 7 "GravimereModel" "masses" "[J", Cond.fieldLink RX6 13 "GravimereModel" "period" "I", Cond.fieldLink RX6 17 "GravimereModel" "kind" "[I", Cond.fieldLink RX6 21 "GravimereModel" "off" "[I", Cond.fieldLink RX6 24 "GravimereModel" "tied" "[I", Cond.fieldLink RX6 27 "GravimereModel" "from" "[I", Cond.fieldLink RX6 30 "GravimereModel" "to" "[I", Cond.fieldLink RX6 33 "GravimereModel" "higher" "[I", Cond.fieldLink RX6 36 "GravimereModel" "unsure" "[I", Cond.fieldLink RX6 39 "GravimereModel" "doubts" "[I", Cond.fieldLink RX6 42 "GravimereModel" "heights" "[I", Cond.fieldLink RX6 45 "GravimereModel" "kept" "[J", Cond.fieldLink RX6 48 "GravimereModel" "made" "[I", Cond.fieldLink RX6 51 "GravimereModel" "month" "I", Cond.methodLink RL 86 yL_mass, Cond.static yL_mass, Cond.initialized RL, Cond.codeWith yL_mass cL_mass 8 (some .int) [(0, 13, 16, 13), (0, 13, 20, 15)], Cond.classLink RL 13 "java/lang/IndexOutOfBoundsException", Cond.classLink RL 15 "java/lang/IllegalArgumentException"]
def wsL_law0_r5 : List Cond := [Cond.methodLink RL 7 yX5_mass, Cond.instanceMethod yX5_mass, Cond.selects RX5 yX5_mass yX5_mass, Cond.code yX5_mass cX5_mass 6 (some .long), Cond.constantLong RX5 55 (40000000000), Cond.methodLink RX5 48 yX5_requireCell, Cond.static yX5_requireCell, Cond.code yX5_requireCell cX5_requireCell 2 none, Cond.classLink RX5 185 "java/lang/IndexOutOfBoundsException", Cond.initialized "java/lang/IndexOutOfBoundsException", Cond.methodLink RX5 52 yX5_requireNumber, Cond.static yX5_requireNumber, Cond.code yX5_requireNumber cX5_requireNumber 2 none, Cond.methodLink RX5 57 yX5_requireRange, Cond.static yX5_requireRange, Cond.code yX5_requireRange cX5_requireRange 6 none, Cond.classLink RX5 132 "java/lang/IllegalArgumentException", Cond.initialized "java/lang/IllegalArgumentException", Cond.instanceMethod yX1_putMass, Cond.selects RX1 yX1_putMass yX1_putMass, Cond.code yX1_putMass cX1_putMass 9 (some .long), Cond.static yX5_cellNumber, Cond.code yX5_cellNumber cX5_cellNumber 2 (some .int), Cond.methodLink RX1 25 yX1_changePulls]
def wsL_law0_r6 : List Cond := [Cond.instanceMethod yX1_changePulls, Cond.selects RX1 yX1_changePulls yX1_changePulls, Cond.code yX1_changePulls cX1_changePulls 12 none, Cond.methodLink RX1 29 yX1_squareOf, Cond.static yX1_squareOf, Cond.code yX1_squareOf cX1_squareOf 3 (some .long), Cond.methodLink RX1 33 yX1_pullOf, Cond.static yX1_pullOf, Cond.code yX1_pullOf cX1_pullOf 4 (some .long), Cond.constantLong RX1 37 (1000000), Cond.methodLink RL 91 yX6_mass, Cond.instanceMethod yX6_mass, Cond.selects RX6 yX6_mass yX6_mass, Cond.code yX6_mass cX6_mass 7 (some .long), Cond.constantLong RX6 76 (2), Cond.constantLong RX6 78 (40000000000), Cond.methodLink RX6 72 yX6_isCell, Cond.static yX6_isCell, Cond.code yX6_isCell cX6_isCell 2 (some .boolean), Cond.constantLong RX6 57 (7), Cond.methodLink RX6 59 yX6_isIn, Cond.static yX6_isIn, Cond.code yX6_isIn cX6_isIn 6 (some .boolean), Cond.methodLink RX6 80 yX6_holds]
def wsL_law0_r7 : List Cond := [Cond.instanceMethod yX6_holds, Cond.selects RX6 yX6_holds yX6_holds, Cond.code yX6_holds cX6_holds 2 (some .boolean), Cond.fieldLink RX6 54 "GravimereModel" "thrown" "I", Cond.methodLink RX6 84 yX6_changed, Cond.instanceMethod yX6_changed, Cond.selects RX6 yX6_changed yX6_changed, Cond.code yX6_changed cX6_changed 6 (some .long), Cond.methodLink RL 92 yX6_thrown, Cond.instanceMethod yX6_thrown, Cond.selects RX6 yX6_thrown yX6_thrown, Cond.code yX6_thrown cX6_thrown 1 (some .int), Cond.methodLink RL 95 yL_water, Cond.static yL_water, Cond.codeWith yL_water cL_water 7 (some .int) [(0, 11, 14, 13), (0, 11, 18, 15)], Cond.methodLink RL 17 yX5_water, Cond.instanceMethod yX5_water, Cond.selects RX5 yX5_water yX5_water, Cond.code yX5_water cX5_water 5 (some .long), Cond.constantLong RX5 65 (1000000000), Cond.instanceMethod yX1_putWater, Cond.selects RX1 yX1_putWater yX1_putWater, Cond.code yX1_putWater cX1_putWater 8 (some .long), Cond.methodLink RL 98 yX6_water]
def wsL_law0_r8 : List Cond := [Cond.instanceMethod yX6_water, Cond.selects RX6 yX6_water yX6_water, Cond.code yX6_water cX6_water 6 (some .long), Cond.constantLong RX6 88 (1000000000), Cond.methodLink RL 99 yL_pull, Cond.static yL_pull, Cond.codeWith yL_pull cL_pull 5 (some .int) [(0, 9, 12, 13)], Cond.methodLink RL 21 yX5_pull, Cond.instanceMethod yX5_pull, Cond.selects RX5 yX5_pull yX5_pull, Cond.code yX5_pull cX5_pull 3 (some .long), Cond.instanceMethod yX1_keptPull, Cond.selects RX1 yX1_keptPull yX1_keptPull, Cond.code yX1_keptPull cX1_keptPull 3 (some .long), Cond.methodLink RL 102 yX6_pull, Cond.instanceMethod yX6_pull, Cond.selects RX6 yX6_pull yX6_pull, Cond.code yX6_pull cX6_pull 3 (some .long), Cond.methodLink RX6 92 yX6_pullAt, Cond.instanceMethod yX6_pullAt, Cond.selects RX6 yX6_pullAt yX6_pullAt, Cond.code yX6_pullAt cX6_pullAt 10 (some .long), Cond.constantLong RX6 90 (1000000), Cond.methodLink RL 103 yL_pullAnew]
def wsL_law0_r9 : List Cond := [Cond.static yL_pullAnew, Cond.codeWith yL_pullAnew cL_pullAnew 5 (some .int) [(0, 9, 12, 13)], Cond.methodLink RL 25 yX5_pullAnew, Cond.instanceMethod yX5_pullAnew, Cond.selects RX5 yX5_pullAnew yX5_pullAnew, Cond.code yX5_pullAnew cX5_pullAnew 3 (some .long), Cond.instanceMethod yX1_summedPull, Cond.selects RX1 yX1_summedPull yX1_summedPull, Cond.code yX1_summedPull cX1_summedPull 9 (some .long), Cond.methodLink RL 105 yX6_pullAnew, Cond.instanceMethod yX6_pullAnew, Cond.selects RX6 yX6_pullAnew yX6_pullAnew, Cond.code yX6_pullAnew cX6_pullAnew 3 (some .long), Cond.methodLink RL 106 yL_gap, Cond.static yL_gap, Cond.codeWith yL_gap cL_gap 5 (some .int) [(0, 9, 12, 13)], Cond.methodLink RL 28 yX5_gap, Cond.instanceMethod yX5_gap, Cond.selects RX5 yX5_gap yX5_gap, Cond.code yX5_gap cX5_gap 3 (some .long), Cond.methodLink RL 108 yX6_gap, Cond.instanceMethod yX6_gap, Cond.selects RX6 yX6_gap yX6_gap, Cond.code yX6_gap cX6_gap 3 (some .long)]
def wsL_law0_r10 : List Cond := [Cond.methodLink RL 109 yL_tide, Cond.static yL_tide, Cond.codeWith yL_tide cL_tide 5 (some .int) [(0, 10, 13, 15)], Cond.methodLink RL 31 yX5_tide, Cond.instanceMethod yX5_tide, Cond.selects RX5 yX5_tide yX5_tide, Cond.code yX5_tide cX5_tide 3 (some .int), Cond.constantLong RX5 78 (1000000), Cond.constantLong RX5 80 (60), Cond.instanceMethod yX2_put, Cond.selects RX2 yX2_put yX2_put, Cond.code yX2_put cX2_put 4 (some .int), Cond.methodLink RL 111 yX6_tide, Cond.instanceMethod yX6_tide, Cond.selects RX6 yX6_tide yX6_tide, Cond.code yX6_tide cX6_tide 4 (some .int), Cond.constantLong RX6 96 (60), Cond.fieldLink RX6 98 "GravimereModel" "strength" "I", Cond.methodLink RL 112 yL_pass, Cond.static yL_pass, Cond.codeWith yL_pass cL_pass 4 (some .int) [(0, 9, 12, 15), (0, 9, 15, 39)], Cond.classLink RL 39 "java/lang/IllegalStateException", Cond.methodLink RL 35 yX5_pass, Cond.instanceMethod yX5_pass]
def wsL_law0_r11 : List Cond := [Cond.selects RX5 yX5_pass yX5_pass, Cond.code yX5_pass cX5_pass 2 (some .int), Cond.classLink RX5 88 "java/lang/IllegalStateException", Cond.initialized "java/lang/IllegalStateException", Cond.constantLong RX5 86 (120), Cond.methodLink RL 115 yX6_pass, Cond.instanceMethod yX6_pass, Cond.selects RX6 yX6_pass yX6_pass, Cond.code yX6_pass cX6_pass 2 (some .int), Cond.constantLong RX6 101 (120), Cond.methodLink RL 116 yL_needle, Cond.static yL_needle, Cond.codeWith yL_needle cL_needle 5 (some .int) [(0, 10, 13, 15), (0, 10, 17, 39)], Cond.methodLink RL 41 yX5_needle, Cond.instanceMethod yX5_needle, Cond.selects RX5 yX5_needle yX5_needle, Cond.code yX5_needle cX5_needle 3 (some .int), Cond.constantLong RX5 95 (-1000), Cond.constantLong RX5 97 (1000), Cond.methodLink RX5 102 yX5_requireRoom, Cond.static yX5_requireRoom, Cond.code yX5_requireRoom cX5_requireRoom 2 none, Cond.instanceMethod yX3_add, Cond.selects RX3 yX3_add yX3_add]
def wsL_law0_r12 : List Cond := [Cond.code yX3_add cX3_add 4 (some .int), Cond.methodLink RL 118 yX6_needle, Cond.instanceMethod yX6_needle, Cond.selects RX6 yX6_needle yX6_needle, Cond.code yX6_needle cX6_needle 4 (some .int), Cond.constantLong RX6 103 (-1000), Cond.constantLong RX6 105 (1000), Cond.fieldLink RX6 63 "GravimereModel" "needles" "I", Cond.methodLink RL 119 yL_tie, Cond.static yL_tie, Cond.codeWith yL_tie cL_tie 4 (some .int) [(0, 8, 11, 13), (0, 8, 14, 39)], Cond.methodLink RL 44 yX5_tie, Cond.instanceMethod yX5_tie, Cond.selects RX5 yX5_tie yX5_tie, Cond.code yX5_tie cX5_tie 4 (some .long), Cond.instanceMethod yX3_offIn, Cond.selects RX3 yX3_offIn yX3_offIn, Cond.code yX3_offIn cX3_offIn 3 (some .long), Cond.methodLink RL 121 yX6_tie, Cond.instanceMethod yX6_tie, Cond.selects RX6 yX6_tie yX6_tie, Cond.code yX6_tie cX6_tie 5 (some .long), Cond.methodLink RX6 107 yX6_isNeedle, Cond.instanceMethod yX6_isNeedle]
def wsL_law0_r13 : List Cond := [Cond.selects RX6 yX6_isNeedle yX6_isNeedle, Cond.code yX6_isNeedle cX6_isNeedle 2 (some .boolean), Cond.methodLink RX6 110 yX6_offNow, Cond.instanceMethod yX6_offNow, Cond.selects RX6 yX6_offNow yX6_offNow, Cond.code yX6_offNow cX6_offNow 2 (some .long), Cond.methodLink RL 122 yL_read, Cond.static yL_read, Cond.codeWith yL_read cL_read 6 (some .int) [(0, 11, 14, 13)], Cond.methodLink RL 48 yX5_read, Cond.instanceMethod yX5_read, Cond.selects RX5 yX5_read yX5_read, Cond.code yX5_read cX5_read 4 (some .long), Cond.instanceMethod yX2_tideIn, Cond.selects RX2 yX2_tideIn yX2_tideIn, Cond.code yX2_tideIn cX2_tideIn 3 (some .long), Cond.methodLink RL 125 yX6_read, Cond.instanceMethod yX6_read, Cond.selects RX6 yX6_read yX6_read, Cond.code yX6_read cX6_read 4 (some .long), Cond.methodLink RX6 114 yX6_readAt, Cond.instanceMethod yX6_readAt, Cond.selects RX6 yX6_readAt yX6_readAt, Cond.code yX6_readAt cX6_readAt 5 (some .long)]
def wsL_law0_r14 : List Cond := [Cond.methodLink RL 126 yL_benchmark, Cond.static yL_benchmark, Cond.codeWith yL_benchmark cL_benchmark 3 (some .int) [(0, 8, 11, 39)], Cond.methodLink RL 52 yX5_benchmark, Cond.instanceMethod yX5_benchmark, Cond.selects RX5 yX5_benchmark yX5_benchmark, Cond.code yX5_benchmark cX5_benchmark 1 (some .int), Cond.instanceMethod yX4_addBenchmark, Cond.selects RX4 yX4_addBenchmark yX4_addBenchmark, Cond.code yX4_addBenchmark cX4_addBenchmark 1 (some .int), Cond.methodLink RL 129 yX6_benchmark, Cond.instanceMethod yX6_benchmark, Cond.selects RX6 yX6_benchmark yX6_benchmark, Cond.code yX6_benchmark cX6_benchmark 1 (some .int), Cond.fieldLink RX6 66 "GravimereModel" "benchmarks" "I", Cond.methodLink RL 130 yL_line, Cond.static yL_line, Cond.codeWith yL_line cL_line 7 (some .int) [(0, 14, 17, 13), (0, 14, 21, 15), (0, 14, 25, 39)], Cond.methodLink RL 56 yX5_line, Cond.instanceMethod yX5_line, Cond.selects RX5 yX5_line yX5_line, Cond.code yX5_line cX5_line 5 (some .int), Cond.constantLong RX5 137 (-1000000), Cond.instanceMethod yX4_addLine]
def wsL_law0_r15 : List Cond := [Cond.selects RX4 yX4_addLine yX4_addLine, Cond.code yX4_addLine cX4_addLine 5 (some .int), Cond.methodLink RL 133 yX6_line, Cond.instanceMethod yX6_line, Cond.selects RX6 yX6_line yX6_line, Cond.code yX6_line cX6_line 7 (some .int), Cond.constantLong RX6 121 (-1000000), Cond.fieldLink RX6 123 "GravimereModel" "lines" "I", Cond.methodLink RX6 118 yX6_isBenchmark, Cond.instanceMethod yX6_isBenchmark, Cond.selects RX6 yX6_isBenchmark yX6_isBenchmark, Cond.code yX6_isBenchmark cX6_isBenchmark 2 (some .boolean), Cond.methodLink RL 134 yL_height, Cond.static yL_height, Cond.codeWith yL_height cL_height 4 (some .int) [(0, 9, 12, 13), (0, 9, 15, 39)], Cond.methodLink RL 60 yX5_height, Cond.instanceMethod yX5_height, Cond.selects RX5 yX5_height yX5_height, Cond.code yX5_height cX5_height 2 (some .int), Cond.instanceMethod yX4_findHeights, Cond.selects RX4 yX4_findHeights yX4_findHeights, Cond.code yX4_findHeights cX4_findHeights 3 none, Cond.methodLink RX4 40 yX4_knowOnlyFirst, Cond.static yX4_knowOnlyFirst]
def wsL_law0_r16 : List Cond := [Cond.code yX4_knowOnlyFirst cX4_knowOnlyFirst 2 none, Cond.methodLink RX4 44 yX4_surestLine, Cond.instanceMethod yX4_surestLine, Cond.selects RX4 yX4_surestLine yX4_surestLine, Cond.code yX4_surestLine cX4_surestLine 5 (some .int), Cond.methodLink RX4 52 yX4_doubtBeyond, Cond.instanceMethod yX4_doubtBeyond, Cond.selects RX4 yX4_doubtBeyond yX4_doubtBeyond, Cond.code yX4_doubtBeyond cX4_doubtBeyond 4 (some .int), Cond.methodLink RX4 48 yX4_goAlong, Cond.instanceMethod yX4_goAlong, Cond.selects RX4 yX4_goAlong yX4_goAlong, Cond.code yX4_goAlong cX4_goAlong 4 none, Cond.methodLink RL 136 yX6_height, Cond.instanceMethod yX6_height, Cond.selects RX6 yX6_height yX6_height, Cond.code yX6_height cX6_height 3 (some .int), Cond.methodLink RX6 137 yX6_findsAll, Cond.instanceMethod yX6_findsAll, Cond.selects RX6 yX6_findsAll yX6_findsAll, Cond.code yX6_findsAll cX6_findsAll 5 none, Cond.methodLink RX6 133 yX6_next, Cond.instanceMethod yX6_next, Cond.selects RX6 yX6_next yX6_next]
def wsL_law0_r17 : List Cond := [Cond.code yX6_next cX6_next 4 (some .int), Cond.methodLink RX6 129 yX6_finds, Cond.instanceMethod yX6_finds, Cond.selects RX6 yX6_finds yX6_finds, Cond.code yX6_finds cX6_finds 3 (some .int), Cond.methodLink RX6 126 yX6_isFound, Cond.instanceMethod yX6_isFound, Cond.selects RX6 yX6_isFound yX6_isFound, Cond.code yX6_isFound cX6_isFound 2 (some .boolean), Cond.methodLink RL 137 yL_doubt, Cond.static yL_doubt, Cond.codeWith yL_doubt cL_doubt 4 (some .int) [(0, 9, 12, 13)], Cond.methodLink RL 63 yX5_doubt, Cond.instanceMethod yX5_doubt, Cond.selects RX5 yX5_doubt yX5_doubt, Cond.code yX5_doubt cX5_doubt 2 (some .int), Cond.methodLink RL 139 yX6_doubt, Cond.instanceMethod yX6_doubt, Cond.selects RX6 yX6_doubt yX6_doubt, Cond.code yX6_doubt cX6_doubt 2 (some .int), Cond.methodLink RX6 140 yX6_doubtOf, Cond.instanceMethod yX6_doubtOf, Cond.selects RX6 yX6_doubtOf yX6_doubtOf, Cond.code yX6_doubtOf cX6_doubtOf 2 (some .int)]
def wsL_law0_r18 : List Cond := [Cond.methodLink RL 140 yL_doubtAnew, Cond.static yL_doubtAnew, Cond.codeWith yL_doubtAnew cL_doubtAnew 4 (some .int) [(0, 9, 12, 13)], Cond.methodLink RL 66 yX5_doubtAnew, Cond.instanceMethod yX5_doubtAnew, Cond.selects RX5 yX5_doubtAnew yX5_doubtAnew, Cond.code yX5_doubtAnew cX5_doubtAnew 2 (some .int), Cond.instanceMethod yX4_tryAllLines, Cond.selects RX4 yX4_tryAllLines yX4_tryAllLines, Cond.code yX4_tryAllLines cX4_tryAllLines 3 none, Cond.methodLink RX4 61 yX4_tryEachLine, Cond.instanceMethod yX4_tryEachLine, Cond.selects RX4 yX4_tryEachLine yX4_tryEachLine, Cond.code yX4_tryEachLine cX4_tryEachLine 3 (some .boolean), Cond.methodLink RX4 65 yX4_makesLess, Cond.instanceMethod yX4_makesLess, Cond.selects RX4 yX4_makesLess yX4_makesLess, Cond.code yX4_makesLess cX4_makesLess 5 (some .boolean), Cond.methodLink RL 142 yX6_doubtAnew, Cond.instanceMethod yX6_doubtAnew, Cond.selects RX6 yX6_doubtAnew yX6_doubtAnew, Cond.code yX6_doubtAnew cX6_doubtAnew 2 (some .int), Cond.methodLink RL 143 yL_isInConflict, Cond.static yL_isInConflict]
def wsL_law0_r19 : List Cond := [Cond.codeWith yL_isInConflict cL_isInConflict 4 (some .int) [(0, 16, 19, 13)], Cond.methodLink RL 69 yX5_isInConflict, Cond.instanceMethod yX5_isInConflict, Cond.selects RX5 yX5_isInConflict yX5_isInConflict, Cond.code yX5_isInConflict cX5_isInConflict 2 (some .boolean), Cond.instanceMethod yX4_contradicts, Cond.selects RX4 yX4_contradicts yX4_contradicts, Cond.code yX4_contradicts cX4_contradicts 5 (some .boolean), Cond.methodLink RX4 56 Lib.Math.abs.name, Cond.static Lib.Math.abs.name, Cond.initialized "java/lang/Math", Cond.code Lib.Math.abs.name Lib.Math.abs.code 1 (some .int), Cond.methodLink RL 145 yX6_isInConflict, Cond.instanceMethod yX6_isInConflict, Cond.selects RX6 yX6_isInConflict yX6_isInConflict, Cond.code yX6_isInConflict cX6_isInConflict 2 (some .boolean), Cond.methodLink RX6 143 yX6_conflicts, Cond.instanceMethod yX6_conflicts, Cond.selects RX6 yX6_conflicts yX6_conflicts, Cond.code yX6_conflicts cX6_conflicts 5 (some .boolean), Cond.methodLink RL 146 yL_release, Cond.static yL_release, Cond.codeWith yL_release cL_release 3 (some .int) [(0, 8, 11, 39)], Cond.methodLink RL 73 yX5_release]
def wsL_law0_r20 : List Cond := [Cond.instanceMethod yX5_release, Cond.selects RX5 yX5_release yX5_release, Cond.code yX5_release cX5_release 1 (some .int), Cond.instanceMethod yX0_keep, Cond.selects RX0 yX0_keep yX0_keep, Cond.code yX0_keep cX0_keep 3 (some .int), Cond.methodLink RX0 23 arraycopyName, Cond.native arraycopyName, Cond.static arraycopyName, Cond.initialized "java/lang/System", Cond.methodLink RL 148 yX6_release, Cond.instanceMethod yX6_release, Cond.selects RX6 yX6_release yX6_release, Cond.code yX6_release cX6_release 2 (some .int), Cond.fieldLink RX6 69 "GravimereModel" "releases" "I", Cond.methodLink RL 149 yL_trend, Cond.static yL_trend, Cond.codeWith yL_trend cL_trend 7 (some .int) [(0, 13, 16, 13), (0, 13, 20, 39)], Cond.methodLink RL 76 yX5_trend, Cond.instanceMethod yX5_trend, Cond.selects RX5 yX5_trend yX5_trend, Cond.code yX5_trend cX5_trend 6 (some .long), Cond.instanceMethod yX0_trendFrom, Cond.selects RX0 yX0_trendFrom yX0_trendFrom]
def wsL_law0_r21 : List Cond := [Cond.code yX0_trendFrom cX0_trendFrom 9 (some .long), Cond.methodLink RX0 33 yJ9_floorDiv_f86c9, Cond.static yJ9_floorDiv_f86c9, Cond.initialized RJ9, Cond.code yJ9_floorDiv_f86c9 cJ9_floorDiv_f86c9 6 (some .long), Cond.methodLink RL 151 yX6_trend, Cond.instanceMethod yX6_trend, Cond.selects RX6 yX6_trend yX6_trend, Cond.code yX6_trend cX6_trend 9 (some .long), Cond.methodLink RX6 146 yX6_isRelease, Cond.instanceMethod yX6_isRelease, Cond.selects RX6 yX6_isRelease yX6_isRelease, Cond.code yX6_isRelease cX6_isRelease 2 (some .boolean), Cond.methodLink RX6 149 yX6_down, Cond.static yX6_down, Cond.code yX6_down cX6_down 6 (some .long)]
def wsL_law0 : List Cond := (wsL_law0_r1 ++ (wsL_law0_r2 ++ (wsL_law0_r3 ++ (wsL_law0_r4 ++ (wsL_law0_r5 ++ (wsL_law0_r6 ++ (wsL_law0_r7 ++ (wsL_law0_r8 ++ (wsL_law0_r9 ++ (wsL_law0_r10 ++ (wsL_law0_r11 ++ (wsL_law0_r12 ++ (wsL_law0_r13 ++ (wsL_law0_r14 ++ (wsL_law0_r15 ++ (wsL_law0_r16 ++ (wsL_law0_r17 ++ (wsL_law0_r18 ++ (wsL_law0_r19 ++ (wsL_law0_r20 ++ wsL_law0_r21)))))))))))))))))))) ++ wsX50 ++ wsX60 ++ wsX10 ++ wsX20 ++ wsX30 ++ wsX40 ++ wsX00 ++ ([] : List Cond)
def wsL_law : List Cond := wsL_law0 ++ (vx_atS RX5 189 "java/lang/IndexOutOfBoundsException" ["java/lang/RuntimeException", "java/lang/Exception"]).filter goodWord ++ (vx_atS RX5 136 "java/lang/IllegalArgumentException" ["java/lang/RuntimeException", "java/lang/Exception"]).filter goodWord ++ (vx_atS RX5 92 "java/lang/IllegalStateException" ["java/lang/RuntimeException", "java/lang/Exception"]).filter goodWord
end
section
set_option maxRecDepth 20000 in
theorem in_wsL_law0_r1 : ∀ w ∈ wsL_law0_r1, w ∈ lw_tbl := fun w h => (goodIn_p wsL_law0_r1 [56, 59] (by decide +kernel) (by decide +kernel) w h).1
set_option maxRecDepth 20000 in
theorem in_wsL_law0_r2 : ∀ w ∈ wsL_law0_r2, w ∈ lw_tbl := fun w h => (goodIn_p wsL_law0_r2 [64, 82, 95] (by decide +kernel) (by decide +kernel) w h).1
set_option maxRecDepth 20000 in
theorem in_wsL_law0_r3 : ∀ w ∈ wsL_law0_r3, w ∈ lw_tbl := fun w h => (goodIn_p wsL_law0_r3 [118, 157] (by decide +kernel) (by decide +kernel) w h).1
set_option maxRecDepth 20000 in
theorem in_wsL_law0_r4 : ∀ w ∈ wsL_law0_r4, w ∈ lw_tbl := fun w h => (goodIn_p wsL_law0_r4 [556] (by decide +kernel) (by decide +kernel) w h).1
set_option maxRecDepth 20000 in
theorem in_wsL_law0_r5 : ∀ w ∈ wsL_law0_r5, w ∈ lw_tbl := fun w h => (goodIn_p wsL_law0_r5 [198, 201, 272, 277, 297, 300] (by decide +kernel) (by decide +kernel) w h).1
set_option maxRecDepth 20000 in
theorem in_wsL_law0_r6 : ∀ w ∈ wsL_law0_r6, w ∈ lw_tbl := fun w h => (goodIn_p wsL_law0_r6 [304, 307, 310, 626, 629, 633] (by decide +kernel) (by decide +kernel) w h).1
set_option maxRecDepth 20000 in
theorem in_wsL_law0_r7 : ∀ w ∈ wsL_law0_r7, w ∈ lw_tbl := fun w h => (goodIn_p wsL_law0_r7 [639, 643, 622, 318, 323] (by decide +kernel) (by decide +kernel) w h).1
set_option maxRecDepth 20000 in
theorem in_wsL_law0_r8 : ∀ w ∈ wsL_law0_r8, w ∈ lw_tbl := fun w h => (goodIn_p wsL_law0_r8 [647, 330, 334, 652, 656] (by decide +kernel) (by decide +kernel) w h).1
set_option maxRecDepth 20000 in
theorem in_wsL_law0_r9 : ∀ w ∈ wsL_law0_r9, w ∈ lw_tbl := fun w h => (goodIn_p wsL_law0_r9 [341, 345, 661, 352, 665] (by decide +kernel) (by decide +kernel) w h).1
set_option maxRecDepth 20000 in
theorem in_wsL_law0_r10 : ∀ w ∈ wsL_law0_r10, w ∈ lw_tbl := fun w h => (goodIn_p wsL_law0_r10 [359, 365, 669] (by decide +kernel) (by decide +kernel) w h).1
set_option maxRecDepth 20000 in
theorem in_wsL_law0_r11 : ∀ w ∈ wsL_law0_r11, w ∈ lw_tbl := fun w h => (goodIn_p wsL_law0_r11 [373, 674, 397, 402] (by decide +kernel) (by decide +kernel) w h).1
set_option maxRecDepth 20000 in
theorem in_wsL_law0_r12 : ∀ w ∈ wsL_law0_r12, w ∈ lw_tbl := fun w h => (goodIn_p wsL_law0_r12 [407, 679, 414, 419, 685] (by decide +kernel) (by decide +kernel) w h).1
set_option maxRecDepth 20000 in
theorem in_wsL_law0_r13 : ∀ w ∈ wsL_law0_r13, w ∈ lw_tbl := fun w h => (goodIn_p wsL_law0_r13 [689, 693, 426, 430, 697, 701] (by decide +kernel) (by decide +kernel) w h).1
set_option maxRecDepth 20000 in
theorem in_wsL_law0_r14 : ∀ w ∈ wsL_law0_r14, w ∈ lw_tbl := fun w h => (goodIn_p wsL_law0_r14 [437, 441, 705, 448] (by decide +kernel) (by decide +kernel) w h).1
end
section
set_option maxRecDepth 20000 in
theorem in_wsL_law0_r15 : ∀ w ∈ wsL_law0_r15, w ∈ lw_tbl := fun w h => (goodIn_p wsL_law0_r15 [454, 709, 713, 461, 465] (by decide +kernel) (by decide +kernel) w h).1
set_option maxRecDepth 20000 in
theorem in_wsL_law0_r16 : ∀ w ∈ wsL_law0_r16, w ∈ lw_tbl := fun w h => (goodIn_p wsL_law0_r16 [468, 472, 476, 480, 718, 722] (by decide +kernel) (by decide +kernel) w h).1
set_option maxRecDepth 20000 in
theorem in_wsL_law0_r17 : ∀ w ∈ wsL_law0_r17, w ∈ lw_tbl := fun w h => (goodIn_p wsL_law0_r17 [726, 730, 734, 488, 738, 742] (by decide +kernel) (by decide +kernel) w h).1
set_option maxRecDepth 20000 in
theorem in_wsL_law0_r18 : ∀ w ∈ wsL_law0_r18, w ∈ lw_tbl := fun w h => (goodIn_p wsL_law0_r18 [495, 499, 503, 507, 746] (by decide +kernel) (by decide +kernel) w h).1
set_option maxRecDepth 20000 in
theorem in_wsL_law0_r19 : ∀ w ∈ wsL_law0_r19, w ∈ lw_tbl := fun w h => (goodIn_p wsL_law0_r19 [514, 518, 521, 750, 754] (by decide +kernel) (by decide +kernel) w h).1
set_option maxRecDepth 20000 in
theorem in_wsL_law0_r20 : ∀ w ∈ wsL_law0_r20, w ∈ lw_tbl := fun w h => (goodIn_p wsL_law0_r20 [528, 532, 758, 542] (by decide +kernel) (by decide +kernel) w h).1
set_option maxRecDepth 20000 in
theorem in_wsL_law0_r21 : ∀ w ∈ wsL_law0_r21, w ∈ lw_tbl := fun w h => (goodIn_p wsL_law0_r21 [547, 551, 762, 766, 769] (by decide +kernel) (by decide +kernel) w h).1
theorem in_wsX50 : ∀ w ∈ wsX50, w ∈ lw_tbl := by decide +kernel
theorem in_wsX60 : ∀ w ∈ wsX60, w ∈ lw_tbl := by decide +kernel
theorem in_wsX10 : ∀ w ∈ wsX10, w ∈ lw_tbl := by decide +kernel
theorem in_wsX20 : ∀ w ∈ wsX20, w ∈ lw_tbl := by decide +kernel
theorem in_wsX30 : ∀ w ∈ wsX30, w ∈ lw_tbl := by decide +kernel
theorem in_wsX40 : ∀ w ∈ wsX40, w ∈ lw_tbl := by decide +kernel
theorem in_wsX00 : ∀ w ∈ wsX00, w ∈ lw_tbl := by decide +kernel
theorem wsL_law_in0 : ∀ w ∈ wsL_law0, w ∈ lw_tbl := List.forall_mem_append.mpr ⟨List.forall_mem_append.mpr ⟨List.forall_mem_append.mpr ⟨List.forall_mem_append.mpr ⟨List.forall_mem_append.mpr ⟨List.forall_mem_append.mpr ⟨List.forall_mem_append.mpr ⟨List.forall_mem_append.mpr ⟨List.forall_mem_append.mpr ⟨in_wsL_law0_r1, List.forall_mem_append.mpr ⟨in_wsL_law0_r2, List.forall_mem_append.mpr ⟨in_wsL_law0_r3, List.forall_mem_append.mpr ⟨in_wsL_law0_r4, List.forall_mem_append.mpr ⟨in_wsL_law0_r5, List.forall_mem_append.mpr ⟨in_wsL_law0_r6, List.forall_mem_append.mpr ⟨in_wsL_law0_r7, List.forall_mem_append.mpr ⟨in_wsL_law0_r8, List.forall_mem_append.mpr ⟨in_wsL_law0_r9, List.forall_mem_append.mpr ⟨in_wsL_law0_r10, List.forall_mem_append.mpr ⟨in_wsL_law0_r11, List.forall_mem_append.mpr ⟨in_wsL_law0_r12, List.forall_mem_append.mpr ⟨in_wsL_law0_r13, List.forall_mem_append.mpr ⟨in_wsL_law0_r14, List.forall_mem_append.mpr ⟨in_wsL_law0_r15, List.forall_mem_append.mpr ⟨in_wsL_law0_r16, List.forall_mem_append.mpr ⟨in_wsL_law0_r17, List.forall_mem_append.mpr ⟨in_wsL_law0_r18, List.forall_mem_append.mpr ⟨in_wsL_law0_r19, List.forall_mem_append.mpr ⟨in_wsL_law0_r20, in_wsL_law0_r21⟩⟩⟩⟩⟩⟩⟩⟩⟩⟩⟩⟩⟩⟩⟩⟩⟩⟩⟩⟩, in_wsX50⟩, in_wsX60⟩, in_wsX10⟩, in_wsX20⟩, in_wsX30⟩, in_wsX40⟩, in_wsX00⟩, fun _ h => absurd h List.not_mem_nil⟩
end
section
theorem wsL_law_x0 : ∀ w ∈ (vx_atS RX5 189 "java/lang/IndexOutOfBoundsException" ["java/lang/RuntimeException", "java/lang/Exception"]).filter goodWord, w ∈ lw_tbl := by decide +kernel
theorem wsL_law_x1 : ∀ w ∈ (vx_atS RX5 136 "java/lang/IllegalArgumentException" ["java/lang/RuntimeException", "java/lang/Exception"]).filter goodWord, w ∈ lw_tbl := by decide +kernel
theorem wsL_law_x2 : ∀ w ∈ (vx_atS RX5 92 "java/lang/IllegalStateException" ["java/lang/RuntimeException", "java/lang/Exception"]).filter goodWord, w ∈ lw_tbl := by decide +kernel
theorem wsL_law_in : ∀ w ∈ wsL_law, w ∈ lw_tbl := fun w h => (List.mem_append.mp h).elim (fun h => (List.mem_append.mp h).elim (fun h => (List.mem_append.mp h).elim (fun h => wsL_law_in0 w h) (fun h => wsL_law_x0 w h)) (fun h => wsL_law_x1 w h)) (fun h => wsL_law_x2 w h)
theorem inlX0 : ∀ w ∈ wsX00, w ∈ wsL_law := fun _ h => List.mem_append_left _ (List.mem_append_left _ (List.mem_append_left _ (List.mem_append_left _ (List.mem_append_right _ h))))
theorem inX0 : ∀ w ∈ wsX00, w ∈ lw_tbl := fun w h => wsL_law_in w (inlX0 w h)
theorem inlX1 : ∀ w ∈ wsX10, w ∈ wsL_law := fun _ h => List.mem_append_left _ (List.mem_append_left _ (List.mem_append_left _ (List.mem_append_left _ (List.mem_append_left _ (List.mem_append_left _ (List.mem_append_left _ (List.mem_append_left _ (List.mem_append_right _ h))))))))
theorem inX1 : ∀ w ∈ wsX10, w ∈ lw_tbl := fun w h => wsL_law_in w (inlX1 w h)
theorem inlX2 : ∀ w ∈ wsX20, w ∈ wsL_law := fun _ h => List.mem_append_left _ (List.mem_append_left _ (List.mem_append_left _ (List.mem_append_left _ (List.mem_append_left _ (List.mem_append_left _ (List.mem_append_left _ (List.mem_append_right _ h)))))))
theorem inX2 : ∀ w ∈ wsX20, w ∈ lw_tbl := fun w h => wsL_law_in w (inlX2 w h)
theorem inlX3 : ∀ w ∈ wsX30, w ∈ wsL_law := fun _ h => List.mem_append_left _ (List.mem_append_left _ (List.mem_append_left _ (List.mem_append_left _ (List.mem_append_left _ (List.mem_append_left _ (List.mem_append_right _ h))))))
theorem inX3 : ∀ w ∈ wsX30, w ∈ lw_tbl := fun w h => wsL_law_in w (inlX3 w h)
theorem inlX4 : ∀ w ∈ wsX40, w ∈ wsL_law := fun _ h => List.mem_append_left _ (List.mem_append_left _ (List.mem_append_left _ (List.mem_append_left _ (List.mem_append_left _ (List.mem_append_right _ h)))))
theorem inX4 : ∀ w ∈ wsX40, w ∈ lw_tbl := fun w h => wsL_law_in w (inlX4 w h)
theorem inlX5 : ∀ w ∈ wsX50, w ∈ wsL_law := fun _ h => List.mem_append_left _ (List.mem_append_left _ (List.mem_append_left _ (List.mem_append_left _ (List.mem_append_left _ (List.mem_append_left _ (List.mem_append_left _ (List.mem_append_left _ (List.mem_append_left _ (List.mem_append_left _ (List.mem_append_right _ h))))))))))
theorem inX5 : ∀ w ∈ wsX50, w ∈ lw_tbl := fun w h => wsL_law_in w (inlX5 w h)
theorem inlX6 : ∀ w ∈ wsX60, w ∈ wsL_law := fun _ h => List.mem_append_left _ (List.mem_append_left _ (List.mem_append_left _ (List.mem_append_left _ (List.mem_append_left _ (List.mem_append_left _ (List.mem_append_left _ (List.mem_append_left _ (List.mem_append_left _ (List.mem_append_right _ h)))))))))
theorem inX6 : ∀ w ∈ wsX60, w ∈ lw_tbl := fun w h => wsL_law_in w (inlX6 w h)
theorem inJ9 : ∀ w ∈ wsJ90, w ∈ lw_tbl := by decide +kernel
theorem inJ0 : ∀ w ∈ wsJ00, w ∈ lw_tbl := by decide +kernel
theorem inJ10 : ∀ w ∈ wsJ100, w ∈ lw_tbl := by decide +kernel
abbrev vwCl : List vw_C := [(RX0, TX0, 3), (RX1, TX1, 3), (RX2, TX2, 2), (RX3, TX3, 4), (RX4, TX4, 9), (RX5, TX5, 6), (RX6, TX6, 20)]
end
section
theorem dX0_init_0 : decode cX0_init 0 = .ok (.aload_n 0, 1) := by decide +kernel
theorem dX0_init_1 : decode cX0_init 1 = .ok (.invokespecial 3, 3) := by decide +kernel
theorem dX0_init_4 : decode cX0_init 4 = .ok (.aload_n 0, 1) := by decide +kernel
theorem dX0_init_5 : decode cX0_init 5 = .ok (.sipush 768, 3) := by decide +kernel
theorem dX0_init_8 : decode cX0_init 8 = .ok (.newarray .long, 2) := by decide +kernel
theorem dX0_init_10 : decode cX0_init 10 = .ok (.putfield 9, 3) := by decide +kernel
theorem dX0_init_13 : decode cX0_init 13 = .ok (.aload_n 0, 1) := by decide +kernel
theorem dX0_init_14 : decode cX0_init 14 = .ok (.bipush 12, 2) := by decide +kernel
theorem dX0_init_16 : decode cX0_init 16 = .ok (.newarray .int, 2) := by decide +kernel
theorem dX0_init_18 : decode cX0_init 18 = .ok (.putfield 15, 3) := by decide +kernel
theorem dX0_init_21 : decode cX0_init 21 = .ok (.aload_n 0, 1) := by decide +kernel
theorem dX0_init_22 : decode cX0_init 22 = .ok (.iconst 0, 1) := by decide +kernel
theorem dX0_init_23 : decode cX0_init 23 = .ok (.putfield 19, 3) := by decide +kernel
theorem dX0_init_26 : decode cX0_init 26 = .ok (.return_, 1) := by decide +kernel
theorem dX0_keep_0 : decode cX0_keep 0 = .ok (.aload_n 1, 1) := by decide +kernel
theorem dX0_keep_1 : decode cX0_keep 1 = .ok (.iconst 0, 1) := by decide +kernel
theorem dX0_keep_2 : decode cX0_keep 2 = .ok (.aload_n 0, 1) := by decide +kernel
theorem dX0_keep_3 : decode cX0_keep 3 = .ok (.getfield 9, 3) := by decide +kernel
theorem dX0_keep_6 : decode cX0_keep 6 = .ok (.aload_n 0, 1) := by decide +kernel
theorem dX0_keep_7 : decode cX0_keep 7 = .ok (.getfield 19, 3) := by decide +kernel
theorem dX0_keep_10 : decode cX0_keep 10 = .ok (.bipush 64, 2) := by decide +kernel
theorem dX0_keep_12 : decode cX0_keep 12 = .ok (.imul, 1) := by decide +kernel
theorem dX0_keep_13 : decode cX0_keep 13 = .ok (.bipush 64, 2) := by decide +kernel
theorem dX0_keep_15 : decode cX0_keep 15 = .ok (.invokestatic 23, 3) := by decide +kernel
theorem dX0_keep_18 : decode cX0_keep 18 = .ok (.aload_n 0, 1) := by decide +kernel
theorem dX0_keep_19 : decode cX0_keep 19 = .ok (.getfield 15, 3) := by decide +kernel
theorem dX0_keep_22 : decode cX0_keep 22 = .ok (.aload_n 0, 1) := by decide +kernel
theorem dX0_keep_23 : decode cX0_keep 23 = .ok (.getfield 19, 3) := by decide +kernel
theorem dX0_keep_26 : decode cX0_keep 26 = .ok (.iload_n 2, 1) := by decide +kernel
theorem dX0_keep_27 : decode cX0_keep 27 = .ok (.iastore, 1) := by decide +kernel
theorem dX0_keep_28 : decode cX0_keep 28 = .ok (.aload_n 0, 1) := by decide +kernel
theorem dX0_keep_29 : decode cX0_keep 29 = .ok (.dup, 1) := by decide +kernel
theorem dX0_keep_30 : decode cX0_keep 30 = .ok (.getfield 19, 3) := by decide +kernel
theorem dX0_keep_33 : decode cX0_keep 33 = .ok (.iconst 1, 1) := by decide +kernel
theorem dX0_keep_34 : decode cX0_keep 34 = .ok (.iadd, 1) := by decide +kernel
theorem dX0_keep_35 : decode cX0_keep 35 = .ok (.putfield 19, 3) := by decide +kernel
theorem dX0_keep_38 : decode cX0_keep 38 = .ok (.aload_n 0, 1) := by decide +kernel
theorem dX0_keep_39 : decode cX0_keep 39 = .ok (.getfield 19, 3) := by decide +kernel
theorem dX0_keep_42 : decode cX0_keep 42 = .ok (.iconst 1, 1) := by decide +kernel
theorem dX0_keep_43 : decode cX0_keep 43 = .ok (.isub, 1) := by decide +kernel
theorem dX0_keep_44 : decode cX0_keep 44 = .ok (.ireturn, 1) := by decide +kernel
set_option maxRecDepth 20000 in
theorem ggX0_trendFrom_X5_cellNumber : GoodIn wsX0_trendFrom wsX5_cellNumber := goodIn_r _ [5] (by decide +kernel) (by decide +kernel)
set_option maxRecDepth 20000 in
theorem gX0_trendFrom_X5_cellNumber_n29 : GoodIn wsX0_trendFrom (wsX5_cellNumber) := ggX0_trendFrom_X5_cellNumber
set_option maxRecDepth 20000 in
theorem ggX0_trendFrom_J9_floorDiv_f86c9 : GoodIn wsX0_trendFrom wsJ9_floorDiv_f86c9 := goodIn_r _ [9] (by decide +kernel) (by decide +kernel)
set_option maxRecDepth 20000 in
theorem gX0_trendFrom_J9_floorDiv_f86c9 : GoodIn wsX0_trendFrom (va_wsS RX0 33 yJ9_floorDiv_f86c9 wsJ9_floorDiv_f86c9) := goodIn_app (goodIn_of _ (by decide +kernel)) ggX0_trendFrom_J9_floorDiv_f86c9
theorem dX0_trendFrom_0 : decode cX0_trendFrom 0 = .ok (.aload_n 0, 1) := by decide +kernel
theorem dX0_trendFrom_1 : decode cX0_trendFrom 1 = .ok (.getfield 15, 3) := by decide +kernel
theorem dX0_trendFrom_4 : decode cX0_trendFrom 4 = .ok (.iload_n 2, 1) := by decide +kernel
theorem dX0_trendFrom_5 : decode cX0_trendFrom 5 = .ok (.iaload, 1) := by decide +kernel
theorem dX0_trendFrom_6 : decode cX0_trendFrom 6 = .ok (.aload_n 0, 1) := by decide +kernel
theorem dX0_trendFrom_7 : decode cX0_trendFrom 7 = .ok (.getfield 15, 3) := by decide +kernel
theorem dX0_trendFrom_10 : decode cX0_trendFrom 10 = .ok (.iload_n 1, 1) := by decide +kernel
theorem dX0_trendFrom_11 : decode cX0_trendFrom 11 = .ok (.iaload, 1) := by decide +kernel
theorem dX0_trendFrom_12 : decode cX0_trendFrom 12 = .ok (.isub, 1) := by decide +kernel
theorem dX0_trendFrom_13 : decode cX0_trendFrom 13 = .ok (.istore 5, 2) := by decide +kernel
theorem dX0_trendFrom_15 : decode cX0_trendFrom 15 = .ok (.iload_n 3, 1) := by decide +kernel
theorem dX0_trendFrom_16 : decode cX0_trendFrom 16 = .ok (.iload 4, 2) := by decide +kernel
theorem dX0_trendFrom_18 : decode cX0_trendFrom 18 = .ok (.invokestatic 29, 3) := by decide +kernel
theorem dX0_trendFrom_21 : decode cX0_trendFrom 21 = .ok (.istore 6, 2) := by decide +kernel
theorem dX0_trendFrom_23 : decode cX0_trendFrom 23 = .ok (.aload_n 0, 1) := by decide +kernel
theorem dX0_trendFrom_24 : decode cX0_trendFrom 24 = .ok (.getfield 9, 3) := by decide +kernel
theorem dX0_trendFrom_27 : decode cX0_trendFrom 27 = .ok (.iload_n 2, 1) := by decide +kernel
theorem dX0_trendFrom_28 : decode cX0_trendFrom 28 = .ok (.bipush 64, 2) := by decide +kernel
theorem dX0_trendFrom_30 : decode cX0_trendFrom 30 = .ok (.imul, 1) := by decide +kernel
theorem dX0_trendFrom_31 : decode cX0_trendFrom 31 = .ok (.iload 6, 2) := by decide +kernel
theorem dX0_trendFrom_33 : decode cX0_trendFrom 33 = .ok (.iadd, 1) := by decide +kernel
theorem dX0_trendFrom_34 : decode cX0_trendFrom 34 = .ok (.laload, 1) := by decide +kernel
theorem dX0_trendFrom_35 : decode cX0_trendFrom 35 = .ok (.aload_n 0, 1) := by decide +kernel
theorem dX0_trendFrom_36 : decode cX0_trendFrom 36 = .ok (.getfield 9, 3) := by decide +kernel
theorem dX0_trendFrom_39 : decode cX0_trendFrom 39 = .ok (.iload_n 1, 1) := by decide +kernel
theorem dX0_trendFrom_40 : decode cX0_trendFrom 40 = .ok (.bipush 64, 2) := by decide +kernel
theorem dX0_trendFrom_42 : decode cX0_trendFrom 42 = .ok (.imul, 1) := by decide +kernel
theorem dX0_trendFrom_43 : decode cX0_trendFrom 43 = .ok (.iload 6, 2) := by decide +kernel
theorem dX0_trendFrom_45 : decode cX0_trendFrom 45 = .ok (.iadd, 1) := by decide +kernel
theorem dX0_trendFrom_46 : decode cX0_trendFrom 46 = .ok (.laload, 1) := by decide +kernel
theorem dX0_trendFrom_47 : decode cX0_trendFrom 47 = .ok (.lsub, 1) := by decide +kernel
theorem dX0_trendFrom_48 : decode cX0_trendFrom 48 = .ok (.lstore 7, 2) := by decide +kernel
theorem dX0_trendFrom_50 : decode cX0_trendFrom 50 = .ok (.iload 5, 2) := by decide +kernel
theorem dX0_trendFrom_52 : decode cX0_trendFrom 52 = .ok (.iconst 1, 1) := by decide +kernel
theorem dX0_trendFrom_53 : decode cX0_trendFrom 53 = .ok (.if_icmp .ge 7, 3) := by decide +kernel
theorem dX0_trendFrom_56 : decode cX0_trendFrom 56 = .ok (.lconst 0, 1) := by decide +kernel
theorem dX0_trendFrom_57 : decode cX0_trendFrom 57 = .ok (.goto 11, 3) := by decide +kernel
theorem dX0_trendFrom_60 : decode cX0_trendFrom 60 = .ok (.lload 7, 2) := by decide +kernel
theorem dX0_trendFrom_62 : decode cX0_trendFrom 62 = .ok (.iload 5, 2) := by decide +kernel
theorem dX0_trendFrom_64 : decode cX0_trendFrom 64 = .ok (.i2l, 1) := by decide +kernel
theorem dX0_trendFrom_65 : decode cX0_trendFrom 65 = .ok (.invokestatic 33, 3) := by decide +kernel
theorem dX0_trendFrom_68 : decode cX0_trendFrom 68 = .ok (.lreturn, 1) := by decide +kernel
theorem dX1_init_0 : decode cX1_init 0 = .ok (.aload_n 0, 1) := by decide +kernel
theorem dX1_init_1 : decode cX1_init 1 = .ok (.invokespecial 3, 3) := by decide +kernel
theorem dX1_init_4 : decode cX1_init 4 = .ok (.aload_n 0, 1) := by decide +kernel
theorem dX1_init_5 : decode cX1_init 5 = .ok (.sipush 192, 3) := by decide +kernel
theorem dX1_init_8 : decode cX1_init 8 = .ok (.newarray .long, 2) := by decide +kernel
theorem dX1_init_10 : decode cX1_init 10 = .ok (.putfield 9, 3) := by decide +kernel
theorem dX1_init_13 : decode cX1_init 13 = .ok (.aload_n 0, 1) := by decide +kernel
theorem dX1_init_14 : decode cX1_init 14 = .ok (.bipush 64, 2) := by decide +kernel
theorem dX1_init_16 : decode cX1_init 16 = .ok (.newarray .long, 2) := by decide +kernel
theorem dX1_init_18 : decode cX1_init 18 = .ok (.putfield 15, 3) := by decide +kernel
theorem dX1_init_21 : decode cX1_init 21 = .ok (.aload_n 0, 1) := by decide +kernel
theorem dX1_init_22 : decode cX1_init 22 = .ok (.bipush 64, 2) := by decide +kernel
theorem dX1_init_24 : decode cX1_init 24 = .ok (.newarray .long, 2) := by decide +kernel
theorem dX1_init_26 : decode cX1_init 26 = .ok (.putfield 18, 3) := by decide +kernel
theorem dX1_init_29 : decode cX1_init 29 = .ok (.return_, 1) := by decide +kernel
set_option maxRecDepth 20000 in
theorem ggX1_putMass_X5_cellNumber : GoodIn wsX1_putMass wsX5_cellNumber := goodIn_r _ [4] (by decide +kernel) (by decide +kernel)
set_option maxRecDepth 20000 in
theorem gX1_putMass_X5_cellNumber_n21 : GoodIn wsX1_putMass (wsX5_cellNumber) := ggX1_putMass_X5_cellNumber
set_option maxRecDepth 20000 in
theorem ggX1_putMass_X1_changePulls : GoodIn wsX1_putMass wsX1_changePulls := goodIn_r _ [9, 10, 11, 12, 8, 13, 2, 3, 4, 14, 15, 16, 17, 18, 19, 20] (by decide +kernel) (by decide +kernel)
set_option maxRecDepth 20000 in
theorem gX1_putMass_X1_changePulls : GoodIn wsX1_putMass (wsV RX1 25 RX1 yX1_changePulls wsX1_changePulls) := goodIn_app (goodIn_of _ (by decide +kernel)) ggX1_putMass_X1_changePulls
theorem dX1_putMass_0 : decode cX1_putMass 0 = .ok (.iload_n 3, 1) := by decide +kernel
theorem dX1_putMass_1 : decode cX1_putMass 1 = .ok (.bipush 64, 2) := by decide +kernel
theorem dX1_putMass_3 : decode cX1_putMass 3 = .ok (.imul, 1) := by decide +kernel
theorem dX1_putMass_4 : decode cX1_putMass 4 = .ok (.iload_n 1, 1) := by decide +kernel
theorem dX1_putMass_5 : decode cX1_putMass 5 = .ok (.iload_n 2, 1) := by decide +kernel
theorem dX1_putMass_6 : decode cX1_putMass 6 = .ok (.invokestatic 21, 3) := by decide +kernel
theorem dX1_putMass_9 : decode cX1_putMass 9 = .ok (.iadd, 1) := by decide +kernel
theorem dX1_putMass_10 : decode cX1_putMass 10 = .ok (.istore 6, 2) := by decide +kernel
theorem dX1_putMass_12 : decode cX1_putMass 12 = .ok (.aload_n 0, 1) := by decide +kernel
theorem dX1_putMass_13 : decode cX1_putMass 13 = .ok (.getfield 9, 3) := by decide +kernel
theorem dX1_putMass_16 : decode cX1_putMass 16 = .ok (.iload 6, 2) := by decide +kernel
theorem dX1_putMass_18 : decode cX1_putMass 18 = .ok (.laload, 1) := by decide +kernel
theorem dX1_putMass_19 : decode cX1_putMass 19 = .ok (.lstore 7, 2) := by decide +kernel
theorem dX1_putMass_21 : decode cX1_putMass 21 = .ok (.aload_n 0, 1) := by decide +kernel
theorem dX1_putMass_22 : decode cX1_putMass 22 = .ok (.getfield 9, 3) := by decide +kernel
theorem dX1_putMass_25 : decode cX1_putMass 25 = .ok (.iload 6, 2) := by decide +kernel
theorem dX1_putMass_27 : decode cX1_putMass 27 = .ok (.lload 4, 2) := by decide +kernel
theorem dX1_putMass_29 : decode cX1_putMass 29 = .ok (.lastore, 1) := by decide +kernel
theorem dX1_putMass_30 : decode cX1_putMass 30 = .ok (.aload_n 0, 1) := by decide +kernel
theorem dX1_putMass_31 : decode cX1_putMass 31 = .ok (.iload_n 1, 1) := by decide +kernel
theorem dX1_putMass_32 : decode cX1_putMass 32 = .ok (.iload_n 2, 1) := by decide +kernel
theorem dX1_putMass_33 : decode cX1_putMass 33 = .ok (.iload_n 3, 1) := by decide +kernel
theorem dX1_putMass_34 : decode cX1_putMass 34 = .ok (.lload 7, 2) := by decide +kernel
theorem dX1_putMass_36 : decode cX1_putMass 36 = .ok (.lload 4, 2) := by decide +kernel
theorem dX1_putMass_38 : decode cX1_putMass 38 = .ok (.invokevirtual 25, 3) := by decide +kernel
theorem dX1_putMass_41 : decode cX1_putMass 41 = .ok (.lload 7, 2) := by decide +kernel
theorem dX1_putMass_43 : decode cX1_putMass 43 = .ok (.lreturn, 1) := by decide +kernel
set_option maxRecDepth 20000 in
theorem ggX1_putWater_X5_cellNumber : GoodIn wsX1_putWater wsX5_cellNumber := goodIn_r _ [4] (by decide +kernel) (by decide +kernel)
set_option maxRecDepth 20000 in
theorem gX1_putWater_X5_cellNumber_n21 : GoodIn wsX1_putWater (wsX5_cellNumber) := ggX1_putWater_X5_cellNumber
set_option maxRecDepth 20000 in
theorem ggX1_putWater_X1_changePulls : GoodIn wsX1_putWater wsX1_changePulls := goodIn_r _ [9, 10, 11, 12, 8, 13, 2, 3, 4, 14, 15, 16, 17, 18, 19, 20] (by decide +kernel) (by decide +kernel)
set_option maxRecDepth 20000 in
theorem gX1_putWater_X1_changePulls : GoodIn wsX1_putWater (wsV RX1 25 RX1 yX1_changePulls wsX1_changePulls) := goodIn_app (goodIn_of _ (by decide +kernel)) ggX1_putWater_X1_changePulls
theorem dX1_putWater_0 : decode cX1_putWater 0 = .ok (.iload_n 1, 1) := by decide +kernel
theorem dX1_putWater_1 : decode cX1_putWater 1 = .ok (.iload_n 2, 1) := by decide +kernel
theorem dX1_putWater_2 : decode cX1_putWater 2 = .ok (.invokestatic 21, 3) := by decide +kernel
theorem dX1_putWater_5 : decode cX1_putWater 5 = .ok (.istore 5, 2) := by decide +kernel
theorem dX1_putWater_7 : decode cX1_putWater 7 = .ok (.aload_n 0, 1) := by decide +kernel
theorem dX1_putWater_8 : decode cX1_putWater 8 = .ok (.getfield 15, 3) := by decide +kernel
theorem dX1_putWater_11 : decode cX1_putWater 11 = .ok (.iload 5, 2) := by decide +kernel
theorem dX1_putWater_13 : decode cX1_putWater 13 = .ok (.laload, 1) := by decide +kernel
theorem dX1_putWater_14 : decode cX1_putWater 14 = .ok (.lstore 6, 2) := by decide +kernel
theorem dX1_putWater_16 : decode cX1_putWater 16 = .ok (.aload_n 0, 1) := by decide +kernel
theorem dX1_putWater_17 : decode cX1_putWater 17 = .ok (.getfield 15, 3) := by decide +kernel
theorem dX1_putWater_20 : decode cX1_putWater 20 = .ok (.iload 5, 2) := by decide +kernel
theorem dX1_putWater_22 : decode cX1_putWater 22 = .ok (.lload_n 3, 1) := by decide +kernel
theorem dX1_putWater_23 : decode cX1_putWater 23 = .ok (.lastore, 1) := by decide +kernel
theorem dX1_putWater_24 : decode cX1_putWater 24 = .ok (.aload_n 0, 1) := by decide +kernel
theorem dX1_putWater_25 : decode cX1_putWater 25 = .ok (.iload_n 1, 1) := by decide +kernel
theorem dX1_putWater_26 : decode cX1_putWater 26 = .ok (.iload_n 2, 1) := by decide +kernel
theorem dX1_putWater_27 : decode cX1_putWater 27 = .ok (.iconst 0, 1) := by decide +kernel
theorem dX1_putWater_28 : decode cX1_putWater 28 = .ok (.lload 6, 2) := by decide +kernel
theorem dX1_putWater_30 : decode cX1_putWater 30 = .ok (.lload_n 3, 1) := by decide +kernel
theorem dX1_putWater_31 : decode cX1_putWater 31 = .ok (.invokevirtual 25, 3) := by decide +kernel
theorem dX1_putWater_34 : decode cX1_putWater 34 = .ok (.lload 6, 2) := by decide +kernel
theorem dX1_putWater_36 : decode cX1_putWater 36 = .ok (.lreturn, 1) := by decide +kernel
set_option maxRecDepth 20000 in
theorem ggX1_changePulls_X1_squareOf : GoodIn wsX1_changePulls wsX1_squareOf := goodIn_r _ [5] (by decide +kernel) (by decide +kernel)
set_option maxRecDepth 20000 in
theorem gX1_changePulls_X1_squareOf : GoodIn wsX1_changePulls (va_wsS RX1 29 yX1_squareOf wsX1_squareOf) := goodIn_app (goodIn_of _ (by decide +kernel)) ggX1_changePulls_X1_squareOf
set_option maxRecDepth 20000 in
theorem ggX1_changePulls_X5_cellNumber : GoodIn wsX1_changePulls wsX5_cellNumber := goodIn_r _ [8] (by decide +kernel) (by decide +kernel)
set_option maxRecDepth 20000 in
theorem gX1_changePulls_X5_cellNumber_n21 : GoodIn wsX1_changePulls (wsX5_cellNumber) := ggX1_changePulls_X5_cellNumber
set_option maxRecDepth 20000 in
theorem ggX1_changePulls_X1_pullOf : GoodIn wsX1_changePulls wsX1_pullOf := goodIn_r _ [11, 12] (by decide +kernel) (by decide +kernel)
set_option maxRecDepth 20000 in
theorem gX1_changePulls_X1_pullOf : GoodIn wsX1_changePulls (va_wsS RX1 33 yX1_pullOf wsX1_pullOf) := goodIn_app (goodIn_of _ (by decide +kernel)) ggX1_changePulls_X1_pullOf
theorem dX1_changePulls_0 : decode cX1_changePulls 0 = .ok (.iconst 0, 1) := by decide +kernel
theorem dX1_changePulls_1 : decode cX1_changePulls 1 = .ok (.istore 8, 2) := by decide +kernel
theorem dX1_changePulls_3 : decode cX1_changePulls 3 = .ok (.iload 8, 2) := by decide +kernel
theorem dX1_changePulls_5 : decode cX1_changePulls 5 = .ok (.bipush 8, 2) := by decide +kernel
theorem dX1_changePulls_7 : decode cX1_changePulls 7 = .ok (.if_icmp .ge 69, 3) := by decide +kernel
theorem dX1_changePulls_10 : decode cX1_changePulls 10 = .ok (.iconst 0, 1) := by decide +kernel
theorem dX1_changePulls_11 : decode cX1_changePulls 11 = .ok (.istore 9, 2) := by decide +kernel
theorem dX1_changePulls_13 : decode cX1_changePulls 13 = .ok (.iload 9, 2) := by decide +kernel
theorem dX1_changePulls_15 : decode cX1_changePulls 15 = .ok (.bipush 8, 2) := by decide +kernel
theorem dX1_changePulls_17 : decode cX1_changePulls 17 = .ok (.if_icmp .ge 53, 3) := by decide +kernel
theorem dX1_changePulls_20 : decode cX1_changePulls 20 = .ok (.iload 9, 2) := by decide +kernel
theorem dX1_changePulls_22 : decode cX1_changePulls 22 = .ok (.iload_n 1, 1) := by decide +kernel
theorem dX1_changePulls_23 : decode cX1_changePulls 23 = .ok (.isub, 1) := by decide +kernel
theorem dX1_changePulls_24 : decode cX1_changePulls 24 = .ok (.iload 8, 2) := by decide +kernel
theorem dX1_changePulls_26 : decode cX1_changePulls 26 = .ok (.iload_n 2, 1) := by decide +kernel
theorem dX1_changePulls_27 : decode cX1_changePulls 27 = .ok (.isub, 1) := by decide +kernel
theorem dX1_changePulls_28 : decode cX1_changePulls 28 = .ok (.iload_n 3, 1) := by decide +kernel
theorem dX1_changePulls_29 : decode cX1_changePulls 29 = .ok (.invokestatic 29, 3) := by decide +kernel
theorem dX1_changePulls_32 : decode cX1_changePulls 32 = .ok (.lstore 10, 2) := by decide +kernel
theorem dX1_changePulls_34 : decode cX1_changePulls 34 = .ok (.aload_n 0, 1) := by decide +kernel
theorem dX1_changePulls_35 : decode cX1_changePulls 35 = .ok (.getfield 18, 3) := by decide +kernel
theorem dX1_changePulls_38 : decode cX1_changePulls 38 = .ok (.iload 9, 2) := by decide +kernel
theorem dX1_changePulls_40 : decode cX1_changePulls 40 = .ok (.iload 8, 2) := by decide +kernel
theorem dX1_changePulls_42 : decode cX1_changePulls 42 = .ok (.invokestatic 21, 3) := by decide +kernel
theorem dX1_changePulls_45 : decode cX1_changePulls 45 = .ok (.dup2, 1) := by decide +kernel
theorem dX1_changePulls_46 : decode cX1_changePulls 46 = .ok (.laload, 1) := by decide +kernel
theorem dX1_changePulls_47 : decode cX1_changePulls 47 = .ok (.lload 6, 2) := by decide +kernel
theorem dX1_changePulls_49 : decode cX1_changePulls 49 = .ok (.lload 10, 2) := by decide +kernel
theorem dX1_changePulls_51 : decode cX1_changePulls 51 = .ok (.invokestatic 33, 3) := by decide +kernel
theorem dX1_changePulls_54 : decode cX1_changePulls 54 = .ok (.lload 4, 2) := by decide +kernel
theorem dX1_changePulls_56 : decode cX1_changePulls 56 = .ok (.lload 10, 2) := by decide +kernel
theorem dX1_changePulls_58 : decode cX1_changePulls 58 = .ok (.invokestatic 33, 3) := by decide +kernel
theorem dX1_changePulls_61 : decode cX1_changePulls 61 = .ok (.lsub, 1) := by decide +kernel
theorem dX1_changePulls_62 : decode cX1_changePulls 62 = .ok (.ladd, 1) := by decide +kernel
theorem dX1_changePulls_63 : decode cX1_changePulls 63 = .ok (.lastore, 1) := by decide +kernel
theorem dX1_changePulls_64 : decode cX1_changePulls 64 = .ok (.iinc 9 1, 3) := by decide +kernel
theorem dX1_changePulls_67 : decode cX1_changePulls 67 = .ok (.goto (-54), 3) := by decide +kernel
theorem dX1_changePulls_70 : decode cX1_changePulls 70 = .ok (.iinc 8 1, 3) := by decide +kernel
theorem dX1_changePulls_73 : decode cX1_changePulls 73 = .ok (.goto (-70), 3) := by decide +kernel
theorem dX1_changePulls_76 : decode cX1_changePulls 76 = .ok (.return_, 1) := by decide +kernel
set_option maxRecDepth 20000 in
theorem ggX1_keptPull_X5_cellNumber : GoodIn wsX1_keptPull wsX5_cellNumber := goodIn_r _ [4] (by decide +kernel) (by decide +kernel)
set_option maxRecDepth 20000 in
theorem gX1_keptPull_X5_cellNumber_n21 : GoodIn wsX1_keptPull (wsX5_cellNumber) := ggX1_keptPull_X5_cellNumber
theorem dX1_keptPull_0 : decode cX1_keptPull 0 = .ok (.aload_n 0, 1) := by decide +kernel
theorem dX1_keptPull_1 : decode cX1_keptPull 1 = .ok (.getfield 18, 3) := by decide +kernel
theorem dX1_keptPull_4 : decode cX1_keptPull 4 = .ok (.iload_n 1, 1) := by decide +kernel
theorem dX1_keptPull_5 : decode cX1_keptPull 5 = .ok (.iload_n 2, 1) := by decide +kernel
theorem dX1_keptPull_6 : decode cX1_keptPull 6 = .ok (.invokestatic 21, 3) := by decide +kernel
theorem dX1_keptPull_9 : decode cX1_keptPull 9 = .ok (.laload, 1) := by decide +kernel
theorem dX1_keptPull_10 : decode cX1_keptPull 10 = .ok (.lreturn, 1) := by decide +kernel
set_option maxRecDepth 20000 in
theorem ggX1_summedPull_X5_cellNumber : GoodIn wsX1_summedPull wsX5_cellNumber := goodIn_r _ [5] (by decide +kernel) (by decide +kernel)
set_option maxRecDepth 20000 in
theorem gX1_summedPull_X5_cellNumber_n21 : GoodIn wsX1_summedPull (wsX5_cellNumber) := ggX1_summedPull_X5_cellNumber
set_option maxRecDepth 20000 in
theorem ggX1_summedPull_X1_squareOf : GoodIn wsX1_summedPull wsX1_squareOf := goodIn_r _ [9] (by decide +kernel) (by decide +kernel)
set_option maxRecDepth 20000 in
theorem gX1_summedPull_X1_squareOf : GoodIn wsX1_summedPull (va_wsS RX1 29 yX1_squareOf wsX1_squareOf) := goodIn_app (goodIn_of _ (by decide +kernel)) ggX1_summedPull_X1_squareOf
set_option maxRecDepth 20000 in
theorem ggX1_summedPull_X1_pullOf : GoodIn wsX1_summedPull wsX1_pullOf := goodIn_r _ [12, 13] (by decide +kernel) (by decide +kernel)
set_option maxRecDepth 20000 in
theorem gX1_summedPull_X1_pullOf : GoodIn wsX1_summedPull (va_wsS RX1 33 yX1_pullOf wsX1_pullOf) := goodIn_app (goodIn_of _ (by decide +kernel)) ggX1_summedPull_X1_pullOf
theorem dX1_summedPull_0 : decode cX1_summedPull 0 = .ok (.lconst 0, 1) := by decide +kernel
theorem dX1_summedPull_1 : decode cX1_summedPull 1 = .ok (.lstore_n 3, 1) := by decide +kernel
theorem dX1_summedPull_2 : decode cX1_summedPull 2 = .ok (.iconst 0, 1) := by decide +kernel
theorem dX1_summedPull_3 : decode cX1_summedPull 3 = .ok (.istore 5, 2) := by decide +kernel
theorem dX1_summedPull_5 : decode cX1_summedPull 5 = .ok (.iload 5, 2) := by decide +kernel
theorem dX1_summedPull_7 : decode cX1_summedPull 7 = .ok (.bipush 8, 2) := by decide +kernel
theorem dX1_summedPull_9 : decode cX1_summedPull 9 = .ok (.if_icmp .ge 106, 3) := by decide +kernel
theorem dX1_summedPull_12 : decode cX1_summedPull 12 = .ok (.iconst 0, 1) := by decide +kernel
theorem dX1_summedPull_13 : decode cX1_summedPull 13 = .ok (.istore 6, 2) := by decide +kernel
theorem dX1_summedPull_15 : decode cX1_summedPull 15 = .ok (.iload 6, 2) := by decide +kernel
theorem dX1_summedPull_17 : decode cX1_summedPull 17 = .ok (.bipush 8, 2) := by decide +kernel
theorem dX1_summedPull_19 : decode cX1_summedPull 19 = .ok (.if_icmp .ge 90, 3) := by decide +kernel
theorem dX1_summedPull_22 : decode cX1_summedPull 22 = .ok (.iload 6, 2) := by decide +kernel
theorem dX1_summedPull_24 : decode cX1_summedPull 24 = .ok (.iload 5, 2) := by decide +kernel
theorem dX1_summedPull_26 : decode cX1_summedPull 26 = .ok (.invokestatic 21, 3) := by decide +kernel
theorem dX1_summedPull_29 : decode cX1_summedPull 29 = .ok (.istore 7, 2) := by decide +kernel
theorem dX1_summedPull_31 : decode cX1_summedPull 31 = .ok (.lload_n 3, 1) := by decide +kernel
theorem dX1_summedPull_32 : decode cX1_summedPull 32 = .ok (.aload_n 0, 1) := by decide +kernel
theorem dX1_summedPull_33 : decode cX1_summedPull 33 = .ok (.getfield 15, 3) := by decide +kernel
theorem dX1_summedPull_36 : decode cX1_summedPull 36 = .ok (.iload 7, 2) := by decide +kernel
theorem dX1_summedPull_38 : decode cX1_summedPull 38 = .ok (.laload, 1) := by decide +kernel
theorem dX1_summedPull_39 : decode cX1_summedPull 39 = .ok (.iload 6, 2) := by decide +kernel
theorem dX1_summedPull_41 : decode cX1_summedPull 41 = .ok (.iload_n 1, 1) := by decide +kernel
theorem dX1_summedPull_42 : decode cX1_summedPull 42 = .ok (.isub, 1) := by decide +kernel
theorem dX1_summedPull_43 : decode cX1_summedPull 43 = .ok (.iload 5, 2) := by decide +kernel
theorem dX1_summedPull_45 : decode cX1_summedPull 45 = .ok (.iload_n 2, 1) := by decide +kernel
theorem dX1_summedPull_46 : decode cX1_summedPull 46 = .ok (.isub, 1) := by decide +kernel
theorem dX1_summedPull_47 : decode cX1_summedPull 47 = .ok (.iconst 0, 1) := by decide +kernel
theorem dX1_summedPull_48 : decode cX1_summedPull 48 = .ok (.invokestatic 29, 3) := by decide +kernel
theorem dX1_summedPull_51 : decode cX1_summedPull 51 = .ok (.invokestatic 33, 3) := by decide +kernel
theorem dX1_summedPull_54 : decode cX1_summedPull 54 = .ok (.ladd, 1) := by decide +kernel
theorem dX1_summedPull_55 : decode cX1_summedPull 55 = .ok (.lstore_n 3, 1) := by decide +kernel
theorem dX1_summedPull_56 : decode cX1_summedPull 56 = .ok (.iconst 0, 1) := by decide +kernel
theorem dX1_summedPull_57 : decode cX1_summedPull 57 = .ok (.istore 8, 2) := by decide +kernel
theorem dX1_summedPull_59 : decode cX1_summedPull 59 = .ok (.iload 8, 2) := by decide +kernel
theorem dX1_summedPull_61 : decode cX1_summedPull 61 = .ok (.iconst 3, 1) := by decide +kernel
theorem dX1_summedPull_62 : decode cX1_summedPull 62 = .ok (.if_icmp .ge 41, 3) := by decide +kernel
theorem dX1_summedPull_65 : decode cX1_summedPull 65 = .ok (.lload_n 3, 1) := by decide +kernel
theorem dX1_summedPull_66 : decode cX1_summedPull 66 = .ok (.aload_n 0, 1) := by decide +kernel
theorem dX1_summedPull_67 : decode cX1_summedPull 67 = .ok (.getfield 9, 3) := by decide +kernel
theorem dX1_summedPull_70 : decode cX1_summedPull 70 = .ok (.iload 8, 2) := by decide +kernel
theorem dX1_summedPull_72 : decode cX1_summedPull 72 = .ok (.bipush 64, 2) := by decide +kernel
theorem dX1_summedPull_74 : decode cX1_summedPull 74 = .ok (.imul, 1) := by decide +kernel
theorem dX1_summedPull_75 : decode cX1_summedPull 75 = .ok (.iload 7, 2) := by decide +kernel
theorem dX1_summedPull_77 : decode cX1_summedPull 77 = .ok (.iadd, 1) := by decide +kernel
theorem dX1_summedPull_78 : decode cX1_summedPull 78 = .ok (.laload, 1) := by decide +kernel
theorem dX1_summedPull_79 : decode cX1_summedPull 79 = .ok (.iload 6, 2) := by decide +kernel
theorem dX1_summedPull_81 : decode cX1_summedPull 81 = .ok (.iload_n 1, 1) := by decide +kernel
theorem dX1_summedPull_82 : decode cX1_summedPull 82 = .ok (.isub, 1) := by decide +kernel
theorem dX1_summedPull_83 : decode cX1_summedPull 83 = .ok (.iload 5, 2) := by decide +kernel
theorem dX1_summedPull_85 : decode cX1_summedPull 85 = .ok (.iload_n 2, 1) := by decide +kernel
theorem dX1_summedPull_86 : decode cX1_summedPull 86 = .ok (.isub, 1) := by decide +kernel
theorem dX1_summedPull_87 : decode cX1_summedPull 87 = .ok (.iload 8, 2) := by decide +kernel
theorem dX1_summedPull_89 : decode cX1_summedPull 89 = .ok (.invokestatic 29, 3) := by decide +kernel
theorem dX1_summedPull_92 : decode cX1_summedPull 92 = .ok (.invokestatic 33, 3) := by decide +kernel
theorem dX1_summedPull_95 : decode cX1_summedPull 95 = .ok (.ladd, 1) := by decide +kernel
theorem dX1_summedPull_96 : decode cX1_summedPull 96 = .ok (.lstore_n 3, 1) := by decide +kernel
theorem dX1_summedPull_97 : decode cX1_summedPull 97 = .ok (.iinc 8 1, 3) := by decide +kernel
theorem dX1_summedPull_100 : decode cX1_summedPull 100 = .ok (.goto (-41), 3) := by decide +kernel
theorem dX1_summedPull_103 : decode cX1_summedPull 103 = .ok (.iinc 6 1, 3) := by decide +kernel
theorem dX1_summedPull_106 : decode cX1_summedPull 106 = .ok (.goto (-91), 3) := by decide +kernel
theorem dX1_summedPull_109 : decode cX1_summedPull 109 = .ok (.iinc 5 1, 3) := by decide +kernel
theorem dX1_summedPull_112 : decode cX1_summedPull 112 = .ok (.goto (-107), 3) := by decide +kernel
theorem dX1_summedPull_115 : decode cX1_summedPull 115 = .ok (.lload_n 3, 1) := by decide +kernel
theorem dX1_summedPull_116 : decode cX1_summedPull 116 = .ok (.lreturn, 1) := by decide +kernel
theorem dX1_squareOf_0 : decode cX1_squareOf 0 = .ok (.iload_n 0, 1) := by decide +kernel
theorem dX1_squareOf_1 : decode cX1_squareOf 1 = .ok (.iload_n 0, 1) := by decide +kernel
theorem dX1_squareOf_2 : decode cX1_squareOf 2 = .ok (.imul, 1) := by decide +kernel
theorem dX1_squareOf_3 : decode cX1_squareOf 3 = .ok (.iload_n 1, 1) := by decide +kernel
theorem dX1_squareOf_4 : decode cX1_squareOf 4 = .ok (.iload_n 1, 1) := by decide +kernel
theorem dX1_squareOf_5 : decode cX1_squareOf 5 = .ok (.imul, 1) := by decide +kernel
theorem dX1_squareOf_6 : decode cX1_squareOf 6 = .ok (.iadd, 1) := by decide +kernel
theorem dX1_squareOf_7 : decode cX1_squareOf 7 = .ok (.iload_n 2, 1) := by decide +kernel
theorem dX1_squareOf_8 : decode cX1_squareOf 8 = .ok (.iconst 1, 1) := by decide +kernel
theorem dX1_squareOf_9 : decode cX1_squareOf 9 = .ok (.iadd, 1) := by decide +kernel
theorem dX1_squareOf_10 : decode cX1_squareOf 10 = .ok (.iload_n 2, 1) := by decide +kernel
theorem dX1_squareOf_11 : decode cX1_squareOf 11 = .ok (.iconst 1, 1) := by decide +kernel
theorem dX1_squareOf_12 : decode cX1_squareOf 12 = .ok (.iadd, 1) := by decide +kernel
theorem dX1_squareOf_13 : decode cX1_squareOf 13 = .ok (.imul, 1) := by decide +kernel
theorem dX1_squareOf_14 : decode cX1_squareOf 14 = .ok (.iadd, 1) := by decide +kernel
theorem dX1_squareOf_15 : decode cX1_squareOf 15 = .ok (.i2l, 1) := by decide +kernel
theorem dX1_squareOf_16 : decode cX1_squareOf 16 = .ok (.lreturn, 1) := by decide +kernel
theorem dX1_pullOf_0 : decode cX1_pullOf 0 = .ok (.lload_n 2, 1) := by decide +kernel
theorem dX1_pullOf_1 : decode cX1_pullOf 1 = .ok (.lconst 1, 1) := by decide +kernel
theorem dX1_pullOf_2 : decode cX1_pullOf 2 = .ok (.lcmp, 1) := by decide +kernel
theorem dX1_pullOf_3 : decode cX1_pullOf 3 = .ok (.ifCond .ge 7, 3) := by decide +kernel
theorem dX1_pullOf_6 : decode cX1_pullOf 6 = .ok (.lconst 0, 1) := by decide +kernel
theorem dX1_pullOf_7 : decode cX1_pullOf 7 = .ok (.goto 10, 3) := by decide +kernel
theorem dX1_pullOf_10 : decode cX1_pullOf 10 = .ok (.lload_n 0, 1) := by decide +kernel
theorem dX1_pullOf_11 : decode cX1_pullOf 11 = .ok (.ldc2_w 37, 3) := by decide +kernel
theorem dX1_pullOf_14 : decode cX1_pullOf 14 = .ok (.lmul, 1) := by decide +kernel
theorem dX1_pullOf_15 : decode cX1_pullOf 15 = .ok (.lload_n 2, 1) := by decide +kernel
theorem dX1_pullOf_16 : decode cX1_pullOf 16 = .ok (.ldiv, 1) := by decide +kernel
theorem dX1_pullOf_17 : decode cX1_pullOf 17 = .ok (.lreturn, 1) := by decide +kernel
theorem dX2_init_0 : decode cX2_init 0 = .ok (.aload_n 0, 1) := by decide +kernel
theorem dX2_init_1 : decode cX2_init 1 = .ok (.invokespecial 1, 3) := by decide +kernel
theorem dX2_init_4 : decode cX2_init 4 = .ok (.aload_n 0, 1) := by decide +kernel
theorem dX2_init_5 : decode cX2_init 5 = .ok (.iconst 0, 1) := by decide +kernel
theorem dX2_init_6 : decode cX2_init 6 = .ok (.putfield 7, 3) := by decide +kernel
theorem dX2_init_9 : decode cX2_init 9 = .ok (.aload_n 0, 1) := by decide +kernel
theorem dX2_init_10 : decode cX2_init 10 = .ok (.iconst 1, 1) := by decide +kernel
theorem dX2_init_11 : decode cX2_init 11 = .ok (.putfield 13, 3) := by decide +kernel
theorem dX2_init_14 : decode cX2_init 14 = .ok (.return_, 1) := by decide +kernel
theorem dX2_put_0 : decode cX2_put 0 = .ok (.aload_n 0, 1) := by decide +kernel
theorem dX2_put_1 : decode cX2_put 1 = .ok (.getfield 7, 3) := by decide +kernel
theorem dX2_put_4 : decode cX2_put 4 = .ok (.istore_n 3, 1) := by decide +kernel
theorem dX2_put_5 : decode cX2_put 5 = .ok (.aload_n 0, 1) := by decide +kernel
theorem dX2_put_6 : decode cX2_put 6 = .ok (.iload_n 1, 1) := by decide +kernel
theorem dX2_put_7 : decode cX2_put 7 = .ok (.putfield 7, 3) := by decide +kernel
theorem dX2_put_10 : decode cX2_put 10 = .ok (.aload_n 0, 1) := by decide +kernel
theorem dX2_put_11 : decode cX2_put 11 = .ok (.iload_n 2, 1) := by decide +kernel
theorem dX2_put_12 : decode cX2_put 12 = .ok (.putfield 13, 3) := by decide +kernel
theorem dX2_put_15 : decode cX2_put 15 = .ok (.iload_n 3, 1) := by decide +kernel
theorem dX2_put_16 : decode cX2_put 16 = .ok (.ireturn, 1) := by decide +kernel
theorem dX2_tideIn_0 : decode cX2_tideIn 0 = .ok (.aload_n 0, 1) := by decide +kernel
theorem dX2_tideIn_1 : decode cX2_tideIn 1 = .ok (.getfield 13, 3) := by decide +kernel
theorem dX2_tideIn_4 : decode cX2_tideIn 4 = .ok (.iconst 1, 1) := by decide +kernel
theorem dX2_tideIn_5 : decode cX2_tideIn 5 = .ok (.if_icmp .lt 22, 3) := by decide +kernel
theorem dX2_tideIn_8 : decode cX2_tideIn 8 = .ok (.iload_n 1, 1) := by decide +kernel
theorem dX2_tideIn_9 : decode cX2_tideIn 9 = .ok (.aload_n 0, 1) := by decide +kernel
theorem dX2_tideIn_10 : decode cX2_tideIn 10 = .ok (.getfield 13, 3) := by decide +kernel
theorem dX2_tideIn_13 : decode cX2_tideIn 13 = .ok (.irem, 1) := by decide +kernel
theorem dX2_tideIn_14 : decode cX2_tideIn 14 = .ok (.aload_n 0, 1) := by decide +kernel
theorem dX2_tideIn_15 : decode cX2_tideIn 15 = .ok (.getfield 13, 3) := by decide +kernel
theorem dX2_tideIn_18 : decode cX2_tideIn 18 = .ok (.iconst 2, 1) := by decide +kernel
theorem dX2_tideIn_19 : decode cX2_tideIn 19 = .ok (.idiv, 1) := by decide +kernel
theorem dX2_tideIn_20 : decode cX2_tideIn 20 = .ok (.if_icmp .ge 7, 3) := by decide +kernel
theorem dX2_tideIn_23 : decode cX2_tideIn 23 = .ok (.iconst 1, 1) := by decide +kernel
theorem dX2_tideIn_24 : decode cX2_tideIn 24 = .ok (.goto 4, 3) := by decide +kernel
theorem dX2_tideIn_27 : decode cX2_tideIn 27 = .ok (.iconst 0, 1) := by decide +kernel
theorem dX2_tideIn_28 : decode cX2_tideIn 28 = .ok (.istore_n 2, 1) := by decide +kernel
theorem dX2_tideIn_29 : decode cX2_tideIn 29 = .ok (.iload_n 2, 1) := by decide +kernel
theorem dX2_tideIn_30 : decode cX2_tideIn 30 = .ok (.ifCond .eq 11, 3) := by decide +kernel
theorem dX2_tideIn_33 : decode cX2_tideIn 33 = .ok (.aload_n 0, 1) := by decide +kernel
theorem dX2_tideIn_34 : decode cX2_tideIn 34 = .ok (.getfield 7, 3) := by decide +kernel
theorem dX2_tideIn_37 : decode cX2_tideIn 37 = .ok (.i2l, 1) := by decide +kernel
theorem dX2_tideIn_38 : decode cX2_tideIn 38 = .ok (.goto 9, 3) := by decide +kernel
theorem dX2_tideIn_41 : decode cX2_tideIn 41 = .ok (.aload_n 0, 1) := by decide +kernel
theorem dX2_tideIn_42 : decode cX2_tideIn 42 = .ok (.getfield 7, 3) := by decide +kernel
theorem dX2_tideIn_45 : decode cX2_tideIn 45 = .ok (.ineg, 1) := by decide +kernel
theorem dX2_tideIn_46 : decode cX2_tideIn 46 = .ok (.i2l, 1) := by decide +kernel
theorem dX2_tideIn_47 : decode cX2_tideIn 47 = .ok (.lreturn, 1) := by decide +kernel
theorem dX3_init_0 : decode cX3_init 0 = .ok (.aload_n 0, 1) := by decide +kernel
theorem dX3_init_1 : decode cX3_init 1 = .ok (.invokespecial 3, 3) := by decide +kernel
theorem dX3_init_4 : decode cX3_init 4 = .ok (.aload_n 0, 1) := by decide +kernel
theorem dX3_init_5 : decode cX3_init 5 = .ok (.bipush 6, 2) := by decide +kernel
theorem dX3_init_7 : decode cX3_init 7 = .ok (.newarray .int, 2) := by decide +kernel
theorem dX3_init_9 : decode cX3_init 9 = .ok (.putfield 9, 3) := by decide +kernel
theorem dX3_init_12 : decode cX3_init 12 = .ok (.aload_n 0, 1) := by decide +kernel
theorem dX3_init_13 : decode cX3_init 13 = .ok (.bipush 6, 2) := by decide +kernel
theorem dX3_init_15 : decode cX3_init 15 = .ok (.newarray .int, 2) := by decide +kernel
theorem dX3_init_17 : decode cX3_init 17 = .ok (.putfield 15, 3) := by decide +kernel
theorem dX3_init_20 : decode cX3_init 20 = .ok (.aload_n 0, 1) := by decide +kernel
theorem dX3_init_21 : decode cX3_init 21 = .ok (.bipush 6, 2) := by decide +kernel
theorem dX3_init_23 : decode cX3_init 23 = .ok (.newarray .int, 2) := by decide +kernel
theorem dX3_init_25 : decode cX3_init 25 = .ok (.putfield 18, 3) := by decide +kernel
theorem dX3_init_28 : decode cX3_init 28 = .ok (.aload_n 0, 1) := by decide +kernel
theorem dX3_init_29 : decode cX3_init 29 = .ok (.iconst 0, 1) := by decide +kernel
theorem dX3_init_30 : decode cX3_init 30 = .ok (.putfield 21, 3) := by decide +kernel
theorem dX3_init_33 : decode cX3_init 33 = .ok (.return_, 1) := by decide +kernel
theorem dX3_add_0 : decode cX3_add 0 = .ok (.aload_n 0, 1) := by decide +kernel
theorem dX3_add_1 : decode cX3_add 1 = .ok (.getfield 9, 3) := by decide +kernel
theorem dX3_add_4 : decode cX3_add 4 = .ok (.aload_n 0, 1) := by decide +kernel
theorem dX3_add_5 : decode cX3_add 5 = .ok (.getfield 21, 3) := by decide +kernel
theorem dX3_add_8 : decode cX3_add 8 = .ok (.iload_n 1, 1) := by decide +kernel
theorem dX3_add_9 : decode cX3_add 9 = .ok (.iastore, 1) := by decide +kernel
theorem dX3_add_10 : decode cX3_add 10 = .ok (.aload_n 0, 1) := by decide +kernel
theorem dX3_add_11 : decode cX3_add 11 = .ok (.getfield 15, 3) := by decide +kernel
theorem dX3_add_14 : decode cX3_add 14 = .ok (.aload_n 0, 1) := by decide +kernel
theorem dX3_add_15 : decode cX3_add 15 = .ok (.getfield 21, 3) := by decide +kernel
theorem dX3_add_18 : decode cX3_add 18 = .ok (.iload_n 2, 1) := by decide +kernel
theorem dX3_add_19 : decode cX3_add 19 = .ok (.iastore, 1) := by decide +kernel
theorem dX3_add_20 : decode cX3_add 20 = .ok (.aload_n 0, 1) := by decide +kernel
theorem dX3_add_21 : decode cX3_add 21 = .ok (.getfield 18, 3) := by decide +kernel
theorem dX3_add_24 : decode cX3_add 24 = .ok (.aload_n 0, 1) := by decide +kernel
theorem dX3_add_25 : decode cX3_add 25 = .ok (.getfield 21, 3) := by decide +kernel
theorem dX3_add_28 : decode cX3_add 28 = .ok (.iload_n 3, 1) := by decide +kernel
theorem dX3_add_29 : decode cX3_add 29 = .ok (.iastore, 1) := by decide +kernel
theorem dX3_add_30 : decode cX3_add 30 = .ok (.aload_n 0, 1) := by decide +kernel
theorem dX3_add_31 : decode cX3_add 31 = .ok (.dup, 1) := by decide +kernel
theorem dX3_add_32 : decode cX3_add 32 = .ok (.getfield 21, 3) := by decide +kernel
theorem dX3_add_35 : decode cX3_add 35 = .ok (.iconst 1, 1) := by decide +kernel
theorem dX3_add_36 : decode cX3_add 36 = .ok (.iadd, 1) := by decide +kernel
theorem dX3_add_37 : decode cX3_add 37 = .ok (.putfield 21, 3) := by decide +kernel
theorem dX3_add_40 : decode cX3_add 40 = .ok (.aload_n 0, 1) := by decide +kernel
theorem dX3_add_41 : decode cX3_add 41 = .ok (.getfield 21, 3) := by decide +kernel
theorem dX3_add_44 : decode cX3_add 44 = .ok (.iconst 1, 1) := by decide +kernel
theorem dX3_add_45 : decode cX3_add 45 = .ok (.isub, 1) := by decide +kernel
theorem dX3_add_46 : decode cX3_add 46 = .ok (.ireturn, 1) := by decide +kernel
theorem dX3_offIn_0 : decode cX3_offIn 0 = .ok (.aload_n 0, 1) := by decide +kernel
theorem dX3_offIn_1 : decode cX3_offIn 1 = .ok (.getfield 9, 3) := by decide +kernel
theorem dX3_offIn_4 : decode cX3_offIn 4 = .ok (.iload_n 1, 1) := by decide +kernel
theorem dX3_offIn_5 : decode cX3_offIn 5 = .ok (.iaload, 1) := by decide +kernel
theorem dX3_offIn_6 : decode cX3_offIn 6 = .ok (.ifCond .ne 13, 3) := by decide +kernel
theorem dX3_offIn_9 : decode cX3_offIn 9 = .ok (.aload_n 0, 1) := by decide +kernel
theorem dX3_offIn_10 : decode cX3_offIn 10 = .ok (.getfield 15, 3) := by decide +kernel
theorem dX3_offIn_13 : decode cX3_offIn 13 = .ok (.iload_n 1, 1) := by decide +kernel
theorem dX3_offIn_14 : decode cX3_offIn 14 = .ok (.iaload, 1) := by decide +kernel
theorem dX3_offIn_15 : decode cX3_offIn 15 = .ok (.i2l, 1) := by decide +kernel
theorem dX3_offIn_16 : decode cX3_offIn 16 = .ok (.goto 20, 3) := by decide +kernel
theorem dX3_offIn_19 : decode cX3_offIn 19 = .ok (.aload_n 0, 1) := by decide +kernel
theorem dX3_offIn_20 : decode cX3_offIn 20 = .ok (.getfield 15, 3) := by decide +kernel
theorem dX3_offIn_23 : decode cX3_offIn 23 = .ok (.iload_n 1, 1) := by decide +kernel
theorem dX3_offIn_24 : decode cX3_offIn 24 = .ok (.iaload, 1) := by decide +kernel
theorem dX3_offIn_25 : decode cX3_offIn 25 = .ok (.i2l, 1) := by decide +kernel
theorem dX3_offIn_26 : decode cX3_offIn 26 = .ok (.iload_n 2, 1) := by decide +kernel
theorem dX3_offIn_27 : decode cX3_offIn 27 = .ok (.aload_n 0, 1) := by decide +kernel
theorem dX3_offIn_28 : decode cX3_offIn 28 = .ok (.getfield 18, 3) := by decide +kernel
theorem dX3_offIn_31 : decode cX3_offIn 31 = .ok (.iload_n 1, 1) := by decide +kernel
theorem dX3_offIn_32 : decode cX3_offIn 32 = .ok (.iaload, 1) := by decide +kernel
theorem dX3_offIn_33 : decode cX3_offIn 33 = .ok (.isub, 1) := by decide +kernel
theorem dX3_offIn_34 : decode cX3_offIn 34 = .ok (.i2l, 1) := by decide +kernel
theorem dX3_offIn_35 : decode cX3_offIn 35 = .ok (.lmul, 1) := by decide +kernel
theorem dX3_offIn_36 : decode cX3_offIn 36 = .ok (.lreturn, 1) := by decide +kernel
theorem dX4_init_0 : decode cX4_init 0 = .ok (.aload_n 0, 1) := by decide +kernel
theorem dX4_init_1 : decode cX4_init 1 = .ok (.invokespecial 3, 3) := by decide +kernel
theorem dX4_init_4 : decode cX4_init 4 = .ok (.aload_n 0, 1) := by decide +kernel
theorem dX4_init_5 : decode cX4_init 5 = .ok (.bipush 24, 2) := by decide +kernel
theorem dX4_init_7 : decode cX4_init 7 = .ok (.newarray .int, 2) := by decide +kernel
theorem dX4_init_9 : decode cX4_init 9 = .ok (.putfield 9, 3) := by decide +kernel
theorem dX4_init_12 : decode cX4_init 12 = .ok (.aload_n 0, 1) := by decide +kernel
theorem dX4_init_13 : decode cX4_init 13 = .ok (.bipush 24, 2) := by decide +kernel
theorem dX4_init_15 : decode cX4_init 15 = .ok (.newarray .int, 2) := by decide +kernel
theorem dX4_init_17 : decode cX4_init 17 = .ok (.putfield 15, 3) := by decide +kernel
theorem dX4_init_20 : decode cX4_init 20 = .ok (.aload_n 0, 1) := by decide +kernel
theorem dX4_init_21 : decode cX4_init 21 = .ok (.bipush 24, 2) := by decide +kernel
theorem dX4_init_23 : decode cX4_init 23 = .ok (.newarray .int, 2) := by decide +kernel
theorem dX4_init_25 : decode cX4_init 25 = .ok (.putfield 18, 3) := by decide +kernel
theorem dX4_init_28 : decode cX4_init 28 = .ok (.aload_n 0, 1) := by decide +kernel
theorem dX4_init_29 : decode cX4_init 29 = .ok (.bipush 24, 2) := by decide +kernel
theorem dX4_init_31 : decode cX4_init 31 = .ok (.newarray .int, 2) := by decide +kernel
theorem dX4_init_33 : decode cX4_init 33 = .ok (.putfield 21, 3) := by decide +kernel
theorem dX4_init_36 : decode cX4_init 36 = .ok (.aload_n 0, 1) := by decide +kernel
theorem dX4_init_37 : decode cX4_init 37 = .ok (.bipush 10, 2) := by decide +kernel
theorem dX4_init_39 : decode cX4_init 39 = .ok (.newarray .int, 2) := by decide +kernel
theorem dX4_init_41 : decode cX4_init 41 = .ok (.putfield 24, 3) := by decide +kernel
theorem dX4_init_44 : decode cX4_init 44 = .ok (.aload_n 0, 1) := by decide +kernel
theorem dX4_init_45 : decode cX4_init 45 = .ok (.bipush 10, 2) := by decide +kernel
theorem dX4_init_47 : decode cX4_init 47 = .ok (.newarray .int, 2) := by decide +kernel
theorem dX4_init_49 : decode cX4_init 49 = .ok (.putfield 27, 3) := by decide +kernel
theorem dX4_init_52 : decode cX4_init 52 = .ok (.aload_n 0, 1) := by decide +kernel
theorem dX4_init_53 : decode cX4_init 53 = .ok (.bipush 10, 2) := by decide +kernel
theorem dX4_init_55 : decode cX4_init 55 = .ok (.newarray .int, 2) := by decide +kernel
theorem dX4_init_57 : decode cX4_init 57 = .ok (.putfield 30, 3) := by decide +kernel
theorem dX4_init_60 : decode cX4_init 60 = .ok (.aload_n 0, 1) := by decide +kernel
theorem dX4_init_61 : decode cX4_init 61 = .ok (.iconst 0, 1) := by decide +kernel
theorem dX4_init_62 : decode cX4_init 62 = .ok (.putfield 33, 3) := by decide +kernel
theorem dX4_init_65 : decode cX4_init 65 = .ok (.aload_n 0, 1) := by decide +kernel
theorem dX4_init_66 : decode cX4_init 66 = .ok (.iconst 0, 1) := by decide +kernel
theorem dX4_init_67 : decode cX4_init 67 = .ok (.putfield 37, 3) := by decide +kernel
theorem dX4_init_70 : decode cX4_init 70 = .ok (.return_, 1) := by decide +kernel
theorem dX4_addBenchmark_0 : decode cX4_addBenchmark 0 = .ok (.aload_n 0, 1) := by decide +kernel
theorem dX4_addBenchmark_1 : decode cX4_addBenchmark 1 = .ok (.dup, 1) := by decide +kernel
theorem dX4_addBenchmark_2 : decode cX4_addBenchmark 2 = .ok (.getfield 33, 3) := by decide +kernel
theorem dX4_addBenchmark_5 : decode cX4_addBenchmark 5 = .ok (.iconst 1, 1) := by decide +kernel
theorem dX4_addBenchmark_6 : decode cX4_addBenchmark 6 = .ok (.iadd, 1) := by decide +kernel
theorem dX4_addBenchmark_7 : decode cX4_addBenchmark 7 = .ok (.putfield 33, 3) := by decide +kernel
theorem dX4_addBenchmark_10 : decode cX4_addBenchmark 10 = .ok (.aload_n 0, 1) := by decide +kernel
theorem dX4_addBenchmark_11 : decode cX4_addBenchmark 11 = .ok (.getfield 33, 3) := by decide +kernel
theorem dX4_addBenchmark_14 : decode cX4_addBenchmark 14 = .ok (.iconst 1, 1) := by decide +kernel
theorem dX4_addBenchmark_15 : decode cX4_addBenchmark 15 = .ok (.isub, 1) := by decide +kernel
theorem dX4_addBenchmark_16 : decode cX4_addBenchmark 16 = .ok (.ireturn, 1) := by decide +kernel
theorem dX4_addLine_0 : decode cX4_addLine 0 = .ok (.aload_n 0, 1) := by decide +kernel
theorem dX4_addLine_1 : decode cX4_addLine 1 = .ok (.getfield 9, 3) := by decide +kernel
theorem dX4_addLine_4 : decode cX4_addLine 4 = .ok (.aload_n 0, 1) := by decide +kernel
theorem dX4_addLine_5 : decode cX4_addLine 5 = .ok (.getfield 37, 3) := by decide +kernel
theorem dX4_addLine_8 : decode cX4_addLine 8 = .ok (.iload_n 1, 1) := by decide +kernel
theorem dX4_addLine_9 : decode cX4_addLine 9 = .ok (.iastore, 1) := by decide +kernel
theorem dX4_addLine_10 : decode cX4_addLine 10 = .ok (.aload_n 0, 1) := by decide +kernel
theorem dX4_addLine_11 : decode cX4_addLine 11 = .ok (.getfield 15, 3) := by decide +kernel
theorem dX4_addLine_14 : decode cX4_addLine 14 = .ok (.aload_n 0, 1) := by decide +kernel
theorem dX4_addLine_15 : decode cX4_addLine 15 = .ok (.getfield 37, 3) := by decide +kernel
theorem dX4_addLine_18 : decode cX4_addLine 18 = .ok (.iload_n 2, 1) := by decide +kernel
theorem dX4_addLine_19 : decode cX4_addLine 19 = .ok (.iastore, 1) := by decide +kernel
theorem dX4_addLine_20 : decode cX4_addLine 20 = .ok (.aload_n 0, 1) := by decide +kernel
theorem dX4_addLine_21 : decode cX4_addLine 21 = .ok (.getfield 18, 3) := by decide +kernel
theorem dX4_addLine_24 : decode cX4_addLine 24 = .ok (.aload_n 0, 1) := by decide +kernel
theorem dX4_addLine_25 : decode cX4_addLine 25 = .ok (.getfield 37, 3) := by decide +kernel
theorem dX4_addLine_28 : decode cX4_addLine 28 = .ok (.iload_n 3, 1) := by decide +kernel
theorem dX4_addLine_29 : decode cX4_addLine 29 = .ok (.iastore, 1) := by decide +kernel
theorem dX4_addLine_30 : decode cX4_addLine 30 = .ok (.aload_n 0, 1) := by decide +kernel
theorem dX4_addLine_31 : decode cX4_addLine 31 = .ok (.getfield 21, 3) := by decide +kernel
theorem dX4_addLine_34 : decode cX4_addLine 34 = .ok (.aload_n 0, 1) := by decide +kernel
theorem dX4_addLine_35 : decode cX4_addLine 35 = .ok (.getfield 37, 3) := by decide +kernel
theorem dX4_addLine_38 : decode cX4_addLine 38 = .ok (.iload 4, 2) := by decide +kernel
theorem dX4_addLine_40 : decode cX4_addLine 40 = .ok (.iastore, 1) := by decide +kernel
theorem dX4_addLine_41 : decode cX4_addLine 41 = .ok (.aload_n 0, 1) := by decide +kernel
theorem dX4_addLine_42 : decode cX4_addLine 42 = .ok (.dup, 1) := by decide +kernel
theorem dX4_addLine_43 : decode cX4_addLine 43 = .ok (.getfield 37, 3) := by decide +kernel
theorem dX4_addLine_46 : decode cX4_addLine 46 = .ok (.iconst 1, 1) := by decide +kernel
theorem dX4_addLine_47 : decode cX4_addLine 47 = .ok (.iadd, 1) := by decide +kernel
theorem dX4_addLine_48 : decode cX4_addLine 48 = .ok (.putfield 37, 3) := by decide +kernel
theorem dX4_addLine_51 : decode cX4_addLine 51 = .ok (.aload_n 0, 1) := by decide +kernel
theorem dX4_addLine_52 : decode cX4_addLine 52 = .ok (.getfield 37, 3) := by decide +kernel
theorem dX4_addLine_55 : decode cX4_addLine 55 = .ok (.iconst 1, 1) := by decide +kernel
theorem dX4_addLine_56 : decode cX4_addLine 56 = .ok (.isub, 1) := by decide +kernel
theorem dX4_addLine_57 : decode cX4_addLine 57 = .ok (.ireturn, 1) := by decide +kernel
set_option maxRecDepth 20000 in
theorem ggX4_findHeights_X4_knowOnlyFirst : GoodIn wsX4_findHeights wsX4_knowOnlyFirst := goodIn_r _ [7] (by decide +kernel) (by decide +kernel)
set_option maxRecDepth 20000 in
theorem gX4_findHeights_X4_knowOnlyFirst : GoodIn wsX4_findHeights (va_wsS RX4 40 yX4_knowOnlyFirst wsX4_knowOnlyFirst) := goodIn_app (goodIn_of _ (by decide +kernel)) ggX4_findHeights_X4_knowOnlyFirst
set_option maxRecDepth 20000 in
theorem ggX4_findHeights_X4_surestLine : GoodIn wsX4_findHeights wsX4_surestLine := goodIn_r _ [11, 12, 13, 14, 15, 6, 16, 1, 17, 18, 19, 25, 26, 27, 28, 29, 30, 31, 32, 33] (by decide +kernel) (by decide +kernel)
set_option maxRecDepth 20000 in
theorem gX4_findHeights_X4_surestLine : GoodIn wsX4_findHeights (wsV RX4 44 RX4 yX4_surestLine wsX4_surestLine) := goodIn_app (goodIn_of _ (by decide +kernel)) ggX4_findHeights_X4_surestLine
set_option maxRecDepth 20000 in
theorem ggX4_findHeights_X4_goAlong : GoodIn wsX4_findHeights wsX4_goAlong := goodIn_r _ [23, 17, 18, 1, 19, 2, 24, 25, 26, 27, 28, 29, 30, 31, 32, 33] (by decide +kernel) (by decide +kernel)
set_option maxRecDepth 20000 in
theorem gX4_findHeights_X4_goAlong : GoodIn wsX4_findHeights (wsV RX4 48 RX4 yX4_goAlong wsX4_goAlong) := goodIn_app (goodIn_of _ (by decide +kernel)) ggX4_findHeights_X4_goAlong
theorem dX4_findHeights_0 : decode cX4_findHeights 0 = .ok (.aload_n 0, 1) := by decide +kernel
theorem dX4_findHeights_1 : decode cX4_findHeights 1 = .ok (.getfield 27, 3) := by decide +kernel
theorem dX4_findHeights_4 : decode cX4_findHeights 4 = .ok (.invokestatic 40, 3) := by decide +kernel
theorem dX4_findHeights_7 : decode cX4_findHeights 7 = .ok (.aload_n 0, 1) := by decide +kernel
theorem dX4_findHeights_8 : decode cX4_findHeights 8 = .ok (.getfield 24, 3) := by decide +kernel
theorem dX4_findHeights_11 : decode cX4_findHeights 11 = .ok (.iconst 0, 1) := by decide +kernel
theorem dX4_findHeights_12 : decode cX4_findHeights 12 = .ok (.iconst 0, 1) := by decide +kernel
theorem dX4_findHeights_13 : decode cX4_findHeights 13 = .ok (.iastore, 1) := by decide +kernel
theorem dX4_findHeights_14 : decode cX4_findHeights 14 = .ok (.iconst 1, 1) := by decide +kernel
theorem dX4_findHeights_15 : decode cX4_findHeights 15 = .ok (.istore_n 1, 1) := by decide +kernel
theorem dX4_findHeights_16 : decode cX4_findHeights 16 = .ok (.iload_n 1, 1) := by decide +kernel
theorem dX4_findHeights_17 : decode cX4_findHeights 17 = .ok (.aload_n 0, 1) := by decide +kernel
theorem dX4_findHeights_18 : decode cX4_findHeights 18 = .ok (.getfield 33, 3) := by decide +kernel
theorem dX4_findHeights_21 : decode cX4_findHeights 21 = .ok (.if_icmp .ge 25, 3) := by decide +kernel
theorem dX4_findHeights_24 : decode cX4_findHeights 24 = .ok (.aload_n 0, 1) := by decide +kernel
theorem dX4_findHeights_25 : decode cX4_findHeights 25 = .ok (.invokevirtual 44, 3) := by decide +kernel
theorem dX4_findHeights_28 : decode cX4_findHeights 28 = .ok (.istore_n 2, 1) := by decide +kernel
theorem dX4_findHeights_29 : decode cX4_findHeights 29 = .ok (.iload_n 2, 1) := by decide +kernel
theorem dX4_findHeights_30 : decode cX4_findHeights 30 = .ok (.iconst (-1), 1) := by decide +kernel
theorem dX4_findHeights_31 : decode cX4_findHeights 31 = .ok (.if_icmp .ne 4, 3) := by decide +kernel
theorem dX4_findHeights_34 : decode cX4_findHeights 34 = .ok (.return_, 1) := by decide +kernel
theorem dX4_findHeights_35 : decode cX4_findHeights 35 = .ok (.aload_n 0, 1) := by decide +kernel
theorem dX4_findHeights_36 : decode cX4_findHeights 36 = .ok (.iload_n 2, 1) := by decide +kernel
theorem dX4_findHeights_37 : decode cX4_findHeights 37 = .ok (.invokevirtual 48, 3) := by decide +kernel
theorem dX4_findHeights_40 : decode cX4_findHeights 40 = .ok (.iinc 1 1, 3) := by decide +kernel
theorem dX4_findHeights_43 : decode cX4_findHeights 43 = .ok (.goto (-27), 3) := by decide +kernel
theorem dX4_findHeights_46 : decode cX4_findHeights 46 = .ok (.return_, 1) := by decide +kernel
theorem dX4_knowOnlyFirst_0 : decode cX4_knowOnlyFirst 0 = .ok (.aload_n 0, 1) := by decide +kernel
theorem dX4_knowOnlyFirst_1 : decode cX4_knowOnlyFirst 1 = .ok (.iconst 0, 1) := by decide +kernel
theorem dX4_knowOnlyFirst_2 : decode cX4_knowOnlyFirst 2 = .ok (.iconst 0, 1) := by decide +kernel
theorem dX4_knowOnlyFirst_3 : decode cX4_knowOnlyFirst 3 = .ok (.iastore, 1) := by decide +kernel
theorem dX4_knowOnlyFirst_4 : decode cX4_knowOnlyFirst 4 = .ok (.iconst 1, 1) := by decide +kernel
theorem dX4_knowOnlyFirst_5 : decode cX4_knowOnlyFirst 5 = .ok (.istore_n 1, 1) := by decide +kernel
theorem dX4_knowOnlyFirst_6 : decode cX4_knowOnlyFirst 6 = .ok (.iload_n 1, 1) := by decide +kernel
theorem dX4_knowOnlyFirst_7 : decode cX4_knowOnlyFirst 7 = .ok (.bipush 10, 2) := by decide +kernel
theorem dX4_knowOnlyFirst_9 : decode cX4_knowOnlyFirst 9 = .ok (.if_icmp .ge 13, 3) := by decide +kernel
theorem dX4_knowOnlyFirst_12 : decode cX4_knowOnlyFirst 12 = .ok (.aload_n 0, 1) := by decide +kernel
theorem dX4_knowOnlyFirst_13 : decode cX4_knowOnlyFirst 13 = .ok (.iload_n 1, 1) := by decide +kernel
theorem dX4_knowOnlyFirst_14 : decode cX4_knowOnlyFirst 14 = .ok (.iconst (-1), 1) := by decide +kernel
theorem dX4_knowOnlyFirst_15 : decode cX4_knowOnlyFirst 15 = .ok (.iastore, 1) := by decide +kernel
theorem dX4_knowOnlyFirst_16 : decode cX4_knowOnlyFirst 16 = .ok (.iinc 1 1, 3) := by decide +kernel
theorem dX4_knowOnlyFirst_19 : decode cX4_knowOnlyFirst 19 = .ok (.goto (-13), 3) := by decide +kernel
theorem dX4_knowOnlyFirst_22 : decode cX4_knowOnlyFirst 22 = .ok (.return_, 1) := by decide +kernel
set_option maxRecDepth 20000 in
theorem ggX4_surestLine_X4_doubtBeyond : GoodIn wsX4_surestLine wsX4_doubtBeyond := goodIn_r _ [6, 7, 8, 9, 10, 11, 12, 13, 14, 15, 16, 17, 18, 19] (by decide +kernel) (by decide +kernel)
set_option maxRecDepth 20000 in
theorem gX4_surestLine_X4_doubtBeyond : GoodIn wsX4_surestLine (wsV RX4 52 RX4 yX4_doubtBeyond wsX4_doubtBeyond) := goodIn_app (goodIn_of _ (by decide +kernel)) ggX4_surestLine_X4_doubtBeyond
theorem dX4_surestLine_0 : decode cX4_surestLine 0 = .ok (.iconst (-1), 1) := by decide +kernel
theorem dX4_surestLine_1 : decode cX4_surestLine 1 = .ok (.istore_n 1, 1) := by decide +kernel
theorem dX4_surestLine_2 : decode cX4_surestLine 2 = .ok (.iconst (-1), 1) := by decide +kernel
theorem dX4_surestLine_3 : decode cX4_surestLine 3 = .ok (.istore_n 2, 1) := by decide +kernel
theorem dX4_surestLine_4 : decode cX4_surestLine 4 = .ok (.iconst 0, 1) := by decide +kernel
theorem dX4_surestLine_5 : decode cX4_surestLine 5 = .ok (.istore_n 3, 1) := by decide +kernel
theorem dX4_surestLine_6 : decode cX4_surestLine 6 = .ok (.iload_n 3, 1) := by decide +kernel
theorem dX4_surestLine_7 : decode cX4_surestLine 7 = .ok (.aload_n 0, 1) := by decide +kernel
theorem dX4_surestLine_8 : decode cX4_surestLine 8 = .ok (.getfield 37, 3) := by decide +kernel
theorem dX4_surestLine_11 : decode cX4_surestLine 11 = .ok (.if_icmp .ge 38, 3) := by decide +kernel
theorem dX4_surestLine_14 : decode cX4_surestLine 14 = .ok (.aload_n 0, 1) := by decide +kernel
theorem dX4_surestLine_15 : decode cX4_surestLine 15 = .ok (.iload_n 3, 1) := by decide +kernel
theorem dX4_surestLine_16 : decode cX4_surestLine 16 = .ok (.invokevirtual 52, 3) := by decide +kernel
theorem dX4_surestLine_19 : decode cX4_surestLine 19 = .ok (.istore 4, 2) := by decide +kernel
theorem dX4_surestLine_21 : decode cX4_surestLine 21 = .ok (.iload 4, 2) := by decide +kernel
theorem dX4_surestLine_23 : decode cX4_surestLine 23 = .ok (.iconst (-1), 1) := by decide +kernel
theorem dX4_surestLine_24 : decode cX4_surestLine 24 = .ok (.if_icmp .eq 19, 3) := by decide +kernel
theorem dX4_surestLine_27 : decode cX4_surestLine 27 = .ok (.iload_n 1, 1) := by decide +kernel
theorem dX4_surestLine_28 : decode cX4_surestLine 28 = .ok (.iconst (-1), 1) := by decide +kernel
theorem dX4_surestLine_29 : decode cX4_surestLine 29 = .ok (.if_icmp .eq 9, 3) := by decide +kernel
theorem dX4_surestLine_32 : decode cX4_surestLine 32 = .ok (.iload 4, 2) := by decide +kernel
theorem dX4_surestLine_34 : decode cX4_surestLine 34 = .ok (.iload_n 2, 1) := by decide +kernel
theorem dX4_surestLine_35 : decode cX4_surestLine 35 = .ok (.if_icmp .ge 8, 3) := by decide +kernel
theorem dX4_surestLine_38 : decode cX4_surestLine 38 = .ok (.iload_n 3, 1) := by decide +kernel
theorem dX4_surestLine_39 : decode cX4_surestLine 39 = .ok (.istore_n 1, 1) := by decide +kernel
theorem dX4_surestLine_40 : decode cX4_surestLine 40 = .ok (.iload 4, 2) := by decide +kernel
theorem dX4_surestLine_42 : decode cX4_surestLine 42 = .ok (.istore_n 2, 1) := by decide +kernel
theorem dX4_surestLine_43 : decode cX4_surestLine 43 = .ok (.iinc 3 1, 3) := by decide +kernel
theorem dX4_surestLine_46 : decode cX4_surestLine 46 = .ok (.goto (-40), 3) := by decide +kernel
theorem dX4_surestLine_49 : decode cX4_surestLine 49 = .ok (.iload_n 1, 1) := by decide +kernel
theorem dX4_surestLine_50 : decode cX4_surestLine 50 = .ok (.ireturn, 1) := by decide +kernel
theorem dX4_doubtBeyond_0 : decode cX4_doubtBeyond 0 = .ok (.aload_n 0, 1) := by decide +kernel
theorem dX4_doubtBeyond_1 : decode cX4_doubtBeyond 1 = .ok (.getfield 27, 3) := by decide +kernel
theorem dX4_doubtBeyond_4 : decode cX4_doubtBeyond 4 = .ok (.aload_n 0, 1) := by decide +kernel
theorem dX4_doubtBeyond_5 : decode cX4_doubtBeyond 5 = .ok (.getfield 9, 3) := by decide +kernel
theorem dX4_doubtBeyond_8 : decode cX4_doubtBeyond 8 = .ok (.iload_n 1, 1) := by decide +kernel
theorem dX4_doubtBeyond_9 : decode cX4_doubtBeyond 9 = .ok (.iaload, 1) := by decide +kernel
theorem dX4_doubtBeyond_10 : decode cX4_doubtBeyond 10 = .ok (.iaload, 1) := by decide +kernel
theorem dX4_doubtBeyond_11 : decode cX4_doubtBeyond 11 = .ok (.istore_n 2, 1) := by decide +kernel
theorem dX4_doubtBeyond_12 : decode cX4_doubtBeyond 12 = .ok (.aload_n 0, 1) := by decide +kernel
theorem dX4_doubtBeyond_13 : decode cX4_doubtBeyond 13 = .ok (.getfield 27, 3) := by decide +kernel
theorem dX4_doubtBeyond_16 : decode cX4_doubtBeyond 16 = .ok (.aload_n 0, 1) := by decide +kernel
theorem dX4_doubtBeyond_17 : decode cX4_doubtBeyond 17 = .ok (.getfield 15, 3) := by decide +kernel
theorem dX4_doubtBeyond_20 : decode cX4_doubtBeyond 20 = .ok (.iload_n 1, 1) := by decide +kernel
theorem dX4_doubtBeyond_21 : decode cX4_doubtBeyond 21 = .ok (.iaload, 1) := by decide +kernel
theorem dX4_doubtBeyond_22 : decode cX4_doubtBeyond 22 = .ok (.iaload, 1) := by decide +kernel
theorem dX4_doubtBeyond_23 : decode cX4_doubtBeyond 23 = .ok (.istore_n 3, 1) := by decide +kernel
theorem dX4_doubtBeyond_24 : decode cX4_doubtBeyond 24 = .ok (.iload_n 2, 1) := by decide +kernel
theorem dX4_doubtBeyond_25 : decode cX4_doubtBeyond 25 = .ok (.iconst (-1), 1) := by decide +kernel
theorem dX4_doubtBeyond_26 : decode cX4_doubtBeyond 26 = .ok (.if_icmp .ne 7, 3) := by decide +kernel
theorem dX4_doubtBeyond_29 : decode cX4_doubtBeyond 29 = .ok (.iconst 1, 1) := by decide +kernel
theorem dX4_doubtBeyond_30 : decode cX4_doubtBeyond 30 = .ok (.goto 4, 3) := by decide +kernel
theorem dX4_doubtBeyond_33 : decode cX4_doubtBeyond 33 = .ok (.iconst 0, 1) := by decide +kernel
theorem dX4_doubtBeyond_34 : decode cX4_doubtBeyond 34 = .ok (.iload_n 3, 1) := by decide +kernel
theorem dX4_doubtBeyond_35 : decode cX4_doubtBeyond 35 = .ok (.iconst (-1), 1) := by decide +kernel
theorem dX4_doubtBeyond_36 : decode cX4_doubtBeyond 36 = .ok (.if_icmp .ne 7, 3) := by decide +kernel
theorem dX4_doubtBeyond_39 : decode cX4_doubtBeyond 39 = .ok (.iconst 1, 1) := by decide +kernel
theorem dX4_doubtBeyond_40 : decode cX4_doubtBeyond 40 = .ok (.goto 4, 3) := by decide +kernel
theorem dX4_doubtBeyond_43 : decode cX4_doubtBeyond 43 = .ok (.iconst 0, 1) := by decide +kernel
theorem dX4_doubtBeyond_44 : decode cX4_doubtBeyond 44 = .ok (.if_icmp .ne 5, 3) := by decide +kernel
theorem dX4_doubtBeyond_47 : decode cX4_doubtBeyond 47 = .ok (.iconst (-1), 1) := by decide +kernel
theorem dX4_doubtBeyond_48 : decode cX4_doubtBeyond 48 = .ok (.ireturn, 1) := by decide +kernel
theorem dX4_doubtBeyond_49 : decode cX4_doubtBeyond 49 = .ok (.iload_n 2, 1) := by decide +kernel
theorem dX4_doubtBeyond_50 : decode cX4_doubtBeyond 50 = .ok (.iconst (-1), 1) := by decide +kernel
theorem dX4_doubtBeyond_51 : decode cX4_doubtBeyond 51 = .ok (.if_icmp .ne 7, 3) := by decide +kernel
theorem dX4_doubtBeyond_54 : decode cX4_doubtBeyond 54 = .ok (.iload_n 3, 1) := by decide +kernel
theorem dX4_doubtBeyond_55 : decode cX4_doubtBeyond 55 = .ok (.goto 4, 3) := by decide +kernel
theorem dX4_doubtBeyond_58 : decode cX4_doubtBeyond 58 = .ok (.iload_n 2, 1) := by decide +kernel
theorem dX4_doubtBeyond_59 : decode cX4_doubtBeyond 59 = .ok (.aload_n 0, 1) := by decide +kernel
theorem dX4_doubtBeyond_60 : decode cX4_doubtBeyond 60 = .ok (.getfield 21, 3) := by decide +kernel
theorem dX4_doubtBeyond_63 : decode cX4_doubtBeyond 63 = .ok (.iload_n 1, 1) := by decide +kernel
theorem dX4_doubtBeyond_64 : decode cX4_doubtBeyond 64 = .ok (.iaload, 1) := by decide +kernel
theorem dX4_doubtBeyond_65 : decode cX4_doubtBeyond 65 = .ok (.iadd, 1) := by decide +kernel
theorem dX4_doubtBeyond_66 : decode cX4_doubtBeyond 66 = .ok (.ireturn, 1) := by decide +kernel
theorem dX4_goAlong_0 : decode cX4_goAlong 0 = .ok (.aload_n 0, 1) := by decide +kernel
theorem dX4_goAlong_1 : decode cX4_goAlong 1 = .ok (.getfield 9, 3) := by decide +kernel
theorem dX4_goAlong_4 : decode cX4_goAlong 4 = .ok (.iload_n 1, 1) := by decide +kernel
theorem dX4_goAlong_5 : decode cX4_goAlong 5 = .ok (.iaload, 1) := by decide +kernel
theorem dX4_goAlong_6 : decode cX4_goAlong 6 = .ok (.istore_n 2, 1) := by decide +kernel
theorem dX4_goAlong_7 : decode cX4_goAlong 7 = .ok (.aload_n 0, 1) := by decide +kernel
theorem dX4_goAlong_8 : decode cX4_goAlong 8 = .ok (.getfield 15, 3) := by decide +kernel
theorem dX4_goAlong_11 : decode cX4_goAlong 11 = .ok (.iload_n 1, 1) := by decide +kernel
theorem dX4_goAlong_12 : decode cX4_goAlong 12 = .ok (.iaload, 1) := by decide +kernel
theorem dX4_goAlong_13 : decode cX4_goAlong 13 = .ok (.istore_n 3, 1) := by decide +kernel
theorem dX4_goAlong_14 : decode cX4_goAlong 14 = .ok (.aload_n 0, 1) := by decide +kernel
theorem dX4_goAlong_15 : decode cX4_goAlong 15 = .ok (.getfield 27, 3) := by decide +kernel
theorem dX4_goAlong_18 : decode cX4_goAlong 18 = .ok (.iload_n 3, 1) := by decide +kernel
theorem dX4_goAlong_19 : decode cX4_goAlong 19 = .ok (.iaload, 1) := by decide +kernel
theorem dX4_goAlong_20 : decode cX4_goAlong 20 = .ok (.iconst (-1), 1) := by decide +kernel
theorem dX4_goAlong_21 : decode cX4_goAlong 21 = .ok (.if_icmp .ne 44, 3) := by decide +kernel
theorem dX4_goAlong_24 : decode cX4_goAlong 24 = .ok (.aload_n 0, 1) := by decide +kernel
theorem dX4_goAlong_25 : decode cX4_goAlong 25 = .ok (.getfield 27, 3) := by decide +kernel
theorem dX4_goAlong_28 : decode cX4_goAlong 28 = .ok (.iload_n 3, 1) := by decide +kernel
theorem dX4_goAlong_29 : decode cX4_goAlong 29 = .ok (.aload_n 0, 1) := by decide +kernel
theorem dX4_goAlong_30 : decode cX4_goAlong 30 = .ok (.getfield 27, 3) := by decide +kernel
theorem dX4_goAlong_33 : decode cX4_goAlong 33 = .ok (.iload_n 2, 1) := by decide +kernel
theorem dX4_goAlong_34 : decode cX4_goAlong 34 = .ok (.iaload, 1) := by decide +kernel
theorem dX4_goAlong_35 : decode cX4_goAlong 35 = .ok (.aload_n 0, 1) := by decide +kernel
theorem dX4_goAlong_36 : decode cX4_goAlong 36 = .ok (.getfield 21, 3) := by decide +kernel
theorem dX4_goAlong_39 : decode cX4_goAlong 39 = .ok (.iload_n 1, 1) := by decide +kernel
theorem dX4_goAlong_40 : decode cX4_goAlong 40 = .ok (.iaload, 1) := by decide +kernel
theorem dX4_goAlong_41 : decode cX4_goAlong 41 = .ok (.iadd, 1) := by decide +kernel
theorem dX4_goAlong_42 : decode cX4_goAlong 42 = .ok (.iastore, 1) := by decide +kernel
theorem dX4_goAlong_43 : decode cX4_goAlong 43 = .ok (.aload_n 0, 1) := by decide +kernel
theorem dX4_goAlong_44 : decode cX4_goAlong 44 = .ok (.getfield 24, 3) := by decide +kernel
theorem dX4_goAlong_47 : decode cX4_goAlong 47 = .ok (.iload_n 3, 1) := by decide +kernel
theorem dX4_goAlong_48 : decode cX4_goAlong 48 = .ok (.aload_n 0, 1) := by decide +kernel
theorem dX4_goAlong_49 : decode cX4_goAlong 49 = .ok (.getfield 24, 3) := by decide +kernel
theorem dX4_goAlong_52 : decode cX4_goAlong 52 = .ok (.iload_n 2, 1) := by decide +kernel
theorem dX4_goAlong_53 : decode cX4_goAlong 53 = .ok (.iaload, 1) := by decide +kernel
theorem dX4_goAlong_54 : decode cX4_goAlong 54 = .ok (.aload_n 0, 1) := by decide +kernel
theorem dX4_goAlong_55 : decode cX4_goAlong 55 = .ok (.getfield 18, 3) := by decide +kernel
theorem dX4_goAlong_58 : decode cX4_goAlong 58 = .ok (.iload_n 1, 1) := by decide +kernel
theorem dX4_goAlong_59 : decode cX4_goAlong 59 = .ok (.iaload, 1) := by decide +kernel
theorem dX4_goAlong_60 : decode cX4_goAlong 60 = .ok (.iadd, 1) := by decide +kernel
theorem dX4_goAlong_61 : decode cX4_goAlong 61 = .ok (.iastore, 1) := by decide +kernel
theorem dX4_goAlong_62 : decode cX4_goAlong 62 = .ok (.goto 41, 3) := by decide +kernel
theorem dX4_goAlong_65 : decode cX4_goAlong 65 = .ok (.aload_n 0, 1) := by decide +kernel
theorem dX4_goAlong_66 : decode cX4_goAlong 66 = .ok (.getfield 27, 3) := by decide +kernel
theorem dX4_goAlong_69 : decode cX4_goAlong 69 = .ok (.iload_n 2, 1) := by decide +kernel
theorem dX4_goAlong_70 : decode cX4_goAlong 70 = .ok (.aload_n 0, 1) := by decide +kernel
theorem dX4_goAlong_71 : decode cX4_goAlong 71 = .ok (.getfield 27, 3) := by decide +kernel
theorem dX4_goAlong_74 : decode cX4_goAlong 74 = .ok (.iload_n 3, 1) := by decide +kernel
theorem dX4_goAlong_75 : decode cX4_goAlong 75 = .ok (.iaload, 1) := by decide +kernel
theorem dX4_goAlong_76 : decode cX4_goAlong 76 = .ok (.aload_n 0, 1) := by decide +kernel
theorem dX4_goAlong_77 : decode cX4_goAlong 77 = .ok (.getfield 21, 3) := by decide +kernel
theorem dX4_goAlong_80 : decode cX4_goAlong 80 = .ok (.iload_n 1, 1) := by decide +kernel
theorem dX4_goAlong_81 : decode cX4_goAlong 81 = .ok (.iaload, 1) := by decide +kernel
theorem dX4_goAlong_82 : decode cX4_goAlong 82 = .ok (.iadd, 1) := by decide +kernel
theorem dX4_goAlong_83 : decode cX4_goAlong 83 = .ok (.iastore, 1) := by decide +kernel
theorem dX4_goAlong_84 : decode cX4_goAlong 84 = .ok (.aload_n 0, 1) := by decide +kernel
theorem dX4_goAlong_85 : decode cX4_goAlong 85 = .ok (.getfield 24, 3) := by decide +kernel
theorem dX4_goAlong_88 : decode cX4_goAlong 88 = .ok (.iload_n 2, 1) := by decide +kernel
theorem dX4_goAlong_89 : decode cX4_goAlong 89 = .ok (.aload_n 0, 1) := by decide +kernel
theorem dX4_goAlong_90 : decode cX4_goAlong 90 = .ok (.getfield 24, 3) := by decide +kernel
theorem dX4_goAlong_93 : decode cX4_goAlong 93 = .ok (.iload_n 3, 1) := by decide +kernel
theorem dX4_goAlong_94 : decode cX4_goAlong 94 = .ok (.iaload, 1) := by decide +kernel
theorem dX4_goAlong_95 : decode cX4_goAlong 95 = .ok (.aload_n 0, 1) := by decide +kernel
theorem dX4_goAlong_96 : decode cX4_goAlong 96 = .ok (.getfield 18, 3) := by decide +kernel
theorem dX4_goAlong_99 : decode cX4_goAlong 99 = .ok (.iload_n 1, 1) := by decide +kernel
theorem dX4_goAlong_100 : decode cX4_goAlong 100 = .ok (.iaload, 1) := by decide +kernel
theorem dX4_goAlong_101 : decode cX4_goAlong 101 = .ok (.isub, 1) := by decide +kernel
theorem dX4_goAlong_102 : decode cX4_goAlong 102 = .ok (.iastore, 1) := by decide +kernel
theorem dX4_goAlong_103 : decode cX4_goAlong 103 = .ok (.return_, 1) := by decide +kernel
theorem dX4_contradicts_0 : decode cX4_contradicts 0 = .ok (.aload_n 0, 1) := by decide +kernel
theorem dX4_contradicts_1 : decode cX4_contradicts 1 = .ok (.getfield 9, 3) := by decide +kernel
theorem dX4_contradicts_4 : decode cX4_contradicts 4 = .ok (.iload_n 1, 1) := by decide +kernel
theorem dX4_contradicts_5 : decode cX4_contradicts 5 = .ok (.iaload, 1) := by decide +kernel
theorem dX4_contradicts_6 : decode cX4_contradicts 6 = .ok (.istore_n 2, 1) := by decide +kernel
theorem dX4_contradicts_7 : decode cX4_contradicts 7 = .ok (.aload_n 0, 1) := by decide +kernel
theorem dX4_contradicts_8 : decode cX4_contradicts 8 = .ok (.getfield 15, 3) := by decide +kernel
theorem dX4_contradicts_11 : decode cX4_contradicts 11 = .ok (.iload_n 1, 1) := by decide +kernel
theorem dX4_contradicts_12 : decode cX4_contradicts 12 = .ok (.iaload, 1) := by decide +kernel
theorem dX4_contradicts_13 : decode cX4_contradicts 13 = .ok (.istore_n 3, 1) := by decide +kernel
theorem dX4_contradicts_14 : decode cX4_contradicts 14 = .ok (.aload_n 0, 1) := by decide +kernel
theorem dX4_contradicts_15 : decode cX4_contradicts 15 = .ok (.getfield 27, 3) := by decide +kernel
theorem dX4_contradicts_18 : decode cX4_contradicts 18 = .ok (.iload_n 2, 1) := by decide +kernel
theorem dX4_contradicts_19 : decode cX4_contradicts 19 = .ok (.iaload, 1) := by decide +kernel
theorem dX4_contradicts_20 : decode cX4_contradicts 20 = .ok (.iconst (-1), 1) := by decide +kernel
theorem dX4_contradicts_21 : decode cX4_contradicts 21 = .ok (.if_icmp .eq 13, 3) := by decide +kernel
theorem dX4_contradicts_24 : decode cX4_contradicts 24 = .ok (.aload_n 0, 1) := by decide +kernel
theorem dX4_contradicts_25 : decode cX4_contradicts 25 = .ok (.getfield 27, 3) := by decide +kernel
theorem dX4_contradicts_28 : decode cX4_contradicts 28 = .ok (.iload_n 3, 1) := by decide +kernel
theorem dX4_contradicts_29 : decode cX4_contradicts 29 = .ok (.iaload, 1) := by decide +kernel
theorem dX4_contradicts_30 : decode cX4_contradicts 30 = .ok (.iconst (-1), 1) := by decide +kernel
theorem dX4_contradicts_31 : decode cX4_contradicts 31 = .ok (.if_icmp .ne 5, 3) := by decide +kernel
theorem dX4_contradicts_34 : decode cX4_contradicts 34 = .ok (.iconst 0, 1) := by decide +kernel
theorem dX4_contradicts_35 : decode cX4_contradicts 35 = .ok (.ireturn, 1) := by decide +kernel
theorem dX4_contradicts_36 : decode cX4_contradicts 36 = .ok (.aload_n 0, 1) := by decide +kernel
theorem dX4_contradicts_37 : decode cX4_contradicts 37 = .ok (.getfield 18, 3) := by decide +kernel
theorem dX4_contradicts_40 : decode cX4_contradicts 40 = .ok (.iload_n 1, 1) := by decide +kernel
theorem dX4_contradicts_41 : decode cX4_contradicts 41 = .ok (.iaload, 1) := by decide +kernel
theorem dX4_contradicts_42 : decode cX4_contradicts 42 = .ok (.aload_n 0, 1) := by decide +kernel
theorem dX4_contradicts_43 : decode cX4_contradicts 43 = .ok (.getfield 24, 3) := by decide +kernel
theorem dX4_contradicts_46 : decode cX4_contradicts 46 = .ok (.iload_n 3, 1) := by decide +kernel
theorem dX4_contradicts_47 : decode cX4_contradicts 47 = .ok (.iaload, 1) := by decide +kernel
theorem dX4_contradicts_48 : decode cX4_contradicts 48 = .ok (.aload_n 0, 1) := by decide +kernel
theorem dX4_contradicts_49 : decode cX4_contradicts 49 = .ok (.getfield 24, 3) := by decide +kernel
theorem dX4_contradicts_52 : decode cX4_contradicts 52 = .ok (.iload_n 2, 1) := by decide +kernel
theorem dX4_contradicts_53 : decode cX4_contradicts 53 = .ok (.iaload, 1) := by decide +kernel
theorem dX4_contradicts_54 : decode cX4_contradicts 54 = .ok (.isub, 1) := by decide +kernel
theorem dX4_contradicts_55 : decode cX4_contradicts 55 = .ok (.isub, 1) := by decide +kernel
theorem dX4_contradicts_56 : decode cX4_contradicts 56 = .ok (.invokestatic 56, 3) := by decide +kernel
theorem dX4_contradicts_59 : decode cX4_contradicts 59 = .ok (.istore 4, 2) := by decide +kernel
theorem dX4_contradicts_61 : decode cX4_contradicts 61 = .ok (.iload 4, 2) := by decide +kernel
theorem dX4_contradicts_63 : decode cX4_contradicts 63 = .ok (.aload_n 0, 1) := by decide +kernel
theorem dX4_contradicts_64 : decode cX4_contradicts 64 = .ok (.getfield 21, 3) := by decide +kernel
theorem dX4_contradicts_67 : decode cX4_contradicts 67 = .ok (.iload_n 1, 1) := by decide +kernel
theorem dX4_contradicts_68 : decode cX4_contradicts 68 = .ok (.iaload, 1) := by decide +kernel
theorem dX4_contradicts_69 : decode cX4_contradicts 69 = .ok (.aload_n 0, 1) := by decide +kernel
theorem dX4_contradicts_70 : decode cX4_contradicts 70 = .ok (.getfield 27, 3) := by decide +kernel
theorem dX4_contradicts_73 : decode cX4_contradicts 73 = .ok (.iload_n 2, 1) := by decide +kernel
theorem dX4_contradicts_74 : decode cX4_contradicts 74 = .ok (.iaload, 1) := by decide +kernel
theorem dX4_contradicts_75 : decode cX4_contradicts 75 = .ok (.iadd, 1) := by decide +kernel
theorem dX4_contradicts_76 : decode cX4_contradicts 76 = .ok (.aload_n 0, 1) := by decide +kernel
theorem dX4_contradicts_77 : decode cX4_contradicts 77 = .ok (.getfield 27, 3) := by decide +kernel
theorem dX4_contradicts_80 : decode cX4_contradicts 80 = .ok (.iload_n 3, 1) := by decide +kernel
theorem dX4_contradicts_81 : decode cX4_contradicts 81 = .ok (.iaload, 1) := by decide +kernel
theorem dX4_contradicts_82 : decode cX4_contradicts 82 = .ok (.iadd, 1) := by decide +kernel
theorem dX4_contradicts_83 : decode cX4_contradicts 83 = .ok (.if_icmp .le 7, 3) := by decide +kernel
theorem dX4_contradicts_86 : decode cX4_contradicts 86 = .ok (.iconst 1, 1) := by decide +kernel
theorem dX4_contradicts_87 : decode cX4_contradicts 87 = .ok (.goto 4, 3) := by decide +kernel
theorem dX4_contradicts_90 : decode cX4_contradicts 90 = .ok (.iconst 0, 1) := by decide +kernel
theorem dX4_contradicts_91 : decode cX4_contradicts 91 = .ok (.ireturn, 1) := by decide +kernel
set_option maxRecDepth 20000 in
theorem ggX4_tryAllLines_X4_knowOnlyFirst : GoodIn wsX4_tryAllLines wsX4_knowOnlyFirst := goodIn_r _ [6] (by decide +kernel) (by decide +kernel)
set_option maxRecDepth 20000 in
theorem gX4_tryAllLines_X4_knowOnlyFirst : GoodIn wsX4_tryAllLines (va_wsS RX4 40 yX4_knowOnlyFirst wsX4_knowOnlyFirst) := goodIn_app (goodIn_of _ (by decide +kernel)) ggX4_tryAllLines_X4_knowOnlyFirst
set_option maxRecDepth 20000 in
theorem ggX4_tryAllLines_X4_tryEachLine : GoodIn wsX4_tryAllLines wsX4_tryEachLine := goodIn_r _ [10, 11, 12, 13, 14, 15, 16, 17, 5, 18, 1, 19, 20, 21, 22, 23, 24, 25, 26, 27] (by decide +kernel) (by decide +kernel)
set_option maxRecDepth 20000 in
theorem gX4_tryAllLines_X4_tryEachLine : GoodIn wsX4_tryAllLines (wsV RX4 61 RX4 yX4_tryEachLine wsX4_tryEachLine) := goodIn_app (goodIn_of _ (by decide +kernel)) ggX4_tryAllLines_X4_tryEachLine
theorem dX4_tryAllLines_0 : decode cX4_tryAllLines 0 = .ok (.aload_n 0, 1) := by decide +kernel
theorem dX4_tryAllLines_1 : decode cX4_tryAllLines 1 = .ok (.getfield 30, 3) := by decide +kernel
theorem dX4_tryAllLines_4 : decode cX4_tryAllLines 4 = .ok (.invokestatic 40, 3) := by decide +kernel
theorem dX4_tryAllLines_7 : decode cX4_tryAllLines 7 = .ok (.iconst 1, 1) := by decide +kernel
theorem dX4_tryAllLines_8 : decode cX4_tryAllLines 8 = .ok (.istore_n 1, 1) := by decide +kernel
theorem dX4_tryAllLines_9 : decode cX4_tryAllLines 9 = .ok (.iconst 0, 1) := by decide +kernel
theorem dX4_tryAllLines_10 : decode cX4_tryAllLines 10 = .ok (.istore_n 2, 1) := by decide +kernel
theorem dX4_tryAllLines_11 : decode cX4_tryAllLines 11 = .ok (.iload_n 2, 1) := by decide +kernel
theorem dX4_tryAllLines_12 : decode cX4_tryAllLines 12 = .ok (.aload_n 0, 1) := by decide +kernel
theorem dX4_tryAllLines_13 : decode cX4_tryAllLines 13 = .ok (.getfield 33, 3) := by decide +kernel
theorem dX4_tryAllLines_16 : decode cX4_tryAllLines 16 = .ok (.if_icmp .ge 18, 3) := by decide +kernel
theorem dX4_tryAllLines_19 : decode cX4_tryAllLines 19 = .ok (.iload_n 1, 1) := by decide +kernel
theorem dX4_tryAllLines_20 : decode cX4_tryAllLines 20 = .ok (.ifCond .eq 14, 3) := by decide +kernel
theorem dX4_tryAllLines_23 : decode cX4_tryAllLines 23 = .ok (.aload_n 0, 1) := by decide +kernel
theorem dX4_tryAllLines_24 : decode cX4_tryAllLines 24 = .ok (.invokevirtual 61, 3) := by decide +kernel
theorem dX4_tryAllLines_27 : decode cX4_tryAllLines 27 = .ok (.istore_n 1, 1) := by decide +kernel
theorem dX4_tryAllLines_28 : decode cX4_tryAllLines 28 = .ok (.iinc 2 1, 3) := by decide +kernel
theorem dX4_tryAllLines_31 : decode cX4_tryAllLines 31 = .ok (.goto (-20), 3) := by decide +kernel
theorem dX4_tryAllLines_34 : decode cX4_tryAllLines 34 = .ok (.return_, 1) := by decide +kernel
set_option maxRecDepth 20000 in
theorem ggX4_tryEachLine_X4_makesLess : GoodIn wsX4_tryEachLine wsX4_makesLess := goodIn_r _ [9, 10, 11, 12, 13, 14, 15, 16, 17, 18, 19] (by decide +kernel) (by decide +kernel)
set_option maxRecDepth 20000 in
theorem gX4_tryEachLine_X4_makesLess : GoodIn wsX4_tryEachLine (wsV RX4 65 RX4 yX4_makesLess wsX4_makesLess) := goodIn_app (goodIn_of _ (by decide +kernel)) ggX4_tryEachLine_X4_makesLess
theorem dX4_tryEachLine_0 : decode cX4_tryEachLine 0 = .ok (.iconst 0, 1) := by decide +kernel
theorem dX4_tryEachLine_1 : decode cX4_tryEachLine 1 = .ok (.istore_n 1, 1) := by decide +kernel
theorem dX4_tryEachLine_2 : decode cX4_tryEachLine 2 = .ok (.iconst 0, 1) := by decide +kernel
theorem dX4_tryEachLine_3 : decode cX4_tryEachLine 3 = .ok (.istore_n 2, 1) := by decide +kernel
theorem dX4_tryEachLine_4 : decode cX4_tryEachLine 4 = .ok (.iload_n 2, 1) := by decide +kernel
theorem dX4_tryEachLine_5 : decode cX4_tryEachLine 5 = .ok (.aload_n 0, 1) := by decide +kernel
theorem dX4_tryEachLine_6 : decode cX4_tryEachLine 6 = .ok (.getfield 37, 3) := by decide +kernel
theorem dX4_tryEachLine_9 : decode cX4_tryEachLine 9 = .ok (.if_icmp .ge 61, 3) := by decide +kernel
theorem dX4_tryEachLine_12 : decode cX4_tryEachLine 12 = .ok (.aload_n 0, 1) := by decide +kernel
theorem dX4_tryEachLine_13 : decode cX4_tryEachLine 13 = .ok (.aload_n 0, 1) := by decide +kernel
theorem dX4_tryEachLine_14 : decode cX4_tryEachLine 14 = .ok (.getfield 9, 3) := by decide +kernel
theorem dX4_tryEachLine_17 : decode cX4_tryEachLine 17 = .ok (.iload_n 2, 1) := by decide +kernel
theorem dX4_tryEachLine_18 : decode cX4_tryEachLine 18 = .ok (.iaload, 1) := by decide +kernel
theorem dX4_tryEachLine_19 : decode cX4_tryEachLine 19 = .ok (.aload_n 0, 1) := by decide +kernel
theorem dX4_tryEachLine_20 : decode cX4_tryEachLine 20 = .ok (.getfield 15, 3) := by decide +kernel
theorem dX4_tryEachLine_23 : decode cX4_tryEachLine 23 = .ok (.iload_n 2, 1) := by decide +kernel
theorem dX4_tryEachLine_24 : decode cX4_tryEachLine 24 = .ok (.iaload, 1) := by decide +kernel
theorem dX4_tryEachLine_25 : decode cX4_tryEachLine 25 = .ok (.aload_n 0, 1) := by decide +kernel
theorem dX4_tryEachLine_26 : decode cX4_tryEachLine 26 = .ok (.getfield 21, 3) := by decide +kernel
theorem dX4_tryEachLine_29 : decode cX4_tryEachLine 29 = .ok (.iload_n 2, 1) := by decide +kernel
theorem dX4_tryEachLine_30 : decode cX4_tryEachLine 30 = .ok (.iaload, 1) := by decide +kernel
theorem dX4_tryEachLine_31 : decode cX4_tryEachLine 31 = .ok (.invokevirtual 65, 3) := by decide +kernel
theorem dX4_tryEachLine_34 : decode cX4_tryEachLine 34 = .ok (.ifCond .ne 28, 3) := by decide +kernel
theorem dX4_tryEachLine_37 : decode cX4_tryEachLine 37 = .ok (.aload_n 0, 1) := by decide +kernel
theorem dX4_tryEachLine_38 : decode cX4_tryEachLine 38 = .ok (.aload_n 0, 1) := by decide +kernel
theorem dX4_tryEachLine_39 : decode cX4_tryEachLine 39 = .ok (.getfield 15, 3) := by decide +kernel
theorem dX4_tryEachLine_42 : decode cX4_tryEachLine 42 = .ok (.iload_n 2, 1) := by decide +kernel
theorem dX4_tryEachLine_43 : decode cX4_tryEachLine 43 = .ok (.iaload, 1) := by decide +kernel
theorem dX4_tryEachLine_44 : decode cX4_tryEachLine 44 = .ok (.aload_n 0, 1) := by decide +kernel
theorem dX4_tryEachLine_45 : decode cX4_tryEachLine 45 = .ok (.getfield 9, 3) := by decide +kernel
theorem dX4_tryEachLine_48 : decode cX4_tryEachLine 48 = .ok (.iload_n 2, 1) := by decide +kernel
theorem dX4_tryEachLine_49 : decode cX4_tryEachLine 49 = .ok (.iaload, 1) := by decide +kernel
theorem dX4_tryEachLine_50 : decode cX4_tryEachLine 50 = .ok (.aload_n 0, 1) := by decide +kernel
theorem dX4_tryEachLine_51 : decode cX4_tryEachLine 51 = .ok (.getfield 21, 3) := by decide +kernel
theorem dX4_tryEachLine_54 : decode cX4_tryEachLine 54 = .ok (.iload_n 2, 1) := by decide +kernel
theorem dX4_tryEachLine_55 : decode cX4_tryEachLine 55 = .ok (.iaload, 1) := by decide +kernel
theorem dX4_tryEachLine_56 : decode cX4_tryEachLine 56 = .ok (.invokevirtual 65, 3) := by decide +kernel
theorem dX4_tryEachLine_59 : decode cX4_tryEachLine 59 = .ok (.ifCond .eq 5, 3) := by decide +kernel
theorem dX4_tryEachLine_62 : decode cX4_tryEachLine 62 = .ok (.iconst 1, 1) := by decide +kernel
theorem dX4_tryEachLine_63 : decode cX4_tryEachLine 63 = .ok (.istore_n 1, 1) := by decide +kernel
theorem dX4_tryEachLine_64 : decode cX4_tryEachLine 64 = .ok (.iinc 2 1, 3) := by decide +kernel
theorem dX4_tryEachLine_67 : decode cX4_tryEachLine 67 = .ok (.goto (-63), 3) := by decide +kernel
theorem dX4_tryEachLine_70 : decode cX4_tryEachLine 70 = .ok (.iload_n 1, 1) := by decide +kernel
theorem dX4_tryEachLine_71 : decode cX4_tryEachLine 71 = .ok (.ireturn, 1) := by decide +kernel
theorem dX4_makesLess_0 : decode cX4_makesLess 0 = .ok (.aload_n 0, 1) := by decide +kernel
theorem dX4_makesLess_1 : decode cX4_makesLess 1 = .ok (.getfield 30, 3) := by decide +kernel
end
section
theorem dX4_makesLess_4 : decode cX4_makesLess 4 = .ok (.iload_n 1, 1) := by decide +kernel
theorem dX4_makesLess_5 : decode cX4_makesLess 5 = .ok (.iaload, 1) := by decide +kernel
theorem dX4_makesLess_6 : decode cX4_makesLess 6 = .ok (.iconst (-1), 1) := by decide +kernel
theorem dX4_makesLess_7 : decode cX4_makesLess 7 = .ok (.if_icmp .ne 5, 3) := by decide +kernel
theorem dX4_makesLess_10 : decode cX4_makesLess 10 = .ok (.iconst 0, 1) := by decide +kernel
theorem dX4_makesLess_11 : decode cX4_makesLess 11 = .ok (.ireturn, 1) := by decide +kernel
theorem dX4_makesLess_12 : decode cX4_makesLess 12 = .ok (.aload_n 0, 1) := by decide +kernel
theorem dX4_makesLess_13 : decode cX4_makesLess 13 = .ok (.getfield 30, 3) := by decide +kernel
theorem dX4_makesLess_16 : decode cX4_makesLess 16 = .ok (.iload_n 1, 1) := by decide +kernel
theorem dX4_makesLess_17 : decode cX4_makesLess 17 = .ok (.iaload, 1) := by decide +kernel
theorem dX4_makesLess_18 : decode cX4_makesLess 18 = .ok (.iload_n 3, 1) := by decide +kernel
theorem dX4_makesLess_19 : decode cX4_makesLess 19 = .ok (.iadd, 1) := by decide +kernel
theorem dX4_makesLess_20 : decode cX4_makesLess 20 = .ok (.istore 4, 2) := by decide +kernel
theorem dX4_makesLess_22 : decode cX4_makesLess 22 = .ok (.aload_n 0, 1) := by decide +kernel
theorem dX4_makesLess_23 : decode cX4_makesLess 23 = .ok (.getfield 30, 3) := by decide +kernel
theorem dX4_makesLess_26 : decode cX4_makesLess 26 = .ok (.iload_n 2, 1) := by decide +kernel
theorem dX4_makesLess_27 : decode cX4_makesLess 27 = .ok (.iaload, 1) := by decide +kernel
theorem dX4_makesLess_28 : decode cX4_makesLess 28 = .ok (.iconst (-1), 1) := by decide +kernel
theorem dX4_makesLess_29 : decode cX4_makesLess 29 = .ok (.if_icmp .eq 16, 3) := by decide +kernel
theorem dX4_makesLess_32 : decode cX4_makesLess 32 = .ok (.aload_n 0, 1) := by decide +kernel
theorem dX4_makesLess_33 : decode cX4_makesLess 33 = .ok (.getfield 30, 3) := by decide +kernel
theorem dX4_makesLess_36 : decode cX4_makesLess 36 = .ok (.iload_n 2, 1) := by decide +kernel
theorem dX4_makesLess_37 : decode cX4_makesLess 37 = .ok (.iaload, 1) := by decide +kernel
theorem dX4_makesLess_38 : decode cX4_makesLess 38 = .ok (.iload 4, 2) := by decide +kernel
theorem dX4_makesLess_40 : decode cX4_makesLess 40 = .ok (.if_icmp .gt 5, 3) := by decide +kernel
theorem dX4_makesLess_43 : decode cX4_makesLess 43 = .ok (.iconst 0, 1) := by decide +kernel
theorem dX4_makesLess_44 : decode cX4_makesLess 44 = .ok (.ireturn, 1) := by decide +kernel
theorem dX4_makesLess_45 : decode cX4_makesLess 45 = .ok (.aload_n 0, 1) := by decide +kernel
theorem dX4_makesLess_46 : decode cX4_makesLess 46 = .ok (.getfield 30, 3) := by decide +kernel
theorem dX4_makesLess_49 : decode cX4_makesLess 49 = .ok (.iload_n 2, 1) := by decide +kernel
theorem dX4_makesLess_50 : decode cX4_makesLess 50 = .ok (.iload 4, 2) := by decide +kernel
theorem dX4_makesLess_52 : decode cX4_makesLess 52 = .ok (.iastore, 1) := by decide +kernel
theorem dX4_makesLess_53 : decode cX4_makesLess 53 = .ok (.iconst 1, 1) := by decide +kernel
theorem dX4_makesLess_54 : decode cX4_makesLess 54 = .ok (.ireturn, 1) := by decide +kernel
set_option maxRecDepth 20000 in
theorem ggX5_init_X1_init : GoodIn wsX5_init wsX1_init := goodIn_r _ [26, 27, 2, 3, 28, 29, 30, 31, 63, 64, 65] (by decide +kernel) (by decide +kernel)
set_option maxRecDepth 20000 in
theorem gX5_init_X1_init_n11 : GoodIn wsX5_init (wsX1_init) := ggX5_init_X1_init
set_option maxRecDepth 20000 in
theorem ggX5_init_X2_init : GoodIn wsX5_init wsX2_init := goodIn_r _ [33, 34, 2, 3, 35, 36, 72, 73] (by decide +kernel) (by decide +kernel)
set_option maxRecDepth 20000 in
theorem gX5_init_X2_init_n18 : GoodIn wsX5_init (wsX2_init) := ggX5_init_X2_init
set_option maxRecDepth 20000 in
theorem ggX5_init_X3_init : GoodIn wsX5_init wsX3_init := goodIn_r _ [38, 39, 2, 3, 40, 41, 42, 43, 44, 74, 75, 76, 77] (by decide +kernel) (by decide +kernel)
set_option maxRecDepth 20000 in
theorem gX5_init_X3_init_n25 : GoodIn wsX5_init (wsX3_init) := ggX5_init_X3_init
set_option maxRecDepth 20000 in
theorem ggX5_init_X4_init : GoodIn wsX5_init wsX4_init := goodIn_r _ [46, 47, 2, 3, 40, 48, 49, 50, 51, 52, 53, 54, 55, 56, 78, 79, 80, 81, 82, 83, 84, 85, 86] (by decide +kernel) (by decide +kernel)
set_option maxRecDepth 20000 in
theorem gX5_init_X4_init_n32 : GoodIn wsX5_init (wsX4_init) := ggX5_init_X4_init
set_option maxRecDepth 20000 in
theorem ggX5_init_X0_init : GoodIn wsX5_init wsX0_init := goodIn_r _ [58, 59, 2, 3, 28, 60, 40, 61, 62, 87, 88, 89] (by decide +kernel) (by decide +kernel)
set_option maxRecDepth 20000 in
theorem gX5_init_X0_init_n39 : GoodIn wsX5_init (wsX0_init) := ggX5_init_X0_init
theorem dX5_init_0 : decode cX5_init 0 = .ok (.aload_n 0, 1) := by decide +kernel
theorem dX5_init_1 : decode cX5_init 1 = .ok (.invokespecial 3, 3) := by decide +kernel
theorem dX5_init_4 : decode cX5_init 4 = .ok (.aload_n 0, 1) := by decide +kernel
theorem dX5_init_5 : decode cX5_init 5 = .ok (.new 9, 3) := by decide +kernel
theorem dX5_init_8 : decode cX5_init 8 = .ok (.dup, 1) := by decide +kernel
theorem dX5_init_9 : decode cX5_init 9 = .ok (.invokespecial 11, 3) := by decide +kernel
theorem dX5_init_12 : decode cX5_init 12 = .ok (.putfield 12, 3) := by decide +kernel
theorem dX5_init_15 : decode cX5_init 15 = .ok (.aload_n 0, 1) := by decide +kernel
theorem dX5_init_16 : decode cX5_init 16 = .ok (.new 16, 3) := by decide +kernel
theorem dX5_init_19 : decode cX5_init 19 = .ok (.dup, 1) := by decide +kernel
theorem dX5_init_20 : decode cX5_init 20 = .ok (.invokespecial 18, 3) := by decide +kernel
theorem dX5_init_23 : decode cX5_init 23 = .ok (.putfield 19, 3) := by decide +kernel
theorem dX5_init_26 : decode cX5_init 26 = .ok (.aload_n 0, 1) := by decide +kernel
theorem dX5_init_27 : decode cX5_init 27 = .ok (.new 23, 3) := by decide +kernel
theorem dX5_init_30 : decode cX5_init 30 = .ok (.dup, 1) := by decide +kernel
theorem dX5_init_31 : decode cX5_init 31 = .ok (.invokespecial 25, 3) := by decide +kernel
theorem dX5_init_34 : decode cX5_init 34 = .ok (.putfield 26, 3) := by decide +kernel
theorem dX5_init_37 : decode cX5_init 37 = .ok (.aload_n 0, 1) := by decide +kernel
theorem dX5_init_38 : decode cX5_init 38 = .ok (.new 30, 3) := by decide +kernel
theorem dX5_init_41 : decode cX5_init 41 = .ok (.dup, 1) := by decide +kernel
theorem dX5_init_42 : decode cX5_init 42 = .ok (.invokespecial 32, 3) := by decide +kernel
theorem dX5_init_45 : decode cX5_init 45 = .ok (.putfield 33, 3) := by decide +kernel
theorem dX5_init_48 : decode cX5_init 48 = .ok (.aload_n 0, 1) := by decide +kernel
theorem dX5_init_49 : decode cX5_init 49 = .ok (.new 37, 3) := by decide +kernel
theorem dX5_init_52 : decode cX5_init 52 = .ok (.dup, 1) := by decide +kernel
theorem dX5_init_53 : decode cX5_init 53 = .ok (.invokespecial 39, 3) := by decide +kernel
theorem dX5_init_56 : decode cX5_init 56 = .ok (.putfield 40, 3) := by decide +kernel
theorem dX5_init_59 : decode cX5_init 59 = .ok (.aload_n 0, 1) := by decide +kernel
theorem dX5_init_60 : decode cX5_init 60 = .ok (.iconst 0, 1) := by decide +kernel
theorem dX5_init_61 : decode cX5_init 61 = .ok (.putfield 44, 3) := by decide +kernel
theorem dX5_init_64 : decode cX5_init 64 = .ok (.return_, 1) := by decide +kernel
set_option maxRecDepth 20000 in
theorem ggX5_mass_X5_requireCell : GoodIn wsX5_mass wsX5_requireCell := goodIn_ca (goodIn_r _ [6, 7, 8] (by decide +kernel) (by decide +kernel)) (goodIn_sub (fun _ h => List.mem_cons_of_mem _ (List.mem_append_left _ (List.mem_append_right _ h))) (by decide +kernel))
set_option maxRecDepth 20000 in
theorem gX5_mass_X5_requireCell : GoodIn wsX5_mass (va_wsS RX5 48 yX5_requireCell wsX5_requireCell) := goodIn_app (goodIn_of _ (by decide +kernel)) ggX5_mass_X5_requireCell
set_option maxRecDepth 20000 in
theorem ggX5_mass_X5_requireNumber : GoodIn wsX5_mass wsX5_requireNumber := goodIn_ca (goodIn_r _ [11, 7, 8] (by decide +kernel) (by decide +kernel)) (goodIn_sub (fun _ h => List.mem_cons_of_mem _ (List.mem_append_left _ (List.mem_append_right _ h))) (by decide +kernel))
set_option maxRecDepth 20000 in
theorem gX5_mass_X5_requireNumber : GoodIn wsX5_mass (va_wsS RX5 52 yX5_requireNumber wsX5_requireNumber) := goodIn_app (goodIn_of _ (by decide +kernel)) ggX5_mass_X5_requireNumber
set_option maxRecDepth 20000 in
theorem ggX5_mass_X5_requireRange : GoodIn wsX5_mass wsX5_requireRange := goodIn_ca (goodIn_r _ [14, 15, 16] (by decide +kernel) (by decide +kernel)) (goodIn_sub (fun _ h => List.mem_cons_of_mem _ (List.mem_append_right _ h)) (by decide +kernel))
set_option maxRecDepth 20000 in
theorem gX5_mass_X5_requireRange : GoodIn wsX5_mass (va_wsS RX5 57 yX5_requireRange wsX5_requireRange) := goodIn_app (goodIn_of _ (by decide +kernel)) ggX5_mass_X5_requireRange
set_option maxRecDepth 20000 in
theorem ggX5_mass_X1_putMass : GoodIn wsX5_mass wsX1_putMass := goodIn_r _ [20, 21, 22, 5, 23, 24, 25, 26, 18, 27, 28, 29, 30, 31, 32, 33, 34, 35, 42, 43, 44] (by decide +kernel) (by decide +kernel)
set_option maxRecDepth 20000 in
theorem gX5_mass_X1_putMass_n61 : GoodIn wsX5_mass (wsX1_putMass) := ggX5_mass_X1_putMass
theorem dX5_mass_0 : decode cX5_mass 0 = .ok (.iload_n 1, 1) := by decide +kernel
theorem dX5_mass_1 : decode cX5_mass 1 = .ok (.iload_n 2, 1) := by decide +kernel
theorem dX5_mass_2 : decode cX5_mass 2 = .ok (.invokestatic 48, 3) := by decide +kernel
theorem dX5_mass_5 : decode cX5_mass 5 = .ok (.iload_n 3, 1) := by decide +kernel
theorem dX5_mass_6 : decode cX5_mass 6 = .ok (.iconst 3, 1) := by decide +kernel
theorem dX5_mass_7 : decode cX5_mass 7 = .ok (.invokestatic 52, 3) := by decide +kernel
theorem dX5_mass_10 : decode cX5_mass 10 = .ok (.lload 4, 2) := by decide +kernel
theorem dX5_mass_12 : decode cX5_mass 12 = .ok (.lconst 0, 1) := by decide +kernel
theorem dX5_mass_13 : decode cX5_mass 13 = .ok (.ldc2_w 55, 3) := by decide +kernel
theorem dX5_mass_16 : decode cX5_mass 16 = .ok (.invokestatic 57, 3) := by decide +kernel
theorem dX5_mass_19 : decode cX5_mass 19 = .ok (.aload_n 0, 1) := by decide +kernel
theorem dX5_mass_20 : decode cX5_mass 20 = .ok (.getfield 12, 3) := by decide +kernel
theorem dX5_mass_23 : decode cX5_mass 23 = .ok (.iload_n 1, 1) := by decide +kernel
theorem dX5_mass_24 : decode cX5_mass 24 = .ok (.iload_n 2, 1) := by decide +kernel
theorem dX5_mass_25 : decode cX5_mass 25 = .ok (.iload_n 3, 1) := by decide +kernel
theorem dX5_mass_26 : decode cX5_mass 26 = .ok (.lload 4, 2) := by decide +kernel
theorem dX5_mass_28 : decode cX5_mass 28 = .ok (.invokevirtual 61, 3) := by decide +kernel
theorem dX5_mass_31 : decode cX5_mass 31 = .ok (.lreturn, 1) := by decide +kernel
set_option maxRecDepth 20000 in
theorem ggX5_water_X5_requireCell : GoodIn wsX5_water wsX5_requireCell := goodIn_ca (goodIn_r _ [6, 7, 8] (by decide +kernel) (by decide +kernel)) (goodIn_sub (fun _ h => List.mem_cons_of_mem _ (List.mem_append_left _ (List.mem_append_right _ h))) (by decide +kernel))
set_option maxRecDepth 20000 in
theorem gX5_water_X5_requireCell : GoodIn wsX5_water (va_wsS RX5 48 yX5_requireCell wsX5_requireCell) := goodIn_app (goodIn_of _ (by decide +kernel)) ggX5_water_X5_requireCell
set_option maxRecDepth 20000 in
theorem ggX5_water_X5_requireRange : GoodIn wsX5_water wsX5_requireRange := goodIn_ca (goodIn_r _ [11, 12, 13] (by decide +kernel) (by decide +kernel)) (goodIn_sub (fun _ h => List.mem_cons_of_mem _ (List.mem_append_right _ h)) (by decide +kernel))
set_option maxRecDepth 20000 in
theorem gX5_water_X5_requireRange : GoodIn wsX5_water (va_wsS RX5 57 yX5_requireRange wsX5_requireRange) := goodIn_app (goodIn_of _ (by decide +kernel)) ggX5_water_X5_requireRange
set_option maxRecDepth 20000 in
theorem ggX5_water_X1_putWater : GoodIn wsX5_water wsX1_putWater := goodIn_r _ [17, 18, 19, 5, 20, 21, 22, 23, 15, 24, 25, 26, 27, 28, 29, 30, 31, 32, 39, 40, 41] (by decide +kernel) (by decide +kernel)
set_option maxRecDepth 20000 in
theorem gX5_water_X1_putWater_n67 : GoodIn wsX5_water (wsX1_putWater) := ggX5_water_X1_putWater
theorem dX5_water_0 : decode cX5_water 0 = .ok (.iload_n 1, 1) := by decide +kernel
theorem dX5_water_1 : decode cX5_water 1 = .ok (.iload_n 2, 1) := by decide +kernel
theorem dX5_water_2 : decode cX5_water 2 = .ok (.invokestatic 48, 3) := by decide +kernel
theorem dX5_water_5 : decode cX5_water 5 = .ok (.lload_n 3, 1) := by decide +kernel
theorem dX5_water_6 : decode cX5_water 6 = .ok (.lconst 0, 1) := by decide +kernel
theorem dX5_water_7 : decode cX5_water 7 = .ok (.ldc2_w 65, 3) := by decide +kernel
theorem dX5_water_10 : decode cX5_water 10 = .ok (.invokestatic 57, 3) := by decide +kernel
theorem dX5_water_13 : decode cX5_water 13 = .ok (.aload_n 0, 1) := by decide +kernel
theorem dX5_water_14 : decode cX5_water 14 = .ok (.getfield 12, 3) := by decide +kernel
theorem dX5_water_17 : decode cX5_water 17 = .ok (.iload_n 1, 1) := by decide +kernel
theorem dX5_water_18 : decode cX5_water 18 = .ok (.iload_n 2, 1) := by decide +kernel
theorem dX5_water_19 : decode cX5_water 19 = .ok (.lload_n 3, 1) := by decide +kernel
theorem dX5_water_20 : decode cX5_water 20 = .ok (.invokevirtual 67, 3) := by decide +kernel
theorem dX5_water_23 : decode cX5_water 23 = .ok (.lreturn, 1) := by decide +kernel
set_option maxRecDepth 20000 in
theorem ggX5_pull_X5_requireCell : GoodIn wsX5_pull wsX5_requireCell := goodIn_ca (goodIn_r _ [5, 6, 7] (by decide +kernel) (by decide +kernel)) (goodIn_sub (fun _ h => List.mem_cons_of_mem _ (List.mem_append_right _ h)) (by decide +kernel))
set_option maxRecDepth 20000 in
theorem gX5_pull_X5_requireCell : GoodIn wsX5_pull (va_wsS RX5 48 yX5_requireCell wsX5_requireCell) := goodIn_app (goodIn_of _ (by decide +kernel)) ggX5_pull_X5_requireCell
set_option maxRecDepth 20000 in
theorem ggX5_pull_X1_keptPull : GoodIn wsX5_pull wsX1_keptPull := goodIn_r _ [11, 12, 13, 4, 14, 21, 22, 23] (by decide +kernel) (by decide +kernel)
set_option maxRecDepth 20000 in
theorem gX5_pull_X1_keptPull_n71 : GoodIn wsX5_pull (wsX1_keptPull) := ggX5_pull_X1_keptPull
theorem dX5_pull_0 : decode cX5_pull 0 = .ok (.iload_n 1, 1) := by decide +kernel
theorem dX5_pull_1 : decode cX5_pull 1 = .ok (.iload_n 2, 1) := by decide +kernel
theorem dX5_pull_2 : decode cX5_pull 2 = .ok (.invokestatic 48, 3) := by decide +kernel
theorem dX5_pull_5 : decode cX5_pull 5 = .ok (.aload_n 0, 1) := by decide +kernel
theorem dX5_pull_6 : decode cX5_pull 6 = .ok (.getfield 12, 3) := by decide +kernel
theorem dX5_pull_9 : decode cX5_pull 9 = .ok (.iload_n 1, 1) := by decide +kernel
theorem dX5_pull_10 : decode cX5_pull 10 = .ok (.iload_n 2, 1) := by decide +kernel
theorem dX5_pull_11 : decode cX5_pull 11 = .ok (.invokevirtual 71, 3) := by decide +kernel
theorem dX5_pull_14 : decode cX5_pull 14 = .ok (.lreturn, 1) := by decide +kernel
set_option maxRecDepth 20000 in
theorem ggX5_pullAnew_X5_requireCell : GoodIn wsX5_pullAnew wsX5_requireCell := goodIn_ca (goodIn_r _ [5, 6, 7] (by decide +kernel) (by decide +kernel)) (goodIn_sub (fun _ h => List.mem_cons_of_mem _ (List.mem_append_right _ h)) (by decide +kernel))
set_option maxRecDepth 20000 in
theorem gX5_pullAnew_X5_requireCell : GoodIn wsX5_pullAnew (va_wsS RX5 48 yX5_requireCell wsX5_requireCell) := goodIn_app (goodIn_of _ (by decide +kernel)) ggX5_pullAnew_X5_requireCell
set_option maxRecDepth 20000 in
theorem ggX5_pullAnew_X1_summedPull : GoodIn wsX5_pullAnew wsX1_summedPull := goodIn_r _ [11, 12, 13, 14, 4, 15, 16, 17, 9, 18, 19, 20, 21, 22, 29, 30, 31] (by decide +kernel) (by decide +kernel)
set_option maxRecDepth 20000 in
theorem gX5_pullAnew_X1_summedPull_n75 : GoodIn wsX5_pullAnew (wsX1_summedPull) := ggX5_pullAnew_X1_summedPull
theorem dX5_pullAnew_0 : decode cX5_pullAnew 0 = .ok (.iload_n 1, 1) := by decide +kernel
theorem dX5_pullAnew_1 : decode cX5_pullAnew 1 = .ok (.iload_n 2, 1) := by decide +kernel
theorem dX5_pullAnew_2 : decode cX5_pullAnew 2 = .ok (.invokestatic 48, 3) := by decide +kernel
theorem dX5_pullAnew_5 : decode cX5_pullAnew 5 = .ok (.aload_n 0, 1) := by decide +kernel
theorem dX5_pullAnew_6 : decode cX5_pullAnew 6 = .ok (.getfield 12, 3) := by decide +kernel
theorem dX5_pullAnew_9 : decode cX5_pullAnew 9 = .ok (.iload_n 1, 1) := by decide +kernel
theorem dX5_pullAnew_10 : decode cX5_pullAnew 10 = .ok (.iload_n 2, 1) := by decide +kernel
theorem dX5_pullAnew_11 : decode cX5_pullAnew 11 = .ok (.invokevirtual 75, 3) := by decide +kernel
theorem dX5_pullAnew_14 : decode cX5_pullAnew 14 = .ok (.lreturn, 1) := by decide +kernel
set_option maxRecDepth 20000 in
theorem ggX5_gap_X5_requireCell : GoodIn wsX5_gap wsX5_requireCell := goodIn_ca (goodIn_r _ [5, 6, 7] (by decide +kernel) (by decide +kernel)) (goodIn_sub (fun _ h => List.mem_cons_of_mem _ (List.mem_append_right _ h)) (by decide +kernel))
set_option maxRecDepth 20000 in
theorem gX5_gap_X5_requireCell : GoodIn wsX5_gap (va_wsS RX5 48 yX5_requireCell wsX5_requireCell) := goodIn_app (goodIn_of _ (by decide +kernel)) ggX5_gap_X5_requireCell
set_option maxRecDepth 20000 in
theorem ggX5_gap_X5_requireNumber : GoodIn wsX5_gap wsX5_requireNumber := goodIn_ca (goodIn_r _ [10, 6, 7] (by decide +kernel) (by decide +kernel)) (goodIn_sub (fun _ h => List.mem_cons_of_mem _ (List.mem_append_right _ h)) (by decide +kernel))
set_option maxRecDepth 20000 in
theorem gX5_gap_X5_requireNumber : GoodIn wsX5_gap (va_wsS RX5 52 yX5_requireNumber wsX5_requireNumber) := goodIn_app (goodIn_of _ (by decide +kernel)) ggX5_gap_X5_requireNumber
set_option maxRecDepth 20000 in
theorem ggX5_gap_X1_keptPull : GoodIn wsX5_gap wsX1_keptPull := goodIn_r _ [14, 15, 16, 4, 17, 24, 25, 26] (by decide +kernel) (by decide +kernel)
set_option maxRecDepth 20000 in
theorem gX5_gap_X1_keptPull_n71 : GoodIn wsX5_gap (wsX1_keptPull) := ggX5_gap_X1_keptPull
theorem dX5_gap_0 : decode cX5_gap 0 = .ok (.iload_n 1, 1) := by decide +kernel
theorem dX5_gap_1 : decode cX5_gap 1 = .ok (.iload_n 2, 1) := by decide +kernel
theorem dX5_gap_2 : decode cX5_gap 2 = .ok (.invokestatic 48, 3) := by decide +kernel
theorem dX5_gap_5 : decode cX5_gap 5 = .ok (.iload_n 1, 1) := by decide +kernel
theorem dX5_gap_6 : decode cX5_gap 6 = .ok (.bipush 7, 2) := by decide +kernel
theorem dX5_gap_8 : decode cX5_gap 8 = .ok (.invokestatic 52, 3) := by decide +kernel
theorem dX5_gap_11 : decode cX5_gap 11 = .ok (.aload_n 0, 1) := by decide +kernel
theorem dX5_gap_12 : decode cX5_gap 12 = .ok (.getfield 12, 3) := by decide +kernel
theorem dX5_gap_15 : decode cX5_gap 15 = .ok (.iload_n 1, 1) := by decide +kernel
theorem dX5_gap_16 : decode cX5_gap 16 = .ok (.iconst 1, 1) := by decide +kernel
theorem dX5_gap_17 : decode cX5_gap 17 = .ok (.iadd, 1) := by decide +kernel
theorem dX5_gap_18 : decode cX5_gap 18 = .ok (.iload_n 2, 1) := by decide +kernel
theorem dX5_gap_19 : decode cX5_gap 19 = .ok (.invokevirtual 71, 3) := by decide +kernel
theorem dX5_gap_22 : decode cX5_gap 22 = .ok (.aload_n 0, 1) := by decide +kernel
theorem dX5_gap_23 : decode cX5_gap 23 = .ok (.getfield 12, 3) := by decide +kernel
theorem dX5_gap_26 : decode cX5_gap 26 = .ok (.iload_n 1, 1) := by decide +kernel
theorem dX5_gap_27 : decode cX5_gap 27 = .ok (.iload_n 2, 1) := by decide +kernel
theorem dX5_gap_28 : decode cX5_gap 28 = .ok (.invokevirtual 71, 3) := by decide +kernel
theorem dX5_gap_31 : decode cX5_gap 31 = .ok (.lsub, 1) := by decide +kernel
theorem dX5_gap_32 : decode cX5_gap 32 = .ok (.lreturn, 1) := by decide +kernel
set_option maxRecDepth 20000 in
theorem ggX5_tide_X5_requireRange : GoodIn wsX5_tide wsX5_requireRange := goodIn_ca (goodIn_r _ [7, 8, 9] (by decide +kernel) (by decide +kernel)) (goodIn_sub (fun _ h => List.mem_cons_of_mem _ (List.mem_append_right _ h)) (by decide +kernel))
set_option maxRecDepth 20000 in
theorem gX5_tide_X5_requireRange : GoodIn wsX5_tide (va_wsS RX5 57 yX5_requireRange wsX5_requireRange) := goodIn_app (goodIn_of _ (by decide +kernel)) ggX5_tide_X5_requireRange
set_option maxRecDepth 20000 in
theorem ggX5_tide_X2_put : GoodIn wsX5_tide wsX2_put := goodIn_r _ [13, 14, 15, 22, 23] (by decide +kernel) (by decide +kernel)
set_option maxRecDepth 20000 in
theorem gX5_tide_X2_put_n82 : GoodIn wsX5_tide (wsX2_put) := ggX5_tide_X2_put
theorem dX5_tide_0 : decode cX5_tide 0 = .ok (.iload_n 1, 1) := by decide +kernel
theorem dX5_tide_1 : decode cX5_tide 1 = .ok (.i2l, 1) := by decide +kernel
theorem dX5_tide_2 : decode cX5_tide 2 = .ok (.lconst 0, 1) := by decide +kernel
theorem dX5_tide_3 : decode cX5_tide 3 = .ok (.ldc2_w 78, 3) := by decide +kernel
theorem dX5_tide_6 : decode cX5_tide 6 = .ok (.invokestatic 57, 3) := by decide +kernel
theorem dX5_tide_9 : decode cX5_tide 9 = .ok (.iload_n 2, 1) := by decide +kernel
theorem dX5_tide_10 : decode cX5_tide 10 = .ok (.i2l, 1) := by decide +kernel
theorem dX5_tide_11 : decode cX5_tide 11 = .ok (.lconst 1, 1) := by decide +kernel
theorem dX5_tide_12 : decode cX5_tide 12 = .ok (.ldc2_w 80, 3) := by decide +kernel
theorem dX5_tide_15 : decode cX5_tide 15 = .ok (.invokestatic 57, 3) := by decide +kernel
theorem dX5_tide_18 : decode cX5_tide 18 = .ok (.aload_n 0, 1) := by decide +kernel
theorem dX5_tide_19 : decode cX5_tide 19 = .ok (.getfield 19, 3) := by decide +kernel
theorem dX5_tide_22 : decode cX5_tide 22 = .ok (.iload_n 1, 1) := by decide +kernel
theorem dX5_tide_23 : decode cX5_tide 23 = .ok (.iload_n 2, 1) := by decide +kernel
theorem dX5_tide_24 : decode cX5_tide 24 = .ok (.invokevirtual 82, 3) := by decide +kernel
theorem dX5_tide_27 : decode cX5_tide 27 = .ok (.ireturn, 1) := by decide +kernel
set_option maxRecDepth 20000 in
theorem ggX5_pass_X5_requireRange : GoodIn wsX5_pass wsX5_requireRange := goodIn_ca (goodIn_r _ [8, 9, 10] (by decide +kernel) (by decide +kernel)) (goodIn_sub (fun _ h => List.mem_cons_of_mem _ (List.mem_append_right _ h)) (by decide +kernel))
set_option maxRecDepth 20000 in
theorem gX5_pass_X5_requireRange : GoodIn wsX5_pass (va_wsS RX5 57 yX5_requireRange wsX5_requireRange) := goodIn_app (goodIn_of _ (by decide +kernel)) ggX5_pass_X5_requireRange
theorem dX5_pass_0 : decode cX5_pass 0 = .ok (.iload_n 1, 1) := by decide +kernel
theorem dX5_pass_1 : decode cX5_pass 1 = .ok (.i2l, 1) := by decide +kernel
theorem dX5_pass_2 : decode cX5_pass 2 = .ok (.lconst 1, 1) := by decide +kernel
theorem dX5_pass_3 : decode cX5_pass 3 = .ok (.ldc2_w 86, 3) := by decide +kernel
theorem dX5_pass_6 : decode cX5_pass 6 = .ok (.invokestatic 57, 3) := by decide +kernel
theorem dX5_pass_9 : decode cX5_pass 9 = .ok (.iload_n 1, 1) := by decide +kernel
theorem dX5_pass_10 : decode cX5_pass 10 = .ok (.sipush 3000, 3) := by decide +kernel
theorem dX5_pass_13 : decode cX5_pass 13 = .ok (.aload_n 0, 1) := by decide +kernel
theorem dX5_pass_14 : decode cX5_pass 14 = .ok (.getfield 44, 3) := by decide +kernel
theorem dX5_pass_17 : decode cX5_pass 17 = .ok (.isub, 1) := by decide +kernel
theorem dX5_pass_18 : decode cX5_pass 18 = .ok (.if_icmp .le 13, 3) := by decide +kernel
theorem dX5_pass_21 : decode cX5_pass 21 = .ok (.new 88, 3) := by decide +kernel
theorem dX5_pass_24 : decode cX5_pass 24 = .ok (.dup, 1) := by decide +kernel
theorem dX5_pass_25 : decode cX5_pass 25 = .ok (.ldc 90, 2) := by decide +kernel
theorem dX5_pass_27 : decode cX5_pass 27 = .ok (.invokespecial 92, 3) := by decide +kernel
theorem dX5_pass_30 : decode cX5_pass 30 = .ok (.athrow, 1) := by decide +kernel
theorem dX5_pass_31 : decode cX5_pass 31 = .ok (.aload_n 0, 1) := by decide +kernel
theorem dX5_pass_32 : decode cX5_pass 32 = .ok (.dup, 1) := by decide +kernel
theorem dX5_pass_33 : decode cX5_pass 33 = .ok (.getfield 44, 3) := by decide +kernel
theorem dX5_pass_36 : decode cX5_pass 36 = .ok (.iload_n 1, 1) := by decide +kernel
theorem dX5_pass_37 : decode cX5_pass 37 = .ok (.iadd, 1) := by decide +kernel
theorem dX5_pass_38 : decode cX5_pass 38 = .ok (.putfield 44, 3) := by decide +kernel
theorem dX5_pass_41 : decode cX5_pass 41 = .ok (.aload_n 0, 1) := by decide +kernel
theorem dX5_pass_42 : decode cX5_pass 42 = .ok (.getfield 44, 3) := by decide +kernel
theorem dX5_pass_45 : decode cX5_pass 45 = .ok (.ireturn, 1) := by decide +kernel
set_option maxRecDepth 20000 in
theorem ggX5_needle_X5_requireRange : GoodIn wsX5_needle wsX5_requireRange := goodIn_ca (goodIn_r _ [8, 9, 10] (by decide +kernel) (by decide +kernel)) (goodIn_sub (fun _ h => List.mem_cons_of_mem _ (List.mem_append_left _ (List.mem_append_right _ h))) (by decide +kernel))
set_option maxRecDepth 20000 in
theorem gX5_needle_X5_requireRange : GoodIn wsX5_needle (va_wsS RX5 57 yX5_requireRange wsX5_requireRange) := goodIn_app (goodIn_of _ (by decide +kernel)) ggX5_needle_X5_requireRange
set_option maxRecDepth 20000 in
theorem ggX5_needle_X5_requireRoom : GoodIn wsX5_needle wsX5_requireRoom := goodIn_ca (goodIn_r _ [13, 14, 15] (by decide +kernel) (by decide +kernel)) (goodIn_sub (fun _ h => List.mem_cons_of_mem _ (List.mem_append_right _ h)) (by decide +kernel))
set_option maxRecDepth 20000 in
theorem gX5_needle_X5_requireRoom : GoodIn wsX5_needle (va_wsS RX5 102 yX5_requireRoom wsX5_requireRoom) := goodIn_app (goodIn_of _ (by decide +kernel)) ggX5_needle_X5_requireRoom
set_option maxRecDepth 20000 in
theorem ggX5_needle_X3_add : GoodIn wsX5_needle wsX3_add := goodIn_r _ [19, 20, 21, 22, 23, 30, 31, 32, 33] (by decide +kernel) (by decide +kernel)
set_option maxRecDepth 20000 in
theorem gX5_needle_X3_add_n105 : GoodIn wsX5_needle (wsX3_add) := ggX5_needle_X3_add
theorem dX5_needle_0 : decode cX5_needle 0 = .ok (.iload_n 1, 1) := by decide +kernel
theorem dX5_needle_1 : decode cX5_needle 1 = .ok (.i2l, 1) := by decide +kernel
theorem dX5_needle_2 : decode cX5_needle 2 = .ok (.lconst 0, 1) := by decide +kernel
theorem dX5_needle_3 : decode cX5_needle 3 = .ok (.lconst 1, 1) := by decide +kernel
theorem dX5_needle_4 : decode cX5_needle 4 = .ok (.invokestatic 57, 3) := by decide +kernel
theorem dX5_needle_7 : decode cX5_needle 7 = .ok (.iload_n 2, 1) := by decide +kernel
theorem dX5_needle_8 : decode cX5_needle 8 = .ok (.i2l, 1) := by decide +kernel
theorem dX5_needle_9 : decode cX5_needle 9 = .ok (.ldc2_w 95, 3) := by decide +kernel
theorem dX5_needle_12 : decode cX5_needle 12 = .ok (.ldc2_w 97, 3) := by decide +kernel
theorem dX5_needle_15 : decode cX5_needle 15 = .ok (.invokestatic 57, 3) := by decide +kernel
theorem dX5_needle_18 : decode cX5_needle 18 = .ok (.aload_n 0, 1) := by decide +kernel
theorem dX5_needle_19 : decode cX5_needle 19 = .ok (.getfield 26, 3) := by decide +kernel
theorem dX5_needle_22 : decode cX5_needle 22 = .ok (.getfield 99, 3) := by decide +kernel
theorem dX5_needle_25 : decode cX5_needle 25 = .ok (.bipush 6, 2) := by decide +kernel
theorem dX5_needle_27 : decode cX5_needle 27 = .ok (.invokestatic 102, 3) := by decide +kernel
theorem dX5_needle_30 : decode cX5_needle 30 = .ok (.aload_n 0, 1) := by decide +kernel
theorem dX5_needle_31 : decode cX5_needle 31 = .ok (.getfield 26, 3) := by decide +kernel
theorem dX5_needle_34 : decode cX5_needle 34 = .ok (.iload_n 1, 1) := by decide +kernel
theorem dX5_needle_35 : decode cX5_needle 35 = .ok (.iload_n 2, 1) := by decide +kernel
theorem dX5_needle_36 : decode cX5_needle 36 = .ok (.aload_n 0, 1) := by decide +kernel
theorem dX5_needle_37 : decode cX5_needle 37 = .ok (.getfield 44, 3) := by decide +kernel
theorem dX5_needle_40 : decode cX5_needle 40 = .ok (.invokevirtual 105, 3) := by decide +kernel
theorem dX5_needle_43 : decode cX5_needle 43 = .ok (.ireturn, 1) := by decide +kernel
set_option maxRecDepth 20000 in
theorem ggX5_tie_X5_requireNumber : GoodIn wsX5_tie wsX5_requireNumber := goodIn_ca (goodIn_r _ [8, 9, 10] (by decide +kernel) (by decide +kernel)) (goodIn_sub (fun _ h => List.mem_cons_of_mem _ (List.mem_append_right _ h)) (by decide +kernel))
set_option maxRecDepth 20000 in
theorem gX5_tie_X5_requireNumber : GoodIn wsX5_tie (va_wsS RX5 52 yX5_requireNumber wsX5_requireNumber) := goodIn_app (goodIn_of _ (by decide +kernel)) ggX5_tie_X5_requireNumber
set_option maxRecDepth 20000 in
theorem ggX5_tie_X3_offIn : GoodIn wsX5_tie wsX3_offIn := goodIn_r _ [14, 15, 16, 17, 24, 25, 26, 27] (by decide +kernel) (by decide +kernel)
set_option maxRecDepth 20000 in
theorem gX5_tie_X3_offIn_n115 : GoodIn wsX5_tie (wsX3_offIn) := ggX5_tie_X3_offIn
theorem dX5_tie_0 : decode cX5_tie 0 = .ok (.iload_n 1, 1) := by decide +kernel
theorem dX5_tie_1 : decode cX5_tie 1 = .ok (.aload_n 0, 1) := by decide +kernel
theorem dX5_tie_2 : decode cX5_tie 2 = .ok (.getfield 26, 3) := by decide +kernel
theorem dX5_tie_5 : decode cX5_tie 5 = .ok (.getfield 99, 3) := by decide +kernel
theorem dX5_tie_8 : decode cX5_tie 8 = .ok (.invokestatic 52, 3) := by decide +kernel
theorem dX5_tie_11 : decode cX5_tie 11 = .ok (.aload_n 0, 1) := by decide +kernel
theorem dX5_tie_12 : decode cX5_tie 12 = .ok (.getfield 26, 3) := by decide +kernel
theorem dX5_tie_15 : decode cX5_tie 15 = .ok (.getfield 109, 3) := by decide +kernel
theorem dX5_tie_18 : decode cX5_tie 18 = .ok (.iload_n 1, 1) := by decide +kernel
theorem dX5_tie_19 : decode cX5_tie 19 = .ok (.iaload, 1) := by decide +kernel
theorem dX5_tie_20 : decode cX5_tie 20 = .ok (.ifCond .ne 13, 3) := by decide +kernel
theorem dX5_tie_23 : decode cX5_tie 23 = .ok (.new 88, 3) := by decide +kernel
theorem dX5_tie_26 : decode cX5_tie 26 = .ok (.dup, 1) := by decide +kernel
theorem dX5_tie_27 : decode cX5_tie 27 = .ok (.ldc 113, 2) := by decide +kernel
theorem dX5_tie_29 : decode cX5_tie 29 = .ok (.invokespecial 92, 3) := by decide +kernel
theorem dX5_tie_32 : decode cX5_tie 32 = .ok (.athrow, 1) := by decide +kernel
theorem dX5_tie_33 : decode cX5_tie 33 = .ok (.aload_n 0, 1) := by decide +kernel
theorem dX5_tie_34 : decode cX5_tie 34 = .ok (.getfield 26, 3) := by decide +kernel
theorem dX5_tie_37 : decode cX5_tie 37 = .ok (.iload_n 1, 1) := by decide +kernel
theorem dX5_tie_38 : decode cX5_tie 38 = .ok (.aload_n 0, 1) := by decide +kernel
theorem dX5_tie_39 : decode cX5_tie 39 = .ok (.getfield 44, 3) := by decide +kernel
theorem dX5_tie_42 : decode cX5_tie 42 = .ok (.invokevirtual 115, 3) := by decide +kernel
theorem dX5_tie_45 : decode cX5_tie 45 = .ok (.lstore_n 2, 1) := by decide +kernel
theorem dX5_tie_46 : decode cX5_tie 46 = .ok (.aload_n 0, 1) := by decide +kernel
theorem dX5_tie_47 : decode cX5_tie 47 = .ok (.getfield 26, 3) := by decide +kernel
theorem dX5_tie_50 : decode cX5_tie 50 = .ok (.getfield 118, 3) := by decide +kernel
theorem dX5_tie_53 : decode cX5_tie 53 = .ok (.iload_n 1, 1) := by decide +kernel
theorem dX5_tie_54 : decode cX5_tie 54 = .ok (.aload_n 0, 1) := by decide +kernel
theorem dX5_tie_55 : decode cX5_tie 55 = .ok (.getfield 44, 3) := by decide +kernel
theorem dX5_tie_58 : decode cX5_tie 58 = .ok (.iastore, 1) := by decide +kernel
theorem dX5_tie_59 : decode cX5_tie 59 = .ok (.lload_n 2, 1) := by decide +kernel
theorem dX5_tie_60 : decode cX5_tie 60 = .ok (.lreturn, 1) := by decide +kernel
set_option maxRecDepth 20000 in
theorem ggX5_read_X5_requireNumber : GoodIn wsX5_read wsX5_requireNumber := goodIn_ca (goodIn_r _ [8, 9, 10] (by decide +kernel) (by decide +kernel)) (goodIn_sub (fun _ h => List.mem_cons_of_mem _ (List.mem_append_right _ h)) (by decide +kernel))
set_option maxRecDepth 20000 in
theorem gX5_read_X5_requireNumber : GoodIn wsX5_read (va_wsS RX5 52 yX5_requireNumber wsX5_requireNumber) := goodIn_app (goodIn_of _ (by decide +kernel)) ggX5_read_X5_requireNumber
set_option maxRecDepth 20000 in
theorem ggX5_read_X5_requireCell : GoodIn wsX5_read wsX5_requireCell := goodIn_ca (goodIn_r _ [13, 9, 10] (by decide +kernel) (by decide +kernel)) (goodIn_sub (fun _ h => List.mem_cons_of_mem _ (List.mem_append_right _ h)) (by decide +kernel))
set_option maxRecDepth 20000 in
theorem gX5_read_X5_requireCell : GoodIn wsX5_read (va_wsS RX5 48 yX5_requireCell wsX5_requireCell) := goodIn_app (goodIn_of _ (by decide +kernel)) ggX5_read_X5_requireCell
set_option maxRecDepth 20000 in
theorem ggX5_read_X1_keptPull : GoodIn wsX5_read wsX1_keptPull := goodIn_r _ [17, 18, 19, 7, 20, 44, 45, 46] (by decide +kernel) (by decide +kernel)
set_option maxRecDepth 20000 in
theorem gX5_read_X1_keptPull_n71 : GoodIn wsX5_read (wsX1_keptPull) := ggX5_read_X1_keptPull
set_option maxRecDepth 20000 in
theorem ggX5_read_X2_tideIn : GoodIn wsX5_read wsX2_tideIn := goodIn_r _ [24, 25, 26, 47, 48] (by decide +kernel) (by decide +kernel)
set_option maxRecDepth 20000 in
theorem gX5_read_X2_tideIn_n121 : GoodIn wsX5_read (wsX2_tideIn) := ggX5_read_X2_tideIn
set_option maxRecDepth 20000 in
theorem ggX5_read_X3_offIn : GoodIn wsX5_read wsX3_offIn := goodIn_r _ [30, 31, 32, 33, 40, 41, 42, 43] (by decide +kernel) (by decide +kernel)
set_option maxRecDepth 20000 in
theorem gX5_read_X3_offIn_n115 : GoodIn wsX5_read (wsX3_offIn) := ggX5_read_X3_offIn
theorem dX5_read_0 : decode cX5_read 0 = .ok (.iload_n 1, 1) := by decide +kernel
theorem dX5_read_1 : decode cX5_read 1 = .ok (.aload_n 0, 1) := by decide +kernel
theorem dX5_read_2 : decode cX5_read 2 = .ok (.getfield 26, 3) := by decide +kernel
theorem dX5_read_5 : decode cX5_read 5 = .ok (.getfield 99, 3) := by decide +kernel
theorem dX5_read_8 : decode cX5_read 8 = .ok (.invokestatic 52, 3) := by decide +kernel
theorem dX5_read_11 : decode cX5_read 11 = .ok (.iload_n 2, 1) := by decide +kernel
theorem dX5_read_12 : decode cX5_read 12 = .ok (.iload_n 3, 1) := by decide +kernel
theorem dX5_read_13 : decode cX5_read 13 = .ok (.invokestatic 48, 3) := by decide +kernel
theorem dX5_read_16 : decode cX5_read 16 = .ok (.aload_n 0, 1) := by decide +kernel
theorem dX5_read_17 : decode cX5_read 17 = .ok (.getfield 12, 3) := by decide +kernel
theorem dX5_read_20 : decode cX5_read 20 = .ok (.iload_n 2, 1) := by decide +kernel
theorem dX5_read_21 : decode cX5_read 21 = .ok (.iload_n 3, 1) := by decide +kernel
theorem dX5_read_22 : decode cX5_read 22 = .ok (.invokevirtual 71, 3) := by decide +kernel
theorem dX5_read_25 : decode cX5_read 25 = .ok (.aload_n 0, 1) := by decide +kernel
theorem dX5_read_26 : decode cX5_read 26 = .ok (.getfield 19, 3) := by decide +kernel
theorem dX5_read_29 : decode cX5_read 29 = .ok (.aload_n 0, 1) := by decide +kernel
theorem dX5_read_30 : decode cX5_read 30 = .ok (.getfield 44, 3) := by decide +kernel
theorem dX5_read_33 : decode cX5_read 33 = .ok (.invokevirtual 121, 3) := by decide +kernel
theorem dX5_read_36 : decode cX5_read 36 = .ok (.ladd, 1) := by decide +kernel
theorem dX5_read_37 : decode cX5_read 37 = .ok (.aload_n 0, 1) := by decide +kernel
theorem dX5_read_38 : decode cX5_read 38 = .ok (.getfield 26, 3) := by decide +kernel
theorem dX5_read_41 : decode cX5_read 41 = .ok (.iload_n 1, 1) := by decide +kernel
theorem dX5_read_42 : decode cX5_read 42 = .ok (.aload_n 0, 1) := by decide +kernel
theorem dX5_read_43 : decode cX5_read 43 = .ok (.getfield 44, 3) := by decide +kernel
theorem dX5_read_46 : decode cX5_read 46 = .ok (.invokevirtual 115, 3) := by decide +kernel
theorem dX5_read_49 : decode cX5_read 49 = .ok (.ladd, 1) := by decide +kernel
theorem dX5_read_50 : decode cX5_read 50 = .ok (.lreturn, 1) := by decide +kernel
set_option maxRecDepth 20000 in
theorem ggX5_benchmark_X5_requireRoom : GoodIn wsX5_benchmark wsX5_requireRoom := goodIn_ca (goodIn_r _ [5, 6, 7] (by decide +kernel) (by decide +kernel)) (goodIn_sub (fun _ h => List.mem_cons_of_mem _ (List.mem_append_right _ h)) (by decide +kernel))
set_option maxRecDepth 20000 in
theorem gX5_benchmark_X5_requireRoom : GoodIn wsX5_benchmark (va_wsS RX5 102 yX5_requireRoom wsX5_requireRoom) := goodIn_app (goodIn_of _ (by decide +kernel)) ggX5_benchmark_X5_requireRoom
set_option maxRecDepth 20000 in
theorem ggX5_benchmark_X4_addBenchmark : GoodIn wsX5_benchmark wsX4_addBenchmark := goodIn_r _ [11, 12, 19, 20, 21, 22, 23, 24, 25, 26, 27] (by decide +kernel) (by decide +kernel)
set_option maxRecDepth 20000 in
theorem gX5_benchmark_X4_addBenchmark_n128 : GoodIn wsX5_benchmark (wsX4_addBenchmark) := ggX5_benchmark_X4_addBenchmark
theorem dX5_benchmark_0 : decode cX5_benchmark 0 = .ok (.aload_n 0, 1) := by decide +kernel
theorem dX5_benchmark_1 : decode cX5_benchmark 1 = .ok (.getfield 33, 3) := by decide +kernel
theorem dX5_benchmark_4 : decode cX5_benchmark 4 = .ok (.getfield 125, 3) := by decide +kernel
theorem dX5_benchmark_7 : decode cX5_benchmark 7 = .ok (.bipush 10, 2) := by decide +kernel
theorem dX5_benchmark_9 : decode cX5_benchmark 9 = .ok (.invokestatic 102, 3) := by decide +kernel
theorem dX5_benchmark_12 : decode cX5_benchmark 12 = .ok (.aload_n 0, 1) := by decide +kernel
theorem dX5_benchmark_13 : decode cX5_benchmark 13 = .ok (.getfield 33, 3) := by decide +kernel
theorem dX5_benchmark_16 : decode cX5_benchmark 16 = .ok (.invokevirtual 128, 3) := by decide +kernel
theorem dX5_benchmark_19 : decode cX5_benchmark 19 = .ok (.ireturn, 1) := by decide +kernel
set_option maxRecDepth 20000 in
theorem ggX5_line_X5_requireNumber : GoodIn wsX5_line wsX5_requireNumber := goodIn_ca (goodIn_r _ [10, 11, 12] (by decide +kernel) (by decide +kernel)) (goodIn_sub (fun _ h => List.mem_cons_of_mem _ (List.mem_append_left _ (List.mem_append_right _ h))) (by decide +kernel))
set_option maxRecDepth 20000 in
theorem gX5_line_X5_requireNumber : GoodIn wsX5_line (va_wsS RX5 52 yX5_requireNumber wsX5_requireNumber) := goodIn_app (goodIn_of _ (by decide +kernel)) ggX5_line_X5_requireNumber
set_option maxRecDepth 20000 in
theorem ggX5_line_X5_requireRange : GoodIn wsX5_line wsX5_requireRange := goodIn_ca (goodIn_r _ [15, 1, 2] (by decide +kernel) (by decide +kernel)) (goodIn_sub (fun _ h => List.mem_cons_of_mem _ (List.mem_append_left _ (List.mem_append_left _ (List.mem_append_right _ h)))) (by decide +kernel))
set_option maxRecDepth 20000 in
theorem gX5_line_X5_requireRange : GoodIn wsX5_line (va_wsS RX5 57 yX5_requireRange wsX5_requireRange) := goodIn_app (goodIn_of _ (by decide +kernel)) ggX5_line_X5_requireRange
set_option maxRecDepth 20000 in
theorem ggX5_line_X5_requireRoom : GoodIn wsX5_line wsX5_requireRoom := goodIn_ca (goodIn_r _ [18, 19, 20] (by decide +kernel) (by decide +kernel)) (goodIn_sub (fun _ h => List.mem_cons_of_mem _ (List.mem_append_right _ h)) (by decide +kernel))
set_option maxRecDepth 20000 in
theorem gX5_line_X5_requireRoom : GoodIn wsX5_line (va_wsS RX5 102 yX5_requireRoom wsX5_requireRoom) := goodIn_app (goodIn_of _ (by decide +kernel)) ggX5_line_X5_requireRoom
set_option maxRecDepth 20000 in
theorem ggX5_line_X4_addLine : GoodIn wsX5_line wsX4_addLine := goodIn_r _ [24, 25, 26, 27, 28, 29, 36, 37, 38, 39, 40, 41, 42, 43, 44] (by decide +kernel) (by decide +kernel)
set_option maxRecDepth 20000 in
theorem gX5_line_X4_addLine_n142 : GoodIn wsX5_line (wsX4_addLine) := ggX5_line_X4_addLine
theorem dX5_line_0 : decode cX5_line 0 = .ok (.iload_n 1, 1) := by decide +kernel
theorem dX5_line_1 : decode cX5_line 1 = .ok (.aload_n 0, 1) := by decide +kernel
theorem dX5_line_2 : decode cX5_line 2 = .ok (.getfield 33, 3) := by decide +kernel
theorem dX5_line_5 : decode cX5_line 5 = .ok (.getfield 125, 3) := by decide +kernel
theorem dX5_line_8 : decode cX5_line 8 = .ok (.invokestatic 52, 3) := by decide +kernel
theorem dX5_line_11 : decode cX5_line 11 = .ok (.iload_n 2, 1) := by decide +kernel
theorem dX5_line_12 : decode cX5_line 12 = .ok (.aload_n 0, 1) := by decide +kernel
theorem dX5_line_13 : decode cX5_line 13 = .ok (.getfield 33, 3) := by decide +kernel
theorem dX5_line_16 : decode cX5_line 16 = .ok (.getfield 125, 3) := by decide +kernel
theorem dX5_line_19 : decode cX5_line 19 = .ok (.invokestatic 52, 3) := by decide +kernel
theorem dX5_line_22 : decode cX5_line 22 = .ok (.iload_n 1, 1) := by decide +kernel
theorem dX5_line_23 : decode cX5_line 23 = .ok (.iload_n 2, 1) := by decide +kernel
theorem dX5_line_24 : decode cX5_line 24 = .ok (.if_icmp .ne 13, 3) := by decide +kernel
theorem dX5_line_27 : decode cX5_line 27 = .ok (.new 132, 3) := by decide +kernel
theorem dX5_line_30 : decode cX5_line 30 = .ok (.dup, 1) := by decide +kernel
theorem dX5_line_31 : decode cX5_line 31 = .ok (.ldc 134, 2) := by decide +kernel
theorem dX5_line_33 : decode cX5_line 33 = .ok (.invokespecial 136, 3) := by decide +kernel
theorem dX5_line_36 : decode cX5_line 36 = .ok (.athrow, 1) := by decide +kernel
theorem dX5_line_37 : decode cX5_line 37 = .ok (.iload_n 3, 1) := by decide +kernel
theorem dX5_line_38 : decode cX5_line 38 = .ok (.i2l, 1) := by decide +kernel
theorem dX5_line_39 : decode cX5_line 39 = .ok (.ldc2_w 137, 3) := by decide +kernel
theorem dX5_line_42 : decode cX5_line 42 = .ok (.ldc2_w 78, 3) := by decide +kernel
theorem dX5_line_45 : decode cX5_line 45 = .ok (.invokestatic 57, 3) := by decide +kernel
theorem dX5_line_48 : decode cX5_line 48 = .ok (.iload 4, 2) := by decide +kernel
theorem dX5_line_50 : decode cX5_line 50 = .ok (.i2l, 1) := by decide +kernel
theorem dX5_line_51 : decode cX5_line 51 = .ok (.lconst 0, 1) := by decide +kernel
theorem dX5_line_52 : decode cX5_line 52 = .ok (.ldc2_w 97, 3) := by decide +kernel
theorem dX5_line_55 : decode cX5_line 55 = .ok (.invokestatic 57, 3) := by decide +kernel
theorem dX5_line_58 : decode cX5_line 58 = .ok (.aload_n 0, 1) := by decide +kernel
theorem dX5_line_59 : decode cX5_line 59 = .ok (.getfield 33, 3) := by decide +kernel
theorem dX5_line_62 : decode cX5_line 62 = .ok (.getfield 139, 3) := by decide +kernel
theorem dX5_line_65 : decode cX5_line 65 = .ok (.bipush 24, 2) := by decide +kernel
theorem dX5_line_67 : decode cX5_line 67 = .ok (.invokestatic 102, 3) := by decide +kernel
theorem dX5_line_70 : decode cX5_line 70 = .ok (.aload_n 0, 1) := by decide +kernel
theorem dX5_line_71 : decode cX5_line 71 = .ok (.getfield 33, 3) := by decide +kernel
theorem dX5_line_74 : decode cX5_line 74 = .ok (.iload_n 1, 1) := by decide +kernel
theorem dX5_line_75 : decode cX5_line 75 = .ok (.iload_n 2, 1) := by decide +kernel
theorem dX5_line_76 : decode cX5_line 76 = .ok (.iload_n 3, 1) := by decide +kernel
theorem dX5_line_77 : decode cX5_line 77 = .ok (.iload 4, 2) := by decide +kernel
theorem dX5_line_79 : decode cX5_line 79 = .ok (.invokevirtual 142, 3) := by decide +kernel
theorem dX5_line_82 : decode cX5_line 82 = .ok (.ireturn, 1) := by decide +kernel
set_option maxRecDepth 20000 in
theorem ggX5_height_X5_requireNumber : GoodIn wsX5_height wsX5_requireNumber := goodIn_ca (goodIn_r _ [7, 8, 9] (by decide +kernel) (by decide +kernel)) (goodIn_sub (fun _ h => List.mem_cons_of_mem _ (List.mem_append_right _ h)) (by decide +kernel))
set_option maxRecDepth 20000 in
theorem gX5_height_X5_requireNumber : GoodIn wsX5_height (va_wsS RX5 52 yX5_requireNumber wsX5_requireNumber) := goodIn_app (goodIn_of _ (by decide +kernel)) ggX5_height_X5_requireNumber
set_option maxRecDepth 20000 in
theorem ggX5_height_X4_findHeights : GoodIn wsX5_height wsX4_findHeights := goodIn_r _ [13, 14, 15, 16, 17, 18, 11, 19, 20, 21, 22, 23, 24, 25, 26, 27, 28, 29, 30, 31, 32, 33, 34, 35, 36, 43, 44, 45, 46, 47, 48, 49, 50, 51] (by decide +kernel) (by decide +kernel)
set_option maxRecDepth 20000 in
theorem gX5_height_X4_findHeights_n146 : GoodIn wsX5_height (wsX4_findHeights) := ggX5_height_X4_findHeights
theorem dX5_height_0 : decode cX5_height 0 = .ok (.iload_n 1, 1) := by decide +kernel
theorem dX5_height_1 : decode cX5_height 1 = .ok (.aload_n 0, 1) := by decide +kernel
theorem dX5_height_2 : decode cX5_height 2 = .ok (.getfield 33, 3) := by decide +kernel
theorem dX5_height_5 : decode cX5_height 5 = .ok (.getfield 125, 3) := by decide +kernel
theorem dX5_height_8 : decode cX5_height 8 = .ok (.invokestatic 52, 3) := by decide +kernel
theorem dX5_height_11 : decode cX5_height 11 = .ok (.aload_n 0, 1) := by decide +kernel
theorem dX5_height_12 : decode cX5_height 12 = .ok (.getfield 33, 3) := by decide +kernel
theorem dX5_height_15 : decode cX5_height 15 = .ok (.invokevirtual 146, 3) := by decide +kernel
theorem dX5_height_18 : decode cX5_height 18 = .ok (.aload_n 0, 1) := by decide +kernel
theorem dX5_height_19 : decode cX5_height 19 = .ok (.getfield 33, 3) := by decide +kernel
theorem dX5_height_22 : decode cX5_height 22 = .ok (.getfield 149, 3) := by decide +kernel
theorem dX5_height_25 : decode cX5_height 25 = .ok (.iload_n 1, 1) := by decide +kernel
theorem dX5_height_26 : decode cX5_height 26 = .ok (.iaload, 1) := by decide +kernel
theorem dX5_height_27 : decode cX5_height 27 = .ok (.iconst (-1), 1) := by decide +kernel
theorem dX5_height_28 : decode cX5_height 28 = .ok (.if_icmp .ne 13, 3) := by decide +kernel
theorem dX5_height_31 : decode cX5_height 31 = .ok (.new 88, 3) := by decide +kernel
theorem dX5_height_34 : decode cX5_height 34 = .ok (.dup, 1) := by decide +kernel
theorem dX5_height_35 : decode cX5_height 35 = .ok (.ldc 152, 2) := by decide +kernel
theorem dX5_height_37 : decode cX5_height 37 = .ok (.invokespecial 92, 3) := by decide +kernel
theorem dX5_height_40 : decode cX5_height 40 = .ok (.athrow, 1) := by decide +kernel
theorem dX5_height_41 : decode cX5_height 41 = .ok (.aload_n 0, 1) := by decide +kernel
theorem dX5_height_42 : decode cX5_height 42 = .ok (.getfield 33, 3) := by decide +kernel
theorem dX5_height_45 : decode cX5_height 45 = .ok (.getfield 154, 3) := by decide +kernel
theorem dX5_height_48 : decode cX5_height 48 = .ok (.iload_n 1, 1) := by decide +kernel
theorem dX5_height_49 : decode cX5_height 49 = .ok (.iaload, 1) := by decide +kernel
theorem dX5_height_50 : decode cX5_height 50 = .ok (.ireturn, 1) := by decide +kernel
set_option maxRecDepth 20000 in
theorem ggX5_doubt_X5_requireNumber : GoodIn wsX5_doubt wsX5_requireNumber := goodIn_ca (goodIn_r _ [5, 6, 7] (by decide +kernel) (by decide +kernel)) (goodIn_sub (fun _ h => List.mem_cons_of_mem _ (List.mem_append_right _ h)) (by decide +kernel))
set_option maxRecDepth 20000 in
theorem gX5_doubt_X5_requireNumber : GoodIn wsX5_doubt (va_wsS RX5 52 yX5_requireNumber wsX5_requireNumber) := goodIn_app (goodIn_of _ (by decide +kernel)) ggX5_doubt_X5_requireNumber
set_option maxRecDepth 20000 in
theorem ggX5_doubt_X4_findHeights : GoodIn wsX5_doubt wsX4_findHeights := goodIn_r _ [11, 12, 13, 14, 15, 16, 9, 17, 18, 19, 20, 21, 22, 23, 24, 25, 26, 27, 28, 29, 30, 31, 32, 33, 34, 41, 42, 43, 44, 45, 46, 47, 48, 49] (by decide +kernel) (by decide +kernel)
set_option maxRecDepth 20000 in
theorem gX5_doubt_X4_findHeights_n146 : GoodIn wsX5_doubt (wsX4_findHeights) := ggX5_doubt_X4_findHeights
theorem dX5_doubt_0 : decode cX5_doubt 0 = .ok (.iload_n 1, 1) := by decide +kernel
theorem dX5_doubt_1 : decode cX5_doubt 1 = .ok (.aload_n 0, 1) := by decide +kernel
theorem dX5_doubt_2 : decode cX5_doubt 2 = .ok (.getfield 33, 3) := by decide +kernel
theorem dX5_doubt_5 : decode cX5_doubt 5 = .ok (.getfield 125, 3) := by decide +kernel
theorem dX5_doubt_8 : decode cX5_doubt 8 = .ok (.invokestatic 52, 3) := by decide +kernel
theorem dX5_doubt_11 : decode cX5_doubt 11 = .ok (.aload_n 0, 1) := by decide +kernel
theorem dX5_doubt_12 : decode cX5_doubt 12 = .ok (.getfield 33, 3) := by decide +kernel
theorem dX5_doubt_15 : decode cX5_doubt 15 = .ok (.invokevirtual 146, 3) := by decide +kernel
theorem dX5_doubt_18 : decode cX5_doubt 18 = .ok (.aload_n 0, 1) := by decide +kernel
theorem dX5_doubt_19 : decode cX5_doubt 19 = .ok (.getfield 33, 3) := by decide +kernel
theorem dX5_doubt_22 : decode cX5_doubt 22 = .ok (.getfield 149, 3) := by decide +kernel
theorem dX5_doubt_25 : decode cX5_doubt 25 = .ok (.iload_n 1, 1) := by decide +kernel
theorem dX5_doubt_26 : decode cX5_doubt 26 = .ok (.iaload, 1) := by decide +kernel
theorem dX5_doubt_27 : decode cX5_doubt 27 = .ok (.ireturn, 1) := by decide +kernel
set_option maxRecDepth 20000 in
theorem ggX5_doubtAnew_X5_requireNumber : GoodIn wsX5_doubtAnew wsX5_requireNumber := goodIn_ca (goodIn_r _ [5, 6, 7] (by decide +kernel) (by decide +kernel)) (goodIn_sub (fun _ h => List.mem_cons_of_mem _ (List.mem_append_right _ h)) (by decide +kernel))
set_option maxRecDepth 20000 in
theorem gX5_doubtAnew_X5_requireNumber : GoodIn wsX5_doubtAnew (va_wsS RX5 52 yX5_requireNumber wsX5_requireNumber) := goodIn_app (goodIn_of _ (by decide +kernel)) ggX5_doubtAnew_X5_requireNumber
set_option maxRecDepth 20000 in
theorem ggX5_doubtAnew_X4_tryAllLines : GoodIn wsX5_doubtAnew wsX4_tryAllLines := goodIn_r _ [11, 12, 13, 14, 15, 9, 16, 17, 18, 19, 20, 21, 22, 23, 24, 25, 26, 27, 28, 35, 36, 37, 38, 39, 40, 41, 42, 43] (by decide +kernel) (by decide +kernel)
set_option maxRecDepth 20000 in
theorem gX5_doubtAnew_X4_tryAllLines_n157 : GoodIn wsX5_doubtAnew (wsX4_tryAllLines) := ggX5_doubtAnew_X4_tryAllLines
theorem dX5_doubtAnew_0 : decode cX5_doubtAnew 0 = .ok (.iload_n 1, 1) := by decide +kernel
theorem dX5_doubtAnew_1 : decode cX5_doubtAnew 1 = .ok (.aload_n 0, 1) := by decide +kernel
theorem dX5_doubtAnew_2 : decode cX5_doubtAnew 2 = .ok (.getfield 33, 3) := by decide +kernel
theorem dX5_doubtAnew_5 : decode cX5_doubtAnew 5 = .ok (.getfield 125, 3) := by decide +kernel
theorem dX5_doubtAnew_8 : decode cX5_doubtAnew 8 = .ok (.invokestatic 52, 3) := by decide +kernel
theorem dX5_doubtAnew_11 : decode cX5_doubtAnew 11 = .ok (.aload_n 0, 1) := by decide +kernel
theorem dX5_doubtAnew_12 : decode cX5_doubtAnew 12 = .ok (.getfield 33, 3) := by decide +kernel
theorem dX5_doubtAnew_15 : decode cX5_doubtAnew 15 = .ok (.invokevirtual 157, 3) := by decide +kernel
theorem dX5_doubtAnew_18 : decode cX5_doubtAnew 18 = .ok (.aload_n 0, 1) := by decide +kernel
theorem dX5_doubtAnew_19 : decode cX5_doubtAnew 19 = .ok (.getfield 33, 3) := by decide +kernel
theorem dX5_doubtAnew_22 : decode cX5_doubtAnew 22 = .ok (.getfield 160, 3) := by decide +kernel
theorem dX5_doubtAnew_25 : decode cX5_doubtAnew 25 = .ok (.iload_n 1, 1) := by decide +kernel
theorem dX5_doubtAnew_26 : decode cX5_doubtAnew 26 = .ok (.iaload, 1) := by decide +kernel
theorem dX5_doubtAnew_27 : decode cX5_doubtAnew 27 = .ok (.ireturn, 1) := by decide +kernel
set_option maxRecDepth 20000 in
theorem ggX5_isInConflict_X5_requireNumber : GoodIn wsX5_isInConflict wsX5_requireNumber := goodIn_ca (goodIn_r _ [5, 6, 7] (by decide +kernel) (by decide +kernel)) (goodIn_sub (fun _ h => List.mem_cons_of_mem _ (List.mem_append_right _ h)) (by decide +kernel))
set_option maxRecDepth 20000 in
theorem gX5_isInConflict_X5_requireNumber : GoodIn wsX5_isInConflict (va_wsS RX5 52 yX5_requireNumber wsX5_requireNumber) := goodIn_app (goodIn_of _ (by decide +kernel)) ggX5_isInConflict_X5_requireNumber
set_option maxRecDepth 20000 in
theorem ggX5_isInConflict_X4_findHeights : GoodIn wsX5_isInConflict wsX4_findHeights := goodIn_r _ [11, 12, 13, 14, 15, 16, 9, 17, 18, 19, 20, 21, 22, 23, 24, 25, 26, 27, 28, 29, 30, 31, 32, 33, 34, 48, 49, 50, 51, 52, 53, 54, 55, 56] (by decide +kernel) (by decide +kernel)
set_option maxRecDepth 20000 in
theorem gX5_isInConflict_X4_findHeights_n146 : GoodIn wsX5_isInConflict (wsX4_findHeights) := ggX5_isInConflict_X4_findHeights
set_option maxRecDepth 20000 in
theorem ggX5_isInConflict_X4_contradicts : GoodIn wsX5_isInConflict wsX4_contradicts := goodIn_r _ [37, 27, 28, 12, 34, 13, 38, 39, 40, 41, 29, 48, 49, 50, 51, 52, 53, 54, 55, 56] (by decide +kernel) (by decide +kernel)
set_option maxRecDepth 20000 in
theorem gX5_isInConflict_X4_contradicts_n163 : GoodIn wsX5_isInConflict (wsX4_contradicts) := ggX5_isInConflict_X4_contradicts
theorem dX5_isInConflict_0 : decode cX5_isInConflict 0 = .ok (.iload_n 1, 1) := by decide +kernel
theorem dX5_isInConflict_1 : decode cX5_isInConflict 1 = .ok (.aload_n 0, 1) := by decide +kernel
theorem dX5_isInConflict_2 : decode cX5_isInConflict 2 = .ok (.getfield 33, 3) := by decide +kernel
theorem dX5_isInConflict_5 : decode cX5_isInConflict 5 = .ok (.getfield 139, 3) := by decide +kernel
theorem dX5_isInConflict_8 : decode cX5_isInConflict 8 = .ok (.invokestatic 52, 3) := by decide +kernel
theorem dX5_isInConflict_11 : decode cX5_isInConflict 11 = .ok (.aload_n 0, 1) := by decide +kernel
theorem dX5_isInConflict_12 : decode cX5_isInConflict 12 = .ok (.getfield 33, 3) := by decide +kernel
theorem dX5_isInConflict_15 : decode cX5_isInConflict 15 = .ok (.invokevirtual 146, 3) := by decide +kernel
theorem dX5_isInConflict_18 : decode cX5_isInConflict 18 = .ok (.aload_n 0, 1) := by decide +kernel
theorem dX5_isInConflict_19 : decode cX5_isInConflict 19 = .ok (.getfield 33, 3) := by decide +kernel
theorem dX5_isInConflict_22 : decode cX5_isInConflict 22 = .ok (.iload_n 1, 1) := by decide +kernel
theorem dX5_isInConflict_23 : decode cX5_isInConflict 23 = .ok (.invokevirtual 163, 3) := by decide +kernel
theorem dX5_isInConflict_26 : decode cX5_isInConflict 26 = .ok (.ireturn, 1) := by decide +kernel
set_option maxRecDepth 20000 in
theorem ggX5_release_X5_requireRoom : GoodIn wsX5_release wsX5_requireRoom := goodIn_ca (goodIn_r _ [7, 8, 9] (by decide +kernel) (by decide +kernel)) (goodIn_sub (fun _ h => List.mem_cons_of_mem _ (List.mem_append_right _ h)) (by decide +kernel))
set_option maxRecDepth 20000 in
theorem gX5_release_X5_requireRoom : GoodIn wsX5_release (va_wsS RX5 102 yX5_requireRoom wsX5_requireRoom) := goodIn_app (goodIn_of _ (by decide +kernel)) ggX5_release_X5_requireRoom
set_option maxRecDepth 20000 in
theorem ggX5_release_X0_keep : GoodIn wsX5_release wsX0_keep := goodIn_r _ [13, 14, 15, 16, 17, 18, 19, 20, 27, 28, 29] (by decide +kernel) (by decide +kernel)
set_option maxRecDepth 20000 in
theorem gX5_release_X0_keep_n172 : GoodIn wsX5_release (wsX0_keep) := ggX5_release_X0_keep
theorem dX5_release_0 : decode cX5_release 0 = .ok (.aload_n 0, 1) := by decide +kernel
theorem dX5_release_1 : decode cX5_release 1 = .ok (.getfield 40, 3) := by decide +kernel
theorem dX5_release_4 : decode cX5_release 4 = .ok (.getfield 167, 3) := by decide +kernel
theorem dX5_release_7 : decode cX5_release 7 = .ok (.bipush 12, 2) := by decide +kernel
theorem dX5_release_9 : decode cX5_release 9 = .ok (.invokestatic 102, 3) := by decide +kernel
theorem dX5_release_12 : decode cX5_release 12 = .ok (.aload_n 0, 1) := by decide +kernel
theorem dX5_release_13 : decode cX5_release 13 = .ok (.getfield 40, 3) := by decide +kernel
theorem dX5_release_16 : decode cX5_release 16 = .ok (.aload_n 0, 1) := by decide +kernel
theorem dX5_release_17 : decode cX5_release 17 = .ok (.getfield 12, 3) := by decide +kernel
theorem dX5_release_20 : decode cX5_release 20 = .ok (.getfield 168, 3) := by decide +kernel
theorem dX5_release_23 : decode cX5_release 23 = .ok (.aload_n 0, 1) := by decide +kernel
theorem dX5_release_24 : decode cX5_release 24 = .ok (.getfield 44, 3) := by decide +kernel
theorem dX5_release_27 : decode cX5_release 27 = .ok (.invokevirtual 172, 3) := by decide +kernel
theorem dX5_release_30 : decode cX5_release 30 = .ok (.ireturn, 1) := by decide +kernel
set_option maxRecDepth 20000 in
theorem ggX5_trend_X5_requireNumber : GoodIn wsX5_trend wsX5_requireNumber := goodIn_ca (goodIn_r _ [7, 8, 9] (by decide +kernel) (by decide +kernel)) (goodIn_sub (fun _ h => List.mem_cons_of_mem _ (List.mem_append_right _ h)) (by decide +kernel))
set_option maxRecDepth 20000 in
theorem gX5_trend_X5_requireNumber : GoodIn wsX5_trend (va_wsS RX5 52 yX5_requireNumber wsX5_requireNumber) := goodIn_app (goodIn_of _ (by decide +kernel)) ggX5_trend_X5_requireNumber
set_option maxRecDepth 20000 in
theorem ggX5_trend_X5_requireCell : GoodIn wsX5_trend wsX5_requireCell := goodIn_ca (goodIn_r _ [12, 8, 9] (by decide +kernel) (by decide +kernel)) (goodIn_sub (fun _ h => List.mem_cons_of_mem _ (List.mem_append_right _ h)) (by decide +kernel))
set_option maxRecDepth 20000 in
theorem gX5_trend_X5_requireCell : GoodIn wsX5_trend (va_wsS RX5 48 yX5_requireCell wsX5_requireCell) := goodIn_app (goodIn_of _ (by decide +kernel)) ggX5_trend_X5_requireCell
set_option maxRecDepth 20000 in
theorem ggX5_trend_X0_trendFrom : GoodIn wsX5_trend wsX0_trendFrom := goodIn_r _ [16, 17, 18, 19, 6, 20, 21, 22, 23, 24, 31, 32, 33] (by decide +kernel) (by decide +kernel)
set_option maxRecDepth 20000 in
theorem gX5_trend_X0_trendFrom_n181 : GoodIn wsX5_trend (wsX0_trendFrom) := ggX5_trend_X0_trendFrom
theorem dX5_trend_0 : decode cX5_trend 0 = .ok (.iload_n 1, 1) := by decide +kernel
theorem dX5_trend_1 : decode cX5_trend 1 = .ok (.aload_n 0, 1) := by decide +kernel
theorem dX5_trend_2 : decode cX5_trend 2 = .ok (.getfield 40, 3) := by decide +kernel
theorem dX5_trend_5 : decode cX5_trend 5 = .ok (.getfield 167, 3) := by decide +kernel
theorem dX5_trend_8 : decode cX5_trend 8 = .ok (.invokestatic 52, 3) := by decide +kernel
theorem dX5_trend_11 : decode cX5_trend 11 = .ok (.iload_n 2, 1) := by decide +kernel
theorem dX5_trend_12 : decode cX5_trend 12 = .ok (.aload_n 0, 1) := by decide +kernel
theorem dX5_trend_13 : decode cX5_trend 13 = .ok (.getfield 40, 3) := by decide +kernel
theorem dX5_trend_16 : decode cX5_trend 16 = .ok (.getfield 167, 3) := by decide +kernel
theorem dX5_trend_19 : decode cX5_trend 19 = .ok (.invokestatic 52, 3) := by decide +kernel
theorem dX5_trend_22 : decode cX5_trend 22 = .ok (.iload_n 3, 1) := by decide +kernel
theorem dX5_trend_23 : decode cX5_trend 23 = .ok (.iload 4, 2) := by decide +kernel
theorem dX5_trend_25 : decode cX5_trend 25 = .ok (.invokestatic 48, 3) := by decide +kernel
theorem dX5_trend_28 : decode cX5_trend 28 = .ok (.aload_n 0, 1) := by decide +kernel
theorem dX5_trend_29 : decode cX5_trend 29 = .ok (.getfield 40, 3) := by decide +kernel
theorem dX5_trend_32 : decode cX5_trend 32 = .ok (.getfield 176, 3) := by decide +kernel
theorem dX5_trend_35 : decode cX5_trend 35 = .ok (.iload_n 1, 1) := by decide +kernel
theorem dX5_trend_36 : decode cX5_trend 36 = .ok (.iaload, 1) := by decide +kernel
theorem dX5_trend_37 : decode cX5_trend 37 = .ok (.aload_n 0, 1) := by decide +kernel
theorem dX5_trend_38 : decode cX5_trend 38 = .ok (.getfield 40, 3) := by decide +kernel
theorem dX5_trend_41 : decode cX5_trend 41 = .ok (.getfield 176, 3) := by decide +kernel
theorem dX5_trend_44 : decode cX5_trend 44 = .ok (.iload_n 2, 1) := by decide +kernel
theorem dX5_trend_45 : decode cX5_trend 45 = .ok (.iaload, 1) := by decide +kernel
theorem dX5_trend_46 : decode cX5_trend 46 = .ok (.if_icmp .ne 13, 3) := by decide +kernel
theorem dX5_trend_49 : decode cX5_trend 49 = .ok (.new 88, 3) := by decide +kernel
theorem dX5_trend_52 : decode cX5_trend 52 = .ok (.dup, 1) := by decide +kernel
theorem dX5_trend_53 : decode cX5_trend 53 = .ok (.ldc 179, 2) := by decide +kernel
theorem dX5_trend_55 : decode cX5_trend 55 = .ok (.invokespecial 92, 3) := by decide +kernel
theorem dX5_trend_58 : decode cX5_trend 58 = .ok (.athrow, 1) := by decide +kernel
theorem dX5_trend_59 : decode cX5_trend 59 = .ok (.aload_n 0, 1) := by decide +kernel
theorem dX5_trend_60 : decode cX5_trend 60 = .ok (.getfield 40, 3) := by decide +kernel
theorem dX5_trend_63 : decode cX5_trend 63 = .ok (.getfield 176, 3) := by decide +kernel
theorem dX5_trend_66 : decode cX5_trend 66 = .ok (.iload_n 1, 1) := by decide +kernel
theorem dX5_trend_67 : decode cX5_trend 67 = .ok (.iaload, 1) := by decide +kernel
theorem dX5_trend_68 : decode cX5_trend 68 = .ok (.aload_n 0, 1) := by decide +kernel
theorem dX5_trend_69 : decode cX5_trend 69 = .ok (.getfield 40, 3) := by decide +kernel
theorem dX5_trend_72 : decode cX5_trend 72 = .ok (.getfield 176, 3) := by decide +kernel
theorem dX5_trend_75 : decode cX5_trend 75 = .ok (.iload_n 2, 1) := by decide +kernel
theorem dX5_trend_76 : decode cX5_trend 76 = .ok (.iaload, 1) := by decide +kernel
theorem dX5_trend_77 : decode cX5_trend 77 = .ok (.if_icmp .le 7, 3) := by decide +kernel
theorem dX5_trend_80 : decode cX5_trend 80 = .ok (.iconst 1, 1) := by decide +kernel
theorem dX5_trend_81 : decode cX5_trend 81 = .ok (.goto 4, 3) := by decide +kernel
theorem dX5_trend_84 : decode cX5_trend 84 = .ok (.iconst 0, 1) := by decide +kernel
theorem dX5_trend_85 : decode cX5_trend 85 = .ok (.istore 5, 2) := by decide +kernel
theorem dX5_trend_87 : decode cX5_trend 87 = .ok (.iload 5, 2) := by decide +kernel
theorem dX5_trend_89 : decode cX5_trend 89 = .ok (.ifCond .eq 18, 3) := by decide +kernel
theorem dX5_trend_92 : decode cX5_trend 92 = .ok (.aload_n 0, 1) := by decide +kernel
theorem dX5_trend_93 : decode cX5_trend 93 = .ok (.getfield 40, 3) := by decide +kernel
theorem dX5_trend_96 : decode cX5_trend 96 = .ok (.iload_n 2, 1) := by decide +kernel
theorem dX5_trend_97 : decode cX5_trend 97 = .ok (.iload_n 1, 1) := by decide +kernel
theorem dX5_trend_98 : decode cX5_trend 98 = .ok (.iload_n 3, 1) := by decide +kernel
theorem dX5_trend_99 : decode cX5_trend 99 = .ok (.iload 4, 2) := by decide +kernel
theorem dX5_trend_101 : decode cX5_trend 101 = .ok (.invokevirtual 181, 3) := by decide +kernel
theorem dX5_trend_104 : decode cX5_trend 104 = .ok (.goto 15, 3) := by decide +kernel
theorem dX5_trend_107 : decode cX5_trend 107 = .ok (.aload_n 0, 1) := by decide +kernel
theorem dX5_trend_108 : decode cX5_trend 108 = .ok (.getfield 40, 3) := by decide +kernel
theorem dX5_trend_111 : decode cX5_trend 111 = .ok (.iload_n 1, 1) := by decide +kernel
theorem dX5_trend_112 : decode cX5_trend 112 = .ok (.iload_n 2, 1) := by decide +kernel
theorem dX5_trend_113 : decode cX5_trend 113 = .ok (.iload_n 3, 1) := by decide +kernel
theorem dX5_trend_114 : decode cX5_trend 114 = .ok (.iload 4, 2) := by decide +kernel
theorem dX5_trend_116 : decode cX5_trend 116 = .ok (.invokevirtual 181, 3) := by decide +kernel
theorem dX5_trend_119 : decode cX5_trend 119 = .ok (.lreturn, 1) := by decide +kernel
theorem dX5_requireCell_0 : decode cX5_requireCell 0 = .ok (.iload_n 0, 1) := by decide +kernel
theorem dX5_requireCell_1 : decode cX5_requireCell 1 = .ok (.ifCond .lt 19, 3) := by decide +kernel
theorem dX5_requireCell_4 : decode cX5_requireCell 4 = .ok (.iload_n 0, 1) := by decide +kernel
theorem dX5_requireCell_5 : decode cX5_requireCell 5 = .ok (.bipush 8, 2) := by decide +kernel
theorem dX5_requireCell_7 : decode cX5_requireCell 7 = .ok (.if_icmp .ge 13, 3) := by decide +kernel
theorem dX5_requireCell_10 : decode cX5_requireCell 10 = .ok (.iload_n 1, 1) := by decide +kernel
theorem dX5_requireCell_11 : decode cX5_requireCell 11 = .ok (.ifCond .lt 9, 3) := by decide +kernel
theorem dX5_requireCell_14 : decode cX5_requireCell 14 = .ok (.iload_n 1, 1) := by decide +kernel
theorem dX5_requireCell_15 : decode cX5_requireCell 15 = .ok (.bipush 8, 2) := by decide +kernel
theorem dX5_requireCell_17 : decode cX5_requireCell 17 = .ok (.if_icmp .lt 13, 3) := by decide +kernel
theorem dX5_requireCell_20 : decode cX5_requireCell 20 = .ok (.new 185, 3) := by decide +kernel
theorem dX5_requireCell_23 : decode cX5_requireCell 23 = .ok (.dup, 1) := by decide +kernel
theorem dX5_requireCell_24 : decode cX5_requireCell 24 = .ok (.ldc 187, 2) := by decide +kernel
theorem dX5_requireCell_26 : decode cX5_requireCell 26 = .ok (.invokespecial 189, 3) := by decide +kernel
theorem dX5_requireCell_29 : decode cX5_requireCell 29 = .ok (.athrow, 1) := by decide +kernel
theorem dX5_requireCell_30 : decode cX5_requireCell 30 = .ok (.return_, 1) := by decide +kernel
theorem dX5_requireNumber_0 : decode cX5_requireNumber 0 = .ok (.iload_n 0, 1) := by decide +kernel
theorem dX5_requireNumber_1 : decode cX5_requireNumber 1 = .ok (.ifCond .lt 8, 3) := by decide +kernel
theorem dX5_requireNumber_4 : decode cX5_requireNumber 4 = .ok (.iload_n 0, 1) := by decide +kernel
theorem dX5_requireNumber_5 : decode cX5_requireNumber 5 = .ok (.iload_n 1, 1) := by decide +kernel
theorem dX5_requireNumber_6 : decode cX5_requireNumber 6 = .ok (.if_icmp .lt 13, 3) := by decide +kernel
theorem dX5_requireNumber_9 : decode cX5_requireNumber 9 = .ok (.new 185, 3) := by decide +kernel
theorem dX5_requireNumber_12 : decode cX5_requireNumber 12 = .ok (.dup, 1) := by decide +kernel
theorem dX5_requireNumber_13 : decode cX5_requireNumber 13 = .ok (.ldc 190, 2) := by decide +kernel
theorem dX5_requireNumber_15 : decode cX5_requireNumber 15 = .ok (.invokespecial 189, 3) := by decide +kernel
theorem dX5_requireNumber_18 : decode cX5_requireNumber 18 = .ok (.athrow, 1) := by decide +kernel
theorem dX5_requireNumber_19 : decode cX5_requireNumber 19 = .ok (.return_, 1) := by decide +kernel
theorem dX5_requireRange_0 : decode cX5_requireRange 0 = .ok (.lload_n 0, 1) := by decide +kernel
theorem dX5_requireRange_1 : decode cX5_requireRange 1 = .ok (.lload_n 2, 1) := by decide +kernel
theorem dX5_requireRange_2 : decode cX5_requireRange 2 = .ok (.lcmp, 1) := by decide +kernel
theorem dX5_requireRange_3 : decode cX5_requireRange 3 = .ok (.ifCond .lt 10, 3) := by decide +kernel
theorem dX5_requireRange_6 : decode cX5_requireRange 6 = .ok (.lload_n 0, 1) := by decide +kernel
theorem dX5_requireRange_7 : decode cX5_requireRange 7 = .ok (.lload 4, 2) := by decide +kernel
theorem dX5_requireRange_9 : decode cX5_requireRange 9 = .ok (.lcmp, 1) := by decide +kernel
theorem dX5_requireRange_10 : decode cX5_requireRange 10 = .ok (.ifCond .le 13, 3) := by decide +kernel
theorem dX5_requireRange_13 : decode cX5_requireRange 13 = .ok (.new 132, 3) := by decide +kernel
theorem dX5_requireRange_16 : decode cX5_requireRange 16 = .ok (.dup, 1) := by decide +kernel
theorem dX5_requireRange_17 : decode cX5_requireRange 17 = .ok (.ldc 192, 2) := by decide +kernel
theorem dX5_requireRange_19 : decode cX5_requireRange 19 = .ok (.invokespecial 136, 3) := by decide +kernel
theorem dX5_requireRange_22 : decode cX5_requireRange 22 = .ok (.athrow, 1) := by decide +kernel
theorem dX5_requireRange_23 : decode cX5_requireRange 23 = .ok (.return_, 1) := by decide +kernel
theorem dX5_requireRoom_0 : decode cX5_requireRoom 0 = .ok (.iload_n 0, 1) := by decide +kernel
theorem dX5_requireRoom_1 : decode cX5_requireRoom 1 = .ok (.iload_n 1, 1) := by decide +kernel
theorem dX5_requireRoom_2 : decode cX5_requireRoom 2 = .ok (.if_icmp .lt 13, 3) := by decide +kernel
theorem dX5_requireRoom_5 : decode cX5_requireRoom 5 = .ok (.new 88, 3) := by decide +kernel
theorem dX5_requireRoom_8 : decode cX5_requireRoom 8 = .ok (.dup, 1) := by decide +kernel
theorem dX5_requireRoom_9 : decode cX5_requireRoom 9 = .ok (.ldc 194, 2) := by decide +kernel
theorem dX5_requireRoom_11 : decode cX5_requireRoom 11 = .ok (.invokespecial 92, 3) := by decide +kernel
theorem dX5_requireRoom_14 : decode cX5_requireRoom 14 = .ok (.athrow, 1) := by decide +kernel
theorem dX5_requireRoom_15 : decode cX5_requireRoom 15 = .ok (.return_, 1) := by decide +kernel
theorem dX5_cellNumber_0 : decode cX5_cellNumber 0 = .ok (.iload_n 1, 1) := by decide +kernel
theorem dX5_cellNumber_1 : decode cX5_cellNumber 1 = .ok (.bipush 8, 2) := by decide +kernel
theorem dX5_cellNumber_3 : decode cX5_cellNumber 3 = .ok (.imul, 1) := by decide +kernel
theorem dX5_cellNumber_4 : decode cX5_cellNumber 4 = .ok (.iload_n 0, 1) := by decide +kernel
theorem dX5_cellNumber_5 : decode cX5_cellNumber 5 = .ok (.iadd, 1) := by decide +kernel
theorem dX5_cellNumber_6 : decode cX5_cellNumber 6 = .ok (.ireturn, 1) := by decide +kernel
theorem dX6_init_0 : decode cX6_init 0 = .ok (.aload_n 0, 1) := by decide +kernel
theorem dX6_init_1 : decode cX6_init 1 = .ok (.invokespecial 1, 3) := by decide +kernel
theorem dX6_init_4 : decode cX6_init 4 = .ok (.aload_n 0, 1) := by decide +kernel
theorem dX6_init_5 : decode cX6_init 5 = .ok (.sipush 256, 3) := by decide +kernel
theorem dX6_init_8 : decode cX6_init 8 = .ok (.newarray .long, 2) := by decide +kernel
theorem dX6_init_10 : decode cX6_init 10 = .ok (.putfield 7, 3) := by decide +kernel
theorem dX6_init_13 : decode cX6_init 13 = .ok (.aload_n 0, 1) := by decide +kernel
theorem dX6_init_14 : decode cX6_init 14 = .ok (.iconst 1, 1) := by decide +kernel
theorem dX6_init_15 : decode cX6_init 15 = .ok (.putfield 13, 3) := by decide +kernel
theorem dX6_init_18 : decode cX6_init 18 = .ok (.aload_n 0, 1) := by decide +kernel
theorem dX6_init_19 : decode cX6_init 19 = .ok (.bipush 6, 2) := by decide +kernel
theorem dX6_init_21 : decode cX6_init 21 = .ok (.newarray .int, 2) := by decide +kernel
theorem dX6_init_23 : decode cX6_init 23 = .ok (.putfield 17, 3) := by decide +kernel
theorem dX6_init_26 : decode cX6_init 26 = .ok (.aload_n 0, 1) := by decide +kernel
theorem dX6_init_27 : decode cX6_init 27 = .ok (.bipush 6, 2) := by decide +kernel
theorem dX6_init_29 : decode cX6_init 29 = .ok (.newarray .int, 2) := by decide +kernel
theorem dX6_init_31 : decode cX6_init 31 = .ok (.putfield 21, 3) := by decide +kernel
theorem dX6_init_34 : decode cX6_init 34 = .ok (.aload_n 0, 1) := by decide +kernel
theorem dX6_init_35 : decode cX6_init 35 = .ok (.bipush 6, 2) := by decide +kernel
theorem dX6_init_37 : decode cX6_init 37 = .ok (.newarray .int, 2) := by decide +kernel
theorem dX6_init_39 : decode cX6_init 39 = .ok (.putfield 24, 3) := by decide +kernel
theorem dX6_init_42 : decode cX6_init 42 = .ok (.aload_n 0, 1) := by decide +kernel
theorem dX6_init_43 : decode cX6_init 43 = .ok (.bipush 24, 2) := by decide +kernel
theorem dX6_init_45 : decode cX6_init 45 = .ok (.newarray .int, 2) := by decide +kernel
theorem dX6_init_47 : decode cX6_init 47 = .ok (.putfield 27, 3) := by decide +kernel
theorem dX6_init_50 : decode cX6_init 50 = .ok (.aload_n 0, 1) := by decide +kernel
theorem dX6_init_51 : decode cX6_init 51 = .ok (.bipush 24, 2) := by decide +kernel
theorem dX6_init_53 : decode cX6_init 53 = .ok (.newarray .int, 2) := by decide +kernel
theorem dX6_init_55 : decode cX6_init 55 = .ok (.putfield 30, 3) := by decide +kernel
theorem dX6_init_58 : decode cX6_init 58 = .ok (.aload_n 0, 1) := by decide +kernel
theorem dX6_init_59 : decode cX6_init 59 = .ok (.bipush 24, 2) := by decide +kernel
theorem dX6_init_61 : decode cX6_init 61 = .ok (.newarray .int, 2) := by decide +kernel
theorem dX6_init_63 : decode cX6_init 63 = .ok (.putfield 33, 3) := by decide +kernel
theorem dX6_init_66 : decode cX6_init 66 = .ok (.aload_n 0, 1) := by decide +kernel
theorem dX6_init_67 : decode cX6_init 67 = .ok (.bipush 24, 2) := by decide +kernel
theorem dX6_init_69 : decode cX6_init 69 = .ok (.newarray .int, 2) := by decide +kernel
theorem dX6_init_71 : decode cX6_init 71 = .ok (.putfield 36, 3) := by decide +kernel
theorem dX6_init_74 : decode cX6_init 74 = .ok (.aload_n 0, 1) := by decide +kernel
theorem dX6_init_75 : decode cX6_init 75 = .ok (.bipush 10, 2) := by decide +kernel
theorem dX6_init_77 : decode cX6_init 77 = .ok (.newarray .int, 2) := by decide +kernel
theorem dX6_init_79 : decode cX6_init 79 = .ok (.putfield 39, 3) := by decide +kernel
theorem dX6_init_82 : decode cX6_init 82 = .ok (.aload_n 0, 1) := by decide +kernel
theorem dX6_init_83 : decode cX6_init 83 = .ok (.bipush 10, 2) := by decide +kernel
theorem dX6_init_85 : decode cX6_init 85 = .ok (.newarray .int, 2) := by decide +kernel
theorem dX6_init_87 : decode cX6_init 87 = .ok (.putfield 42, 3) := by decide +kernel
theorem dX6_init_90 : decode cX6_init 90 = .ok (.aload_n 0, 1) := by decide +kernel
theorem dX6_init_91 : decode cX6_init 91 = .ok (.sipush 768, 3) := by decide +kernel
theorem dX6_init_94 : decode cX6_init 94 = .ok (.newarray .long, 2) := by decide +kernel
theorem dX6_init_96 : decode cX6_init 96 = .ok (.putfield 45, 3) := by decide +kernel
theorem dX6_init_99 : decode cX6_init 99 = .ok (.aload_n 0, 1) := by decide +kernel
theorem dX6_init_100 : decode cX6_init 100 = .ok (.bipush 12, 2) := by decide +kernel
theorem dX6_init_102 : decode cX6_init 102 = .ok (.newarray .int, 2) := by decide +kernel
theorem dX6_init_104 : decode cX6_init 104 = .ok (.putfield 48, 3) := by decide +kernel
theorem dX6_init_107 : decode cX6_init 107 = .ok (.aload_n 0, 1) := by decide +kernel
theorem dX6_init_108 : decode cX6_init 108 = .ok (.iconst 0, 1) := by decide +kernel
theorem dX6_init_109 : decode cX6_init 109 = .ok (.putfield 51, 3) := by decide +kernel
theorem dX6_init_112 : decode cX6_init 112 = .ok (.return_, 1) := by decide +kernel
theorem dX6_thrown_0 : decode cX6_thrown 0 = .ok (.aload_n 0, 1) := by decide +kernel
theorem dX6_thrown_1 : decode cX6_thrown 1 = .ok (.getfield 54, 3) := by decide +kernel
theorem dX6_thrown_4 : decode cX6_thrown 4 = .ok (.ireturn, 1) := by decide +kernel
theorem dX6_holds_0 : decode cX6_holds 0 = .ok (.aload_n 0, 1) := by decide +kernel
theorem dX6_holds_1 : decode cX6_holds 1 = .ok (.iload_n 1, 1) := by decide +kernel
theorem dX6_holds_2 : decode cX6_holds 2 = .ok (.putfield 54, 3) := by decide +kernel
theorem dX6_holds_5 : decode cX6_holds 5 = .ok (.iload_n 1, 1) := by decide +kernel
theorem dX6_holds_6 : decode cX6_holds 6 = .ok (.ifCond .ne 7, 3) := by decide +kernel
theorem dX6_holds_9 : decode cX6_holds 9 = .ok (.iconst 1, 1) := by decide +kernel
theorem dX6_holds_10 : decode cX6_holds 10 = .ok (.goto 4, 3) := by decide +kernel
theorem dX6_holds_13 : decode cX6_holds 13 = .ok (.iconst 0, 1) := by decide +kernel
theorem dX6_holds_14 : decode cX6_holds 14 = .ok (.ireturn, 1) := by decide +kernel
theorem dX6_isIn_0 : decode cX6_isIn 0 = .ok (.lload_n 0, 1) := by decide +kernel
theorem dX6_isIn_1 : decode cX6_isIn 1 = .ok (.lload_n 2, 1) := by decide +kernel
theorem dX6_isIn_2 : decode cX6_isIn 2 = .ok (.lcmp, 1) := by decide +kernel
theorem dX6_isIn_3 : decode cX6_isIn 3 = .ok (.ifCond .lt 14, 3) := by decide +kernel
theorem dX6_isIn_6 : decode cX6_isIn 6 = .ok (.lload_n 0, 1) := by decide +kernel
theorem dX6_isIn_7 : decode cX6_isIn 7 = .ok (.lload 4, 2) := by decide +kernel
theorem dX6_isIn_9 : decode cX6_isIn 9 = .ok (.lcmp, 1) := by decide +kernel
theorem dX6_isIn_10 : decode cX6_isIn 10 = .ok (.ifCond .gt 7, 3) := by decide +kernel
theorem dX6_isIn_13 : decode cX6_isIn 13 = .ok (.iconst 1, 1) := by decide +kernel
theorem dX6_isIn_14 : decode cX6_isIn 14 = .ok (.goto 4, 3) := by decide +kernel
theorem dX6_isIn_17 : decode cX6_isIn 17 = .ok (.iconst 0, 1) := by decide +kernel
theorem dX6_isIn_18 : decode cX6_isIn 18 = .ok (.ireturn, 1) := by decide +kernel
set_option maxRecDepth 20000 in
theorem ggX6_isCell_X6_isIn : GoodIn wsX6_isCell wsX6_isIn := goodIn_r _ [5] (by decide +kernel) (by decide +kernel)
set_option maxRecDepth 20000 in
theorem gX6_isCell_X6_isIn : GoodIn wsX6_isCell (va_wsS RX6 59 yX6_isIn wsX6_isIn) := goodIn_app (goodIn_of _ (by decide +kernel)) ggX6_isCell_X6_isIn
theorem dX6_isCell_0 : decode cX6_isCell 0 = .ok (.iload_n 0, 1) := by decide +kernel
theorem dX6_isCell_1 : decode cX6_isCell 1 = .ok (.i2l, 1) := by decide +kernel
theorem dX6_isCell_2 : decode cX6_isCell 2 = .ok (.lconst 0, 1) := by decide +kernel
theorem dX6_isCell_3 : decode cX6_isCell 3 = .ok (.ldc2_w 57, 3) := by decide +kernel
theorem dX6_isCell_6 : decode cX6_isCell 6 = .ok (.invokestatic 59, 3) := by decide +kernel
theorem dX6_isCell_9 : decode cX6_isCell 9 = .ok (.ifCond .eq 19, 3) := by decide +kernel
theorem dX6_isCell_12 : decode cX6_isCell 12 = .ok (.iload_n 1, 1) := by decide +kernel
theorem dX6_isCell_13 : decode cX6_isCell 13 = .ok (.i2l, 1) := by decide +kernel
theorem dX6_isCell_14 : decode cX6_isCell 14 = .ok (.lconst 0, 1) := by decide +kernel
theorem dX6_isCell_15 : decode cX6_isCell 15 = .ok (.ldc2_w 57, 3) := by decide +kernel
theorem dX6_isCell_18 : decode cX6_isCell 18 = .ok (.invokestatic 59, 3) := by decide +kernel
theorem dX6_isCell_21 : decode cX6_isCell 21 = .ok (.ifCond .eq 7, 3) := by decide +kernel
theorem dX6_isCell_24 : decode cX6_isCell 24 = .ok (.iconst 1, 1) := by decide +kernel
theorem dX6_isCell_25 : decode cX6_isCell 25 = .ok (.goto 4, 3) := by decide +kernel
theorem dX6_isCell_28 : decode cX6_isCell 28 = .ok (.iconst 0, 1) := by decide +kernel
theorem dX6_isCell_29 : decode cX6_isCell 29 = .ok (.ireturn, 1) := by decide +kernel
set_option maxRecDepth 20000 in
theorem ggX6_isNeedle_X6_isIn : GoodIn wsX6_isNeedle wsX6_isIn := goodIn_r _ [5] (by decide +kernel) (by decide +kernel)
set_option maxRecDepth 20000 in
theorem gX6_isNeedle_X6_isIn : GoodIn wsX6_isNeedle (va_wsS RX6 59 yX6_isIn wsX6_isIn) := goodIn_app (goodIn_of _ (by decide +kernel)) ggX6_isNeedle_X6_isIn
theorem dX6_isNeedle_0 : decode cX6_isNeedle 0 = .ok (.iload_n 1, 1) := by decide +kernel
theorem dX6_isNeedle_1 : decode cX6_isNeedle 1 = .ok (.i2l, 1) := by decide +kernel
theorem dX6_isNeedle_2 : decode cX6_isNeedle 2 = .ok (.lconst 0, 1) := by decide +kernel
theorem dX6_isNeedle_3 : decode cX6_isNeedle 3 = .ok (.aload_n 0, 1) := by decide +kernel
theorem dX6_isNeedle_4 : decode cX6_isNeedle 4 = .ok (.getfield 63, 3) := by decide +kernel
theorem dX6_isNeedle_7 : decode cX6_isNeedle 7 = .ok (.iconst 1, 1) := by decide +kernel
theorem dX6_isNeedle_8 : decode cX6_isNeedle 8 = .ok (.isub, 1) := by decide +kernel
theorem dX6_isNeedle_9 : decode cX6_isNeedle 9 = .ok (.i2l, 1) := by decide +kernel
theorem dX6_isNeedle_10 : decode cX6_isNeedle 10 = .ok (.invokestatic 59, 3) := by decide +kernel
theorem dX6_isNeedle_13 : decode cX6_isNeedle 13 = .ok (.ireturn, 1) := by decide +kernel
set_option maxRecDepth 20000 in
theorem ggX6_isBenchmark_X6_isIn : GoodIn wsX6_isBenchmark wsX6_isIn := goodIn_r _ [5] (by decide +kernel) (by decide +kernel)
set_option maxRecDepth 20000 in
theorem gX6_isBenchmark_X6_isIn : GoodIn wsX6_isBenchmark (va_wsS RX6 59 yX6_isIn wsX6_isIn) := goodIn_app (goodIn_of _ (by decide +kernel)) ggX6_isBenchmark_X6_isIn
theorem dX6_isBenchmark_0 : decode cX6_isBenchmark 0 = .ok (.iload_n 1, 1) := by decide +kernel
theorem dX6_isBenchmark_1 : decode cX6_isBenchmark 1 = .ok (.i2l, 1) := by decide +kernel
theorem dX6_isBenchmark_2 : decode cX6_isBenchmark 2 = .ok (.lconst 0, 1) := by decide +kernel
theorem dX6_isBenchmark_3 : decode cX6_isBenchmark 3 = .ok (.aload_n 0, 1) := by decide +kernel
theorem dX6_isBenchmark_4 : decode cX6_isBenchmark 4 = .ok (.getfield 66, 3) := by decide +kernel
theorem dX6_isBenchmark_7 : decode cX6_isBenchmark 7 = .ok (.iconst 1, 1) := by decide +kernel
theorem dX6_isBenchmark_8 : decode cX6_isBenchmark 8 = .ok (.isub, 1) := by decide +kernel
theorem dX6_isBenchmark_9 : decode cX6_isBenchmark 9 = .ok (.i2l, 1) := by decide +kernel
theorem dX6_isBenchmark_10 : decode cX6_isBenchmark 10 = .ok (.invokestatic 59, 3) := by decide +kernel
theorem dX6_isBenchmark_13 : decode cX6_isBenchmark 13 = .ok (.ireturn, 1) := by decide +kernel
set_option maxRecDepth 20000 in
theorem ggX6_isRelease_X6_isIn : GoodIn wsX6_isRelease wsX6_isIn := goodIn_r _ [5] (by decide +kernel) (by decide +kernel)
set_option maxRecDepth 20000 in
theorem gX6_isRelease_X6_isIn : GoodIn wsX6_isRelease (va_wsS RX6 59 yX6_isIn wsX6_isIn) := goodIn_app (goodIn_of _ (by decide +kernel)) ggX6_isRelease_X6_isIn
theorem dX6_isRelease_0 : decode cX6_isRelease 0 = .ok (.iload_n 1, 1) := by decide +kernel
theorem dX6_isRelease_1 : decode cX6_isRelease 1 = .ok (.i2l, 1) := by decide +kernel
theorem dX6_isRelease_2 : decode cX6_isRelease 2 = .ok (.lconst 0, 1) := by decide +kernel
theorem dX6_isRelease_3 : decode cX6_isRelease 3 = .ok (.aload_n 0, 1) := by decide +kernel
theorem dX6_isRelease_4 : decode cX6_isRelease 4 = .ok (.getfield 69, 3) := by decide +kernel
theorem dX6_isRelease_7 : decode cX6_isRelease 7 = .ok (.iconst 1, 1) := by decide +kernel
theorem dX6_isRelease_8 : decode cX6_isRelease 8 = .ok (.isub, 1) := by decide +kernel
theorem dX6_isRelease_9 : decode cX6_isRelease 9 = .ok (.i2l, 1) := by decide +kernel
theorem dX6_isRelease_10 : decode cX6_isRelease 10 = .ok (.invokestatic 59, 3) := by decide +kernel
theorem dX6_isRelease_13 : decode cX6_isRelease 13 = .ok (.ireturn, 1) := by decide +kernel
theorem dX6_changed_0 : decode cX6_changed 0 = .ok (.aload_n 0, 1) := by decide +kernel
theorem dX6_changed_1 : decode cX6_changed 1 = .ok (.getfield 7, 3) := by decide +kernel
theorem dX6_changed_4 : decode cX6_changed 4 = .ok (.iload_n 1, 1) := by decide +kernel
theorem dX6_changed_5 : decode cX6_changed 5 = .ok (.laload, 1) := by decide +kernel
theorem dX6_changed_6 : decode cX6_changed 6 = .ok (.lstore 4, 2) := by decide +kernel
theorem dX6_changed_8 : decode cX6_changed 8 = .ok (.aload_n 0, 1) := by decide +kernel
theorem dX6_changed_9 : decode cX6_changed 9 = .ok (.getfield 7, 3) := by decide +kernel
theorem dX6_changed_12 : decode cX6_changed 12 = .ok (.iload_n 1, 1) := by decide +kernel
theorem dX6_changed_13 : decode cX6_changed 13 = .ok (.lload_n 2, 1) := by decide +kernel
theorem dX6_changed_14 : decode cX6_changed 14 = .ok (.lastore, 1) := by decide +kernel
theorem dX6_changed_15 : decode cX6_changed 15 = .ok (.lload 4, 2) := by decide +kernel
theorem dX6_changed_17 : decode cX6_changed 17 = .ok (.lreturn, 1) := by decide +kernel
set_option maxRecDepth 20000 in
theorem ggX6_mass_X6_isCell : GoodIn wsX6_mass wsX6_isCell := goodIn_r _ [6, 7, 8, 9, 5, 10] (by decide +kernel) (by decide +kernel)
set_option maxRecDepth 20000 in
theorem gX6_mass_X6_isCell : GoodIn wsX6_mass (va_wsS RX6 72 yX6_isCell wsX6_isCell) := goodIn_app (goodIn_of _ (by decide +kernel)) ggX6_mass_X6_isCell
set_option maxRecDepth 20000 in
theorem ggX6_mass_X6_isIn : GoodIn wsX6_mass wsX6_isIn := goodIn_r _ [10] (by decide +kernel) (by decide +kernel)
set_option maxRecDepth 20000 in
theorem gX6_mass_X6_isIn : GoodIn wsX6_mass (va_wsS RX6 59 yX6_isIn wsX6_isIn) := goodIn_app (goodIn_of _ (by decide +kernel)) ggX6_mass_X6_isIn
set_option maxRecDepth 20000 in
theorem ggX6_mass_X6_holds : GoodIn wsX6_mass wsX6_holds := goodIn_r _ [14, 15, 21, 22, 23, 24, 25, 26, 27, 28, 29, 30, 31, 32, 33, 34, 35, 36, 37, 38, 39, 40] (by decide +kernel) (by decide +kernel)
set_option maxRecDepth 20000 in
theorem gX6_mass_X6_holds : GoodIn wsX6_mass (wsV RX6 80 RX6 yX6_holds wsX6_holds) := goodIn_app (goodIn_of _ (by decide +kernel)) ggX6_mass_X6_holds
set_option maxRecDepth 20000 in
theorem ggX6_mass_X6_changed : GoodIn wsX6_mass wsX6_changed := goodIn_r _ [19, 20, 21, 22, 23, 24, 25, 26, 27, 28, 29, 30, 31, 32, 33, 34, 35, 36, 37, 38, 39, 40] (by decide +kernel) (by decide +kernel)
end
section
set_option maxRecDepth 20000 in
theorem gX6_mass_X6_changed : GoodIn wsX6_mass (wsV RX6 84 RX6 yX6_changed wsX6_changed) := goodIn_app (goodIn_of _ (by decide +kernel)) ggX6_mass_X6_changed
theorem dX6_mass_0 : decode cX6_mass 0 = .ok (.iload_n 1, 1) := by decide +kernel
theorem dX6_mass_1 : decode cX6_mass 1 = .ok (.iload_n 2, 1) := by decide +kernel
theorem dX6_mass_2 : decode cX6_mass 2 = .ok (.invokestatic 72, 3) := by decide +kernel
theorem dX6_mass_5 : decode cX6_mass 5 = .ok (.ifCond .eq 19, 3) := by decide +kernel
theorem dX6_mass_8 : decode cX6_mass 8 = .ok (.iload_n 3, 1) := by decide +kernel
theorem dX6_mass_9 : decode cX6_mass 9 = .ok (.i2l, 1) := by decide +kernel
theorem dX6_mass_10 : decode cX6_mass 10 = .ok (.lconst 0, 1) := by decide +kernel
theorem dX6_mass_11 : decode cX6_mass 11 = .ok (.ldc2_w 76, 3) := by decide +kernel
theorem dX6_mass_14 : decode cX6_mass 14 = .ok (.invokestatic 59, 3) := by decide +kernel
theorem dX6_mass_17 : decode cX6_mass 17 = .ok (.ifCond .eq 7, 3) := by decide +kernel
theorem dX6_mass_20 : decode cX6_mass 20 = .ok (.iconst 1, 1) := by decide +kernel
theorem dX6_mass_21 : decode cX6_mass 21 = .ok (.goto 4, 3) := by decide +kernel
theorem dX6_mass_24 : decode cX6_mass 24 = .ok (.iconst 0, 1) := by decide +kernel
theorem dX6_mass_25 : decode cX6_mass 25 = .ok (.istore 6, 2) := by decide +kernel
theorem dX6_mass_27 : decode cX6_mass 27 = .ok (.aload_n 0, 1) := by decide +kernel
theorem dX6_mass_28 : decode cX6_mass 28 = .ok (.iload 6, 2) := by decide +kernel
theorem dX6_mass_30 : decode cX6_mass 30 = .ok (.ifCond .ne 7, 3) := by decide +kernel
theorem dX6_mass_33 : decode cX6_mass 33 = .ok (.iconst 1, 1) := by decide +kernel
theorem dX6_mass_34 : decode cX6_mass 34 = .ok (.goto 20, 3) := by decide +kernel
theorem dX6_mass_37 : decode cX6_mass 37 = .ok (.lload 4, 2) := by decide +kernel
theorem dX6_mass_39 : decode cX6_mass 39 = .ok (.lconst 0, 1) := by decide +kernel
theorem dX6_mass_40 : decode cX6_mass 40 = .ok (.ldc2_w 78, 3) := by decide +kernel
theorem dX6_mass_43 : decode cX6_mass 43 = .ok (.invokestatic 59, 3) := by decide +kernel
theorem dX6_mass_46 : decode cX6_mass 46 = .ok (.ifCond .ne 7, 3) := by decide +kernel
theorem dX6_mass_49 : decode cX6_mass 49 = .ok (.iconst 2, 1) := by decide +kernel
theorem dX6_mass_50 : decode cX6_mass 50 = .ok (.goto 4, 3) := by decide +kernel
theorem dX6_mass_53 : decode cX6_mass 53 = .ok (.iconst 0, 1) := by decide +kernel
theorem dX6_mass_54 : decode cX6_mass 54 = .ok (.invokevirtual 80, 3) := by decide +kernel
theorem dX6_mass_57 : decode cX6_mass 57 = .ok (.ifCond .eq 23, 3) := by decide +kernel
theorem dX6_mass_60 : decode cX6_mass 60 = .ok (.aload_n 0, 1) := by decide +kernel
theorem dX6_mass_61 : decode cX6_mass 61 = .ok (.bipush 64, 2) := by decide +kernel
theorem dX6_mass_63 : decode cX6_mass 63 = .ok (.iload_n 3, 1) := by decide +kernel
theorem dX6_mass_64 : decode cX6_mass 64 = .ok (.imul, 1) := by decide +kernel
theorem dX6_mass_65 : decode cX6_mass 65 = .ok (.bipush 8, 2) := by decide +kernel
theorem dX6_mass_67 : decode cX6_mass 67 = .ok (.iload_n 2, 1) := by decide +kernel
theorem dX6_mass_68 : decode cX6_mass 68 = .ok (.imul, 1) := by decide +kernel
theorem dX6_mass_69 : decode cX6_mass 69 = .ok (.iadd, 1) := by decide +kernel
theorem dX6_mass_70 : decode cX6_mass 70 = .ok (.iload_n 1, 1) := by decide +kernel
theorem dX6_mass_71 : decode cX6_mass 71 = .ok (.iadd, 1) := by decide +kernel
theorem dX6_mass_72 : decode cX6_mass 72 = .ok (.lload 4, 2) := by decide +kernel
theorem dX6_mass_74 : decode cX6_mass 74 = .ok (.invokevirtual 84, 3) := by decide +kernel
theorem dX6_mass_77 : decode cX6_mass 77 = .ok (.goto 4, 3) := by decide +kernel
theorem dX6_mass_80 : decode cX6_mass 80 = .ok (.lconst 0, 1) := by decide +kernel
theorem dX6_mass_81 : decode cX6_mass 81 = .ok (.lreturn, 1) := by decide +kernel
set_option maxRecDepth 20000 in
theorem ggX6_water_X6_isCell : GoodIn wsX6_water wsX6_isCell := goodIn_r _ [5, 6, 7, 8, 4, 9] (by decide +kernel) (by decide +kernel)
set_option maxRecDepth 20000 in
theorem gX6_water_X6_isCell : GoodIn wsX6_water (va_wsS RX6 72 yX6_isCell wsX6_isCell) := goodIn_app (goodIn_of _ (by decide +kernel)) ggX6_water_X6_isCell
set_option maxRecDepth 20000 in
theorem ggX6_water_X6_isIn : GoodIn wsX6_water wsX6_isIn := goodIn_r _ [9] (by decide +kernel) (by decide +kernel)
set_option maxRecDepth 20000 in
theorem gX6_water_X6_isIn : GoodIn wsX6_water (va_wsS RX6 59 yX6_isIn wsX6_isIn) := goodIn_app (goodIn_of _ (by decide +kernel)) ggX6_water_X6_isIn
set_option maxRecDepth 20000 in
theorem ggX6_water_X6_holds : GoodIn wsX6_water wsX6_holds := goodIn_r _ [13, 14, 20, 21, 22, 23, 24, 25, 26, 27, 28, 29, 30, 31, 32, 33, 34, 35, 36, 37, 38, 39] (by decide +kernel) (by decide +kernel)
set_option maxRecDepth 20000 in
theorem gX6_water_X6_holds : GoodIn wsX6_water (wsV RX6 80 RX6 yX6_holds wsX6_holds) := goodIn_app (goodIn_of _ (by decide +kernel)) ggX6_water_X6_holds
set_option maxRecDepth 20000 in
theorem ggX6_water_X6_changed : GoodIn wsX6_water wsX6_changed := goodIn_r _ [18, 19, 20, 21, 22, 23, 24, 25, 26, 27, 28, 29, 30, 31, 32, 33, 34, 35, 36, 37, 38, 39] (by decide +kernel) (by decide +kernel)
set_option maxRecDepth 20000 in
theorem gX6_water_X6_changed : GoodIn wsX6_water (wsV RX6 84 RX6 yX6_changed wsX6_changed) := goodIn_app (goodIn_of _ (by decide +kernel)) ggX6_water_X6_changed
theorem dX6_water_0 : decode cX6_water 0 = .ok (.iload_n 1, 1) := by decide +kernel
theorem dX6_water_1 : decode cX6_water 1 = .ok (.iload_n 2, 1) := by decide +kernel
theorem dX6_water_2 : decode cX6_water 2 = .ok (.invokestatic 72, 3) := by decide +kernel
theorem dX6_water_5 : decode cX6_water 5 = .ok (.istore 5, 2) := by decide +kernel
theorem dX6_water_7 : decode cX6_water 7 = .ok (.aload_n 0, 1) := by decide +kernel
theorem dX6_water_8 : decode cX6_water 8 = .ok (.iload 5, 2) := by decide +kernel
theorem dX6_water_10 : decode cX6_water 10 = .ok (.ifCond .ne 7, 3) := by decide +kernel
theorem dX6_water_13 : decode cX6_water 13 = .ok (.iconst 1, 1) := by decide +kernel
theorem dX6_water_14 : decode cX6_water 14 = .ok (.goto 19, 3) := by decide +kernel
theorem dX6_water_17 : decode cX6_water 17 = .ok (.lload_n 3, 1) := by decide +kernel
theorem dX6_water_18 : decode cX6_water 18 = .ok (.lconst 0, 1) := by decide +kernel
theorem dX6_water_19 : decode cX6_water 19 = .ok (.ldc2_w 88, 3) := by decide +kernel
theorem dX6_water_22 : decode cX6_water 22 = .ok (.invokestatic 59, 3) := by decide +kernel
theorem dX6_water_25 : decode cX6_water 25 = .ok (.ifCond .ne 7, 3) := by decide +kernel
theorem dX6_water_28 : decode cX6_water 28 = .ok (.iconst 2, 1) := by decide +kernel
theorem dX6_water_29 : decode cX6_water 29 = .ok (.goto 4, 3) := by decide +kernel
theorem dX6_water_32 : decode cX6_water 32 = .ok (.iconst 0, 1) := by decide +kernel
theorem dX6_water_33 : decode cX6_water 33 = .ok (.invokevirtual 80, 3) := by decide +kernel
theorem dX6_water_36 : decode cX6_water 36 = .ok (.ifCond .eq 21, 3) := by decide +kernel
theorem dX6_water_39 : decode cX6_water 39 = .ok (.aload_n 0, 1) := by decide +kernel
theorem dX6_water_40 : decode cX6_water 40 = .ok (.sipush 192, 3) := by decide +kernel
theorem dX6_water_43 : decode cX6_water 43 = .ok (.bipush 8, 2) := by decide +kernel
theorem dX6_water_45 : decode cX6_water 45 = .ok (.iload_n 2, 1) := by decide +kernel
theorem dX6_water_46 : decode cX6_water 46 = .ok (.imul, 1) := by decide +kernel
theorem dX6_water_47 : decode cX6_water 47 = .ok (.iadd, 1) := by decide +kernel
theorem dX6_water_48 : decode cX6_water 48 = .ok (.iload_n 1, 1) := by decide +kernel
theorem dX6_water_49 : decode cX6_water 49 = .ok (.iadd, 1) := by decide +kernel
theorem dX6_water_50 : decode cX6_water 50 = .ok (.lload_n 3, 1) := by decide +kernel
theorem dX6_water_51 : decode cX6_water 51 = .ok (.invokevirtual 84, 3) := by decide +kernel
theorem dX6_water_54 : decode cX6_water 54 = .ok (.goto 4, 3) := by decide +kernel
theorem dX6_water_57 : decode cX6_water 57 = .ok (.lconst 0, 1) := by decide +kernel
theorem dX6_water_58 : decode cX6_water 58 = .ok (.lreturn, 1) := by decide +kernel
theorem dX6_pullAt_0 : decode cX6_pullAt 0 = .ok (.lconst 0, 1) := by decide +kernel
theorem dX6_pullAt_1 : decode cX6_pullAt 1 = .ok (.lstore_n 3, 1) := by decide +kernel
theorem dX6_pullAt_2 : decode cX6_pullAt 2 = .ok (.iconst 0, 1) := by decide +kernel
theorem dX6_pullAt_3 : decode cX6_pullAt 3 = .ok (.istore 5, 2) := by decide +kernel
theorem dX6_pullAt_5 : decode cX6_pullAt 5 = .ok (.iload 5, 2) := by decide +kernel
theorem dX6_pullAt_7 : decode cX6_pullAt 7 = .ok (.sipush 256, 3) := by decide +kernel
theorem dX6_pullAt_10 : decode cX6_pullAt 10 = .ok (.if_icmp .ge 88, 3) := by decide +kernel
theorem dX6_pullAt_13 : decode cX6_pullAt 13 = .ok (.iload 5, 2) := by decide +kernel
theorem dX6_pullAt_15 : decode cX6_pullAt 15 = .ok (.bipush 64, 2) := by decide +kernel
theorem dX6_pullAt_17 : decode cX6_pullAt 17 = .ok (.idiv, 1) := by decide +kernel
theorem dX6_pullAt_18 : decode cX6_pullAt 18 = .ok (.istore 6, 2) := by decide +kernel
theorem dX6_pullAt_20 : decode cX6_pullAt 20 = .ok (.iload 5, 2) := by decide +kernel
theorem dX6_pullAt_22 : decode cX6_pullAt 22 = .ok (.bipush 8, 2) := by decide +kernel
theorem dX6_pullAt_24 : decode cX6_pullAt 24 = .ok (.irem, 1) := by decide +kernel
theorem dX6_pullAt_25 : decode cX6_pullAt 25 = .ok (.iload_n 1, 1) := by decide +kernel
theorem dX6_pullAt_26 : decode cX6_pullAt 26 = .ok (.isub, 1) := by decide +kernel
theorem dX6_pullAt_27 : decode cX6_pullAt 27 = .ok (.istore 7, 2) := by decide +kernel
theorem dX6_pullAt_29 : decode cX6_pullAt 29 = .ok (.iload 5, 2) := by decide +kernel
theorem dX6_pullAt_31 : decode cX6_pullAt 31 = .ok (.bipush 64, 2) := by decide +kernel
theorem dX6_pullAt_33 : decode cX6_pullAt 33 = .ok (.irem, 1) := by decide +kernel
theorem dX6_pullAt_34 : decode cX6_pullAt 34 = .ok (.bipush 8, 2) := by decide +kernel
theorem dX6_pullAt_36 : decode cX6_pullAt 36 = .ok (.idiv, 1) := by decide +kernel
theorem dX6_pullAt_37 : decode cX6_pullAt 37 = .ok (.iload_n 2, 1) := by decide +kernel
theorem dX6_pullAt_38 : decode cX6_pullAt 38 = .ok (.isub, 1) := by decide +kernel
theorem dX6_pullAt_39 : decode cX6_pullAt 39 = .ok (.istore 8, 2) := by decide +kernel
theorem dX6_pullAt_41 : decode cX6_pullAt 41 = .ok (.iload 6, 2) := by decide +kernel
theorem dX6_pullAt_43 : decode cX6_pullAt 43 = .ok (.iconst 3, 1) := by decide +kernel
theorem dX6_pullAt_44 : decode cX6_pullAt 44 = .ok (.if_icmp .ne 7, 3) := by decide +kernel
theorem dX6_pullAt_47 : decode cX6_pullAt 47 = .ok (.iconst 1, 1) := by decide +kernel
theorem dX6_pullAt_48 : decode cX6_pullAt 48 = .ok (.goto 12, 3) := by decide +kernel
theorem dX6_pullAt_51 : decode cX6_pullAt 51 = .ok (.iload 6, 2) := by decide +kernel
theorem dX6_pullAt_53 : decode cX6_pullAt 53 = .ok (.iconst 1, 1) := by decide +kernel
theorem dX6_pullAt_54 : decode cX6_pullAt 54 = .ok (.iadd, 1) := by decide +kernel
theorem dX6_pullAt_55 : decode cX6_pullAt 55 = .ok (.iload 6, 2) := by decide +kernel
theorem dX6_pullAt_57 : decode cX6_pullAt 57 = .ok (.iconst 1, 1) := by decide +kernel
theorem dX6_pullAt_58 : decode cX6_pullAt 58 = .ok (.iadd, 1) := by decide +kernel
theorem dX6_pullAt_59 : decode cX6_pullAt 59 = .ok (.imul, 1) := by decide +kernel
theorem dX6_pullAt_60 : decode cX6_pullAt 60 = .ok (.istore 9, 2) := by decide +kernel
theorem dX6_pullAt_62 : decode cX6_pullAt 62 = .ok (.lload_n 3, 1) := by decide +kernel
theorem dX6_pullAt_63 : decode cX6_pullAt 63 = .ok (.aload_n 0, 1) := by decide +kernel
theorem dX6_pullAt_64 : decode cX6_pullAt 64 = .ok (.getfield 7, 3) := by decide +kernel
theorem dX6_pullAt_67 : decode cX6_pullAt 67 = .ok (.iload 5, 2) := by decide +kernel
theorem dX6_pullAt_69 : decode cX6_pullAt 69 = .ok (.laload, 1) := by decide +kernel
theorem dX6_pullAt_70 : decode cX6_pullAt 70 = .ok (.ldc2_w 90, 3) := by decide +kernel
theorem dX6_pullAt_73 : decode cX6_pullAt 73 = .ok (.lmul, 1) := by decide +kernel
theorem dX6_pullAt_74 : decode cX6_pullAt 74 = .ok (.iload 7, 2) := by decide +kernel
theorem dX6_pullAt_76 : decode cX6_pullAt 76 = .ok (.iload 7, 2) := by decide +kernel
theorem dX6_pullAt_78 : decode cX6_pullAt 78 = .ok (.imul, 1) := by decide +kernel
theorem dX6_pullAt_79 : decode cX6_pullAt 79 = .ok (.iload 8, 2) := by decide +kernel
theorem dX6_pullAt_81 : decode cX6_pullAt 81 = .ok (.iload 8, 2) := by decide +kernel
theorem dX6_pullAt_83 : decode cX6_pullAt 83 = .ok (.imul, 1) := by decide +kernel
theorem dX6_pullAt_84 : decode cX6_pullAt 84 = .ok (.iadd, 1) := by decide +kernel
theorem dX6_pullAt_85 : decode cX6_pullAt 85 = .ok (.iload 9, 2) := by decide +kernel
theorem dX6_pullAt_87 : decode cX6_pullAt 87 = .ok (.iadd, 1) := by decide +kernel
theorem dX6_pullAt_88 : decode cX6_pullAt 88 = .ok (.i2l, 1) := by decide +kernel
theorem dX6_pullAt_89 : decode cX6_pullAt 89 = .ok (.ldiv, 1) := by decide +kernel
theorem dX6_pullAt_90 : decode cX6_pullAt 90 = .ok (.ladd, 1) := by decide +kernel
theorem dX6_pullAt_91 : decode cX6_pullAt 91 = .ok (.lstore_n 3, 1) := by decide +kernel
theorem dX6_pullAt_92 : decode cX6_pullAt 92 = .ok (.iinc 5 1, 3) := by decide +kernel
theorem dX6_pullAt_95 : decode cX6_pullAt 95 = .ok (.goto (-90), 3) := by decide +kernel
theorem dX6_pullAt_98 : decode cX6_pullAt 98 = .ok (.lload_n 3, 1) := by decide +kernel
theorem dX6_pullAt_99 : decode cX6_pullAt 99 = .ok (.lreturn, 1) := by decide +kernel
set_option maxRecDepth 20000 in
theorem ggX6_pull_X6_isCell : GoodIn wsX6_pull wsX6_isCell := goodIn_r _ [4, 5, 6, 7, 3, 8] (by decide +kernel) (by decide +kernel)
set_option maxRecDepth 20000 in
theorem gX6_pull_X6_isCell : GoodIn wsX6_pull (va_wsS RX6 72 yX6_isCell wsX6_isCell) := goodIn_app (goodIn_of _ (by decide +kernel)) ggX6_pull_X6_isCell
set_option maxRecDepth 20000 in
theorem ggX6_pull_X6_holds : GoodIn wsX6_pull wsX6_holds := goodIn_r _ [12, 13, 20, 21, 22, 23, 24, 25, 26, 27, 28, 29, 30, 31, 32, 33, 34, 35, 36, 37, 38, 39] (by decide +kernel) (by decide +kernel)
set_option maxRecDepth 20000 in
theorem gX6_pull_X6_holds : GoodIn wsX6_pull (wsV RX6 80 RX6 yX6_holds wsX6_holds) := goodIn_app (goodIn_of _ (by decide +kernel)) ggX6_pull_X6_holds
set_option maxRecDepth 20000 in
theorem ggX6_pull_X6_pullAt : GoodIn wsX6_pull wsX6_pullAt := goodIn_r _ [17, 18, 19, 20, 21, 22, 23, 24, 25, 26, 27, 28, 29, 30, 31, 32, 33, 34, 35, 36, 37, 38, 39] (by decide +kernel) (by decide +kernel)
set_option maxRecDepth 20000 in
theorem gX6_pull_X6_pullAt : GoodIn wsX6_pull (wsV RX6 92 RX6 yX6_pullAt wsX6_pullAt) := goodIn_app (goodIn_of _ (by decide +kernel)) ggX6_pull_X6_pullAt
theorem dX6_pull_0 : decode cX6_pull 0 = .ok (.aload_n 0, 1) := by decide +kernel
theorem dX6_pull_1 : decode cX6_pull 1 = .ok (.iload_n 1, 1) := by decide +kernel
theorem dX6_pull_2 : decode cX6_pull 2 = .ok (.iload_n 2, 1) := by decide +kernel
theorem dX6_pull_3 : decode cX6_pull 3 = .ok (.invokestatic 72, 3) := by decide +kernel
theorem dX6_pull_6 : decode cX6_pull 6 = .ok (.ifCond .eq 7, 3) := by decide +kernel
theorem dX6_pull_9 : decode cX6_pull 9 = .ok (.iconst 0, 1) := by decide +kernel
theorem dX6_pull_10 : decode cX6_pull 10 = .ok (.goto 4, 3) := by decide +kernel
theorem dX6_pull_13 : decode cX6_pull 13 = .ok (.iconst 1, 1) := by decide +kernel
theorem dX6_pull_14 : decode cX6_pull 14 = .ok (.invokevirtual 80, 3) := by decide +kernel
theorem dX6_pull_17 : decode cX6_pull 17 = .ok (.ifCond .eq 12, 3) := by decide +kernel
theorem dX6_pull_20 : decode cX6_pull 20 = .ok (.aload_n 0, 1) := by decide +kernel
theorem dX6_pull_21 : decode cX6_pull 21 = .ok (.iload_n 1, 1) := by decide +kernel
theorem dX6_pull_22 : decode cX6_pull 22 = .ok (.iload_n 2, 1) := by decide +kernel
theorem dX6_pull_23 : decode cX6_pull 23 = .ok (.invokevirtual 92, 3) := by decide +kernel
theorem dX6_pull_26 : decode cX6_pull 26 = .ok (.goto 4, 3) := by decide +kernel
theorem dX6_pull_29 : decode cX6_pull 29 = .ok (.lconst 0, 1) := by decide +kernel
theorem dX6_pull_30 : decode cX6_pull 30 = .ok (.lreturn, 1) := by decide +kernel
set_option maxRecDepth 20000 in
theorem ggX6_pullAnew_X6_isCell : GoodIn wsX6_pullAnew wsX6_isCell := goodIn_r _ [4, 5, 6, 7, 3, 8] (by decide +kernel) (by decide +kernel)
set_option maxRecDepth 20000 in
theorem gX6_pullAnew_X6_isCell : GoodIn wsX6_pullAnew (va_wsS RX6 72 yX6_isCell wsX6_isCell) := goodIn_app (goodIn_of _ (by decide +kernel)) ggX6_pullAnew_X6_isCell
set_option maxRecDepth 20000 in
theorem ggX6_pullAnew_X6_holds : GoodIn wsX6_pullAnew wsX6_holds := goodIn_r _ [12, 13, 20, 21, 22, 23, 24, 25, 26, 27, 28, 29, 30, 31, 32, 33, 34, 35, 36, 37, 38, 39] (by decide +kernel) (by decide +kernel)
set_option maxRecDepth 20000 in
theorem gX6_pullAnew_X6_holds : GoodIn wsX6_pullAnew (wsV RX6 80 RX6 yX6_holds wsX6_holds) := goodIn_app (goodIn_of _ (by decide +kernel)) ggX6_pullAnew_X6_holds
set_option maxRecDepth 20000 in
theorem ggX6_pullAnew_X6_pullAt : GoodIn wsX6_pullAnew wsX6_pullAt := goodIn_r _ [17, 18, 19, 20, 21, 22, 23, 24, 25, 26, 27, 28, 29, 30, 31, 32, 33, 34, 35, 36, 37, 38, 39] (by decide +kernel) (by decide +kernel)
set_option maxRecDepth 20000 in
theorem gX6_pullAnew_X6_pullAt : GoodIn wsX6_pullAnew (wsV RX6 92 RX6 yX6_pullAt wsX6_pullAt) := goodIn_app (goodIn_of _ (by decide +kernel)) ggX6_pullAnew_X6_pullAt
theorem dX6_pullAnew_0 : decode cX6_pullAnew 0 = .ok (.aload_n 0, 1) := by decide +kernel
theorem dX6_pullAnew_1 : decode cX6_pullAnew 1 = .ok (.iload_n 1, 1) := by decide +kernel
theorem dX6_pullAnew_2 : decode cX6_pullAnew 2 = .ok (.iload_n 2, 1) := by decide +kernel
theorem dX6_pullAnew_3 : decode cX6_pullAnew 3 = .ok (.invokestatic 72, 3) := by decide +kernel
theorem dX6_pullAnew_6 : decode cX6_pullAnew 6 = .ok (.ifCond .eq 7, 3) := by decide +kernel
theorem dX6_pullAnew_9 : decode cX6_pullAnew 9 = .ok (.iconst 0, 1) := by decide +kernel
theorem dX6_pullAnew_10 : decode cX6_pullAnew 10 = .ok (.goto 4, 3) := by decide +kernel
theorem dX6_pullAnew_13 : decode cX6_pullAnew 13 = .ok (.iconst 1, 1) := by decide +kernel
theorem dX6_pullAnew_14 : decode cX6_pullAnew 14 = .ok (.invokevirtual 80, 3) := by decide +kernel
theorem dX6_pullAnew_17 : decode cX6_pullAnew 17 = .ok (.ifCond .eq 12, 3) := by decide +kernel
theorem dX6_pullAnew_20 : decode cX6_pullAnew 20 = .ok (.aload_n 0, 1) := by decide +kernel
theorem dX6_pullAnew_21 : decode cX6_pullAnew 21 = .ok (.iload_n 1, 1) := by decide +kernel
theorem dX6_pullAnew_22 : decode cX6_pullAnew 22 = .ok (.iload_n 2, 1) := by decide +kernel
theorem dX6_pullAnew_23 : decode cX6_pullAnew 23 = .ok (.invokevirtual 92, 3) := by decide +kernel
theorem dX6_pullAnew_26 : decode cX6_pullAnew 26 = .ok (.goto 4, 3) := by decide +kernel
theorem dX6_pullAnew_29 : decode cX6_pullAnew 29 = .ok (.lconst 0, 1) := by decide +kernel
theorem dX6_pullAnew_30 : decode cX6_pullAnew 30 = .ok (.lreturn, 1) := by decide +kernel
set_option maxRecDepth 20000 in
theorem ggX6_gap_X6_isCell : GoodIn wsX6_gap wsX6_isCell := goodIn_r _ [4, 5, 6, 7, 3, 8] (by decide +kernel) (by decide +kernel)
set_option maxRecDepth 20000 in
theorem gX6_gap_X6_isCell : GoodIn wsX6_gap (va_wsS RX6 72 yX6_isCell wsX6_isCell) := goodIn_app (goodIn_of _ (by decide +kernel)) ggX6_gap_X6_isCell
set_option maxRecDepth 20000 in
theorem ggX6_gap_X6_holds : GoodIn wsX6_gap wsX6_holds := goodIn_r _ [12, 13, 20, 21, 22, 23, 24, 25, 26, 27, 28, 29, 30, 31, 32, 33, 34, 35, 36, 37, 38, 39] (by decide +kernel) (by decide +kernel)
set_option maxRecDepth 20000 in
theorem gX6_gap_X6_holds : GoodIn wsX6_gap (wsV RX6 80 RX6 yX6_holds wsX6_holds) := goodIn_app (goodIn_of _ (by decide +kernel)) ggX6_gap_X6_holds
set_option maxRecDepth 20000 in
theorem ggX6_gap_X6_pullAt : GoodIn wsX6_gap wsX6_pullAt := goodIn_r _ [17, 18, 19, 20, 21, 22, 23, 24, 25, 26, 27, 28, 29, 30, 31, 32, 33, 34, 35, 36, 37, 38, 39] (by decide +kernel) (by decide +kernel)
set_option maxRecDepth 20000 in
theorem gX6_gap_X6_pullAt : GoodIn wsX6_gap (wsV RX6 92 RX6 yX6_pullAt wsX6_pullAt) := goodIn_app (goodIn_of _ (by decide +kernel)) ggX6_gap_X6_pullAt
theorem dX6_gap_0 : decode cX6_gap 0 = .ok (.aload_n 0, 1) := by decide +kernel
theorem dX6_gap_1 : decode cX6_gap 1 = .ok (.iload_n 1, 1) := by decide +kernel
theorem dX6_gap_2 : decode cX6_gap 2 = .ok (.iload_n 2, 1) := by decide +kernel
theorem dX6_gap_3 : decode cX6_gap 3 = .ok (.invokestatic 72, 3) := by decide +kernel
theorem dX6_gap_6 : decode cX6_gap 6 = .ok (.ifCond .eq 13, 3) := by decide +kernel
theorem dX6_gap_9 : decode cX6_gap 9 = .ok (.iload_n 1, 1) := by decide +kernel
theorem dX6_gap_10 : decode cX6_gap 10 = .ok (.bipush 7, 2) := by decide +kernel
theorem dX6_gap_12 : decode cX6_gap 12 = .ok (.if_icmp .ge 7, 3) := by decide +kernel
theorem dX6_gap_15 : decode cX6_gap 15 = .ok (.iconst 0, 1) := by decide +kernel
theorem dX6_gap_16 : decode cX6_gap 16 = .ok (.goto 4, 3) := by decide +kernel
theorem dX6_gap_19 : decode cX6_gap 19 = .ok (.iconst 1, 1) := by decide +kernel
theorem dX6_gap_20 : decode cX6_gap 20 = .ok (.invokevirtual 80, 3) := by decide +kernel
theorem dX6_gap_23 : decode cX6_gap 23 = .ok (.ifCond .eq 21, 3) := by decide +kernel
theorem dX6_gap_26 : decode cX6_gap 26 = .ok (.aload_n 0, 1) := by decide +kernel
theorem dX6_gap_27 : decode cX6_gap 27 = .ok (.iload_n 1, 1) := by decide +kernel
theorem dX6_gap_28 : decode cX6_gap 28 = .ok (.iconst 1, 1) := by decide +kernel
theorem dX6_gap_29 : decode cX6_gap 29 = .ok (.iadd, 1) := by decide +kernel
theorem dX6_gap_30 : decode cX6_gap 30 = .ok (.iload_n 2, 1) := by decide +kernel
theorem dX6_gap_31 : decode cX6_gap 31 = .ok (.invokevirtual 92, 3) := by decide +kernel
theorem dX6_gap_34 : decode cX6_gap 34 = .ok (.aload_n 0, 1) := by decide +kernel
theorem dX6_gap_35 : decode cX6_gap 35 = .ok (.iload_n 1, 1) := by decide +kernel
theorem dX6_gap_36 : decode cX6_gap 36 = .ok (.iload_n 2, 1) := by decide +kernel
theorem dX6_gap_37 : decode cX6_gap 37 = .ok (.invokevirtual 92, 3) := by decide +kernel
theorem dX6_gap_40 : decode cX6_gap 40 = .ok (.lsub, 1) := by decide +kernel
theorem dX6_gap_41 : decode cX6_gap 41 = .ok (.goto 4, 3) := by decide +kernel
theorem dX6_gap_44 : decode cX6_gap 44 = .ok (.lconst 0, 1) := by decide +kernel
theorem dX6_gap_45 : decode cX6_gap 45 = .ok (.lreturn, 1) := by decide +kernel
set_option maxRecDepth 20000 in
theorem ggX6_tide_X6_isIn : GoodIn wsX6_tide wsX6_isIn := goodIn_r _ [8] (by decide +kernel) (by decide +kernel)
set_option maxRecDepth 20000 in
theorem gX6_tide_X6_isIn : GoodIn wsX6_tide (va_wsS RX6 59 yX6_isIn wsX6_isIn) := goodIn_app (goodIn_of _ (by decide +kernel)) ggX6_tide_X6_isIn
set_option maxRecDepth 20000 in
theorem ggX6_tide_X6_holds : GoodIn wsX6_tide wsX6_holds := goodIn_r _ [12, 13, 14, 15, 16, 17, 18, 19, 20, 21, 22, 23, 24, 25, 26, 27, 28, 29, 30, 31, 32, 33] (by decide +kernel) (by decide +kernel)
set_option maxRecDepth 20000 in
theorem gX6_tide_X6_holds : GoodIn wsX6_tide (wsV RX6 80 RX6 yX6_holds wsX6_holds) := goodIn_app (goodIn_of _ (by decide +kernel)) ggX6_tide_X6_holds
theorem dX6_tide_0 : decode cX6_tide 0 = .ok (.aload_n 0, 1) := by decide +kernel
theorem dX6_tide_1 : decode cX6_tide 1 = .ok (.iload_n 1, 1) := by decide +kernel
theorem dX6_tide_2 : decode cX6_tide 2 = .ok (.i2l, 1) := by decide +kernel
theorem dX6_tide_3 : decode cX6_tide 3 = .ok (.lconst 0, 1) := by decide +kernel
theorem dX6_tide_4 : decode cX6_tide 4 = .ok (.ldc2_w 90, 3) := by decide +kernel
theorem dX6_tide_7 : decode cX6_tide 7 = .ok (.invokestatic 59, 3) := by decide +kernel
theorem dX6_tide_10 : decode cX6_tide 10 = .ok (.ifCond .eq 19, 3) := by decide +kernel
theorem dX6_tide_13 : decode cX6_tide 13 = .ok (.iload_n 2, 1) := by decide +kernel
theorem dX6_tide_14 : decode cX6_tide 14 = .ok (.i2l, 1) := by decide +kernel
theorem dX6_tide_15 : decode cX6_tide 15 = .ok (.lconst 1, 1) := by decide +kernel
theorem dX6_tide_16 : decode cX6_tide 16 = .ok (.ldc2_w 96, 3) := by decide +kernel
theorem dX6_tide_19 : decode cX6_tide 19 = .ok (.invokestatic 59, 3) := by decide +kernel
theorem dX6_tide_22 : decode cX6_tide 22 = .ok (.ifCond .eq 7, 3) := by decide +kernel
theorem dX6_tide_25 : decode cX6_tide 25 = .ok (.iconst 0, 1) := by decide +kernel
theorem dX6_tide_26 : decode cX6_tide 26 = .ok (.goto 4, 3) := by decide +kernel
theorem dX6_tide_29 : decode cX6_tide 29 = .ok (.iconst 1, 1) := by decide +kernel
theorem dX6_tide_30 : decode cX6_tide 30 = .ok (.invokevirtual 80, 3) := by decide +kernel
theorem dX6_tide_33 : decode cX6_tide 33 = .ok (.ifCond .ne 5, 3) := by decide +kernel
theorem dX6_tide_36 : decode cX6_tide 36 = .ok (.iconst 0, 1) := by decide +kernel
theorem dX6_tide_37 : decode cX6_tide 37 = .ok (.ireturn, 1) := by decide +kernel
theorem dX6_tide_38 : decode cX6_tide 38 = .ok (.aload_n 0, 1) := by decide +kernel
theorem dX6_tide_39 : decode cX6_tide 39 = .ok (.getfield 98, 3) := by decide +kernel
theorem dX6_tide_42 : decode cX6_tide 42 = .ok (.istore_n 3, 1) := by decide +kernel
theorem dX6_tide_43 : decode cX6_tide 43 = .ok (.aload_n 0, 1) := by decide +kernel
theorem dX6_tide_44 : decode cX6_tide 44 = .ok (.iload_n 1, 1) := by decide +kernel
theorem dX6_tide_45 : decode cX6_tide 45 = .ok (.putfield 98, 3) := by decide +kernel
theorem dX6_tide_48 : decode cX6_tide 48 = .ok (.aload_n 0, 1) := by decide +kernel
theorem dX6_tide_49 : decode cX6_tide 49 = .ok (.iload_n 2, 1) := by decide +kernel
theorem dX6_tide_50 : decode cX6_tide 50 = .ok (.putfield 13, 3) := by decide +kernel
theorem dX6_tide_53 : decode cX6_tide 53 = .ok (.iload_n 3, 1) := by decide +kernel
theorem dX6_tide_54 : decode cX6_tide 54 = .ok (.ireturn, 1) := by decide +kernel
set_option maxRecDepth 20000 in
theorem ggX6_pass_X6_isIn : GoodIn wsX6_pass wsX6_isIn := goodIn_r _ [6] (by decide +kernel) (by decide +kernel)
set_option maxRecDepth 20000 in
theorem gX6_pass_X6_isIn : GoodIn wsX6_pass (va_wsS RX6 59 yX6_isIn wsX6_isIn) := goodIn_app (goodIn_of _ (by decide +kernel)) ggX6_pass_X6_isIn
set_option maxRecDepth 20000 in
theorem ggX6_pass_X6_holds : GoodIn wsX6_pass wsX6_holds := goodIn_r _ [10, 11, 12, 13, 14, 15, 16, 17, 18, 19, 20, 21, 22, 23, 24, 25, 26, 27, 28, 29, 30, 31] (by decide +kernel) (by decide +kernel)
set_option maxRecDepth 20000 in
theorem gX6_pass_X6_holds : GoodIn wsX6_pass (wsV RX6 80 RX6 yX6_holds wsX6_holds) := goodIn_app (goodIn_of _ (by decide +kernel)) ggX6_pass_X6_holds
theorem dX6_pass_0 : decode cX6_pass 0 = .ok (.aload_n 0, 1) := by decide +kernel
theorem dX6_pass_1 : decode cX6_pass 1 = .ok (.iload_n 1, 1) := by decide +kernel
theorem dX6_pass_2 : decode cX6_pass 2 = .ok (.i2l, 1) := by decide +kernel
theorem dX6_pass_3 : decode cX6_pass 3 = .ok (.lconst 1, 1) := by decide +kernel
theorem dX6_pass_4 : decode cX6_pass 4 = .ok (.ldc2_w 101, 3) := by decide +kernel
theorem dX6_pass_7 : decode cX6_pass 7 = .ok (.invokestatic 59, 3) := by decide +kernel
theorem dX6_pass_10 : decode cX6_pass 10 = .ok (.ifCond .ne 7, 3) := by decide +kernel
theorem dX6_pass_13 : decode cX6_pass 13 = .ok (.iconst 1, 1) := by decide +kernel
theorem dX6_pass_14 : decode cX6_pass 14 = .ok (.goto 20, 3) := by decide +kernel
theorem dX6_pass_17 : decode cX6_pass 17 = .ok (.aload_n 0, 1) := by decide +kernel
theorem dX6_pass_18 : decode cX6_pass 18 = .ok (.getfield 51, 3) := by decide +kernel
theorem dX6_pass_21 : decode cX6_pass 21 = .ok (.iload_n 1, 1) := by decide +kernel
theorem dX6_pass_22 : decode cX6_pass 22 = .ok (.iadd, 1) := by decide +kernel
theorem dX6_pass_23 : decode cX6_pass 23 = .ok (.sipush 3000, 3) := by decide +kernel
theorem dX6_pass_26 : decode cX6_pass 26 = .ok (.if_icmp .le 7, 3) := by decide +kernel
theorem dX6_pass_29 : decode cX6_pass 29 = .ok (.iconst 2, 1) := by decide +kernel
theorem dX6_pass_30 : decode cX6_pass 30 = .ok (.goto 4, 3) := by decide +kernel
theorem dX6_pass_33 : decode cX6_pass 33 = .ok (.iconst 0, 1) := by decide +kernel
theorem dX6_pass_34 : decode cX6_pass 34 = .ok (.invokevirtual 80, 3) := by decide +kernel
theorem dX6_pass_37 : decode cX6_pass 37 = .ok (.ifCond .ne 5, 3) := by decide +kernel
theorem dX6_pass_40 : decode cX6_pass 40 = .ok (.iconst 0, 1) := by decide +kernel
theorem dX6_pass_41 : decode cX6_pass 41 = .ok (.ireturn, 1) := by decide +kernel
theorem dX6_pass_42 : decode cX6_pass 42 = .ok (.aload_n 0, 1) := by decide +kernel
theorem dX6_pass_43 : decode cX6_pass 43 = .ok (.dup, 1) := by decide +kernel
theorem dX6_pass_44 : decode cX6_pass 44 = .ok (.getfield 51, 3) := by decide +kernel
theorem dX6_pass_47 : decode cX6_pass 47 = .ok (.iload_n 1, 1) := by decide +kernel
theorem dX6_pass_48 : decode cX6_pass 48 = .ok (.iadd, 1) := by decide +kernel
theorem dX6_pass_49 : decode cX6_pass 49 = .ok (.putfield 51, 3) := by decide +kernel
theorem dX6_pass_52 : decode cX6_pass 52 = .ok (.aload_n 0, 1) := by decide +kernel
theorem dX6_pass_53 : decode cX6_pass 53 = .ok (.getfield 51, 3) := by decide +kernel
theorem dX6_pass_56 : decode cX6_pass 56 = .ok (.ireturn, 1) := by decide +kernel
set_option maxRecDepth 20000 in
theorem ggX6_needle_X6_isIn : GoodIn wsX6_needle wsX6_isIn := goodIn_r _ [11] (by decide +kernel) (by decide +kernel)
set_option maxRecDepth 20000 in
theorem gX6_needle_X6_isIn : GoodIn wsX6_needle (va_wsS RX6 59 yX6_isIn wsX6_isIn) := goodIn_app (goodIn_of _ (by decide +kernel)) ggX6_needle_X6_isIn
set_option maxRecDepth 20000 in
theorem ggX6_needle_X6_holds : GoodIn wsX6_needle wsX6_holds := goodIn_r _ [15, 16, 17, 18, 19, 20, 21, 22, 23, 24, 25, 26, 27, 28, 29, 30, 31, 32, 33, 34, 35, 36] (by decide +kernel) (by decide +kernel)
set_option maxRecDepth 20000 in
theorem gX6_needle_X6_holds : GoodIn wsX6_needle (wsV RX6 80 RX6 yX6_holds wsX6_holds) := goodIn_app (goodIn_of _ (by decide +kernel)) ggX6_needle_X6_holds
theorem dX6_needle_0 : decode cX6_needle 0 = .ok (.iload_n 1, 1) := by decide +kernel
theorem dX6_needle_1 : decode cX6_needle 1 = .ok (.i2l, 1) := by decide +kernel
theorem dX6_needle_2 : decode cX6_needle 2 = .ok (.lconst 0, 1) := by decide +kernel
theorem dX6_needle_3 : decode cX6_needle 3 = .ok (.lconst 1, 1) := by decide +kernel
theorem dX6_needle_4 : decode cX6_needle 4 = .ok (.invokestatic 59, 3) := by decide +kernel
theorem dX6_needle_7 : decode cX6_needle 7 = .ok (.ifCond .eq 21, 3) := by decide +kernel
theorem dX6_needle_10 : decode cX6_needle 10 = .ok (.iload_n 2, 1) := by decide +kernel
theorem dX6_needle_11 : decode cX6_needle 11 = .ok (.i2l, 1) := by decide +kernel
theorem dX6_needle_12 : decode cX6_needle 12 = .ok (.ldc2_w 103, 3) := by decide +kernel
theorem dX6_needle_15 : decode cX6_needle 15 = .ok (.ldc2_w 105, 3) := by decide +kernel
theorem dX6_needle_18 : decode cX6_needle 18 = .ok (.invokestatic 59, 3) := by decide +kernel
theorem dX6_needle_21 : decode cX6_needle 21 = .ok (.ifCond .eq 7, 3) := by decide +kernel
theorem dX6_needle_24 : decode cX6_needle 24 = .ok (.iconst 1, 1) := by decide +kernel
theorem dX6_needle_25 : decode cX6_needle 25 = .ok (.goto 4, 3) := by decide +kernel
theorem dX6_needle_28 : decode cX6_needle 28 = .ok (.iconst 0, 1) := by decide +kernel
theorem dX6_needle_29 : decode cX6_needle 29 = .ok (.istore_n 3, 1) := by decide +kernel
theorem dX6_needle_30 : decode cX6_needle 30 = .ok (.aload_n 0, 1) := by decide +kernel
theorem dX6_needle_31 : decode cX6_needle 31 = .ok (.iload_n 3, 1) := by decide +kernel
theorem dX6_needle_32 : decode cX6_needle 32 = .ok (.ifCond .ne 7, 3) := by decide +kernel
theorem dX6_needle_35 : decode cX6_needle 35 = .ok (.iconst 1, 1) := by decide +kernel
theorem dX6_needle_36 : decode cX6_needle 36 = .ok (.goto 17, 3) := by decide +kernel
theorem dX6_needle_39 : decode cX6_needle 39 = .ok (.aload_n 0, 1) := by decide +kernel
theorem dX6_needle_40 : decode cX6_needle 40 = .ok (.getfield 63, 3) := by decide +kernel
theorem dX6_needle_43 : decode cX6_needle 43 = .ok (.bipush 6, 2) := by decide +kernel
theorem dX6_needle_45 : decode cX6_needle 45 = .ok (.if_icmp .ne 7, 3) := by decide +kernel
theorem dX6_needle_48 : decode cX6_needle 48 = .ok (.iconst 2, 1) := by decide +kernel
theorem dX6_needle_49 : decode cX6_needle 49 = .ok (.goto 4, 3) := by decide +kernel
theorem dX6_needle_52 : decode cX6_needle 52 = .ok (.iconst 0, 1) := by decide +kernel
theorem dX6_needle_53 : decode cX6_needle 53 = .ok (.invokevirtual 80, 3) := by decide +kernel
theorem dX6_needle_56 : decode cX6_needle 56 = .ok (.ifCond .ne 5, 3) := by decide +kernel
theorem dX6_needle_59 : decode cX6_needle 59 = .ok (.iconst 0, 1) := by decide +kernel
theorem dX6_needle_60 : decode cX6_needle 60 = .ok (.ireturn, 1) := by decide +kernel
theorem dX6_needle_61 : decode cX6_needle 61 = .ok (.aload_n 0, 1) := by decide +kernel
theorem dX6_needle_62 : decode cX6_needle 62 = .ok (.getfield 17, 3) := by decide +kernel
theorem dX6_needle_65 : decode cX6_needle 65 = .ok (.aload_n 0, 1) := by decide +kernel
theorem dX6_needle_66 : decode cX6_needle 66 = .ok (.getfield 63, 3) := by decide +kernel
theorem dX6_needle_69 : decode cX6_needle 69 = .ok (.iload_n 1, 1) := by decide +kernel
theorem dX6_needle_70 : decode cX6_needle 70 = .ok (.iastore, 1) := by decide +kernel
theorem dX6_needle_71 : decode cX6_needle 71 = .ok (.aload_n 0, 1) := by decide +kernel
theorem dX6_needle_72 : decode cX6_needle 72 = .ok (.getfield 21, 3) := by decide +kernel
theorem dX6_needle_75 : decode cX6_needle 75 = .ok (.aload_n 0, 1) := by decide +kernel
theorem dX6_needle_76 : decode cX6_needle 76 = .ok (.getfield 63, 3) := by decide +kernel
theorem dX6_needle_79 : decode cX6_needle 79 = .ok (.iload_n 2, 1) := by decide +kernel
theorem dX6_needle_80 : decode cX6_needle 80 = .ok (.iastore, 1) := by decide +kernel
theorem dX6_needle_81 : decode cX6_needle 81 = .ok (.aload_n 0, 1) := by decide +kernel
theorem dX6_needle_82 : decode cX6_needle 82 = .ok (.getfield 24, 3) := by decide +kernel
theorem dX6_needle_85 : decode cX6_needle 85 = .ok (.aload_n 0, 1) := by decide +kernel
theorem dX6_needle_86 : decode cX6_needle 86 = .ok (.getfield 63, 3) := by decide +kernel
theorem dX6_needle_89 : decode cX6_needle 89 = .ok (.aload_n 0, 1) := by decide +kernel
theorem dX6_needle_90 : decode cX6_needle 90 = .ok (.getfield 51, 3) := by decide +kernel
theorem dX6_needle_93 : decode cX6_needle 93 = .ok (.iastore, 1) := by decide +kernel
theorem dX6_needle_94 : decode cX6_needle 94 = .ok (.aload_n 0, 1) := by decide +kernel
theorem dX6_needle_95 : decode cX6_needle 95 = .ok (.dup, 1) := by decide +kernel
theorem dX6_needle_96 : decode cX6_needle 96 = .ok (.getfield 63, 3) := by decide +kernel
theorem dX6_needle_99 : decode cX6_needle 99 = .ok (.iconst 1, 1) := by decide +kernel
theorem dX6_needle_100 : decode cX6_needle 100 = .ok (.iadd, 1) := by decide +kernel
theorem dX6_needle_101 : decode cX6_needle 101 = .ok (.putfield 63, 3) := by decide +kernel
theorem dX6_needle_104 : decode cX6_needle 104 = .ok (.aload_n 0, 1) := by decide +kernel
theorem dX6_needle_105 : decode cX6_needle 105 = .ok (.getfield 63, 3) := by decide +kernel
theorem dX6_needle_108 : decode cX6_needle 108 = .ok (.iconst 1, 1) := by decide +kernel
theorem dX6_needle_109 : decode cX6_needle 109 = .ok (.isub, 1) := by decide +kernel
theorem dX6_needle_110 : decode cX6_needle 110 = .ok (.ireturn, 1) := by decide +kernel
theorem dX6_offNow_0 : decode cX6_offNow 0 = .ok (.aload_n 0, 1) := by decide +kernel
theorem dX6_offNow_1 : decode cX6_offNow 1 = .ok (.getfield 17, 3) := by decide +kernel
theorem dX6_offNow_4 : decode cX6_offNow 4 = .ok (.iload_n 1, 1) := by decide +kernel
theorem dX6_offNow_5 : decode cX6_offNow 5 = .ok (.iaload, 1) := by decide +kernel
theorem dX6_offNow_6 : decode cX6_offNow 6 = .ok (.ifCond .ne 13, 3) := by decide +kernel
theorem dX6_offNow_9 : decode cX6_offNow 9 = .ok (.aload_n 0, 1) := by decide +kernel
theorem dX6_offNow_10 : decode cX6_offNow 10 = .ok (.getfield 21, 3) := by decide +kernel
theorem dX6_offNow_13 : decode cX6_offNow 13 = .ok (.iload_n 1, 1) := by decide +kernel
theorem dX6_offNow_14 : decode cX6_offNow 14 = .ok (.iaload, 1) := by decide +kernel
theorem dX6_offNow_15 : decode cX6_offNow 15 = .ok (.i2l, 1) := by decide +kernel
theorem dX6_offNow_16 : decode cX6_offNow 16 = .ok (.goto 23, 3) := by decide +kernel
theorem dX6_offNow_19 : decode cX6_offNow 19 = .ok (.aload_n 0, 1) := by decide +kernel
theorem dX6_offNow_20 : decode cX6_offNow 20 = .ok (.getfield 21, 3) := by decide +kernel
theorem dX6_offNow_23 : decode cX6_offNow 23 = .ok (.iload_n 1, 1) := by decide +kernel
theorem dX6_offNow_24 : decode cX6_offNow 24 = .ok (.iaload, 1) := by decide +kernel
theorem dX6_offNow_25 : decode cX6_offNow 25 = .ok (.i2l, 1) := by decide +kernel
theorem dX6_offNow_26 : decode cX6_offNow 26 = .ok (.aload_n 0, 1) := by decide +kernel
theorem dX6_offNow_27 : decode cX6_offNow 27 = .ok (.getfield 51, 3) := by decide +kernel
theorem dX6_offNow_30 : decode cX6_offNow 30 = .ok (.aload_n 0, 1) := by decide +kernel
theorem dX6_offNow_31 : decode cX6_offNow 31 = .ok (.getfield 24, 3) := by decide +kernel
theorem dX6_offNow_34 : decode cX6_offNow 34 = .ok (.iload_n 1, 1) := by decide +kernel
theorem dX6_offNow_35 : decode cX6_offNow 35 = .ok (.iaload, 1) := by decide +kernel
theorem dX6_offNow_36 : decode cX6_offNow 36 = .ok (.isub, 1) := by decide +kernel
theorem dX6_offNow_37 : decode cX6_offNow 37 = .ok (.i2l, 1) := by decide +kernel
theorem dX6_offNow_38 : decode cX6_offNow 38 = .ok (.lmul, 1) := by decide +kernel
theorem dX6_offNow_39 : decode cX6_offNow 39 = .ok (.lreturn, 1) := by decide +kernel
set_option maxRecDepth 20000 in
theorem ggX6_tie_X6_isNeedle : GoodIn wsX6_tie wsX6_isNeedle := goodIn_r _ [8, 9, 10, 11, 7, 12, 23, 24, 25, 26, 27, 28, 29, 30, 31, 32, 33, 34, 35, 36, 37, 38, 39, 40, 41, 42] (by decide +kernel) (by decide +kernel)
set_option maxRecDepth 20000 in
theorem gX6_tie_X6_isNeedle : GoodIn wsX6_tie (wsV RX6 107 RX6 yX6_isNeedle wsX6_isNeedle) := goodIn_app (goodIn_of _ (by decide +kernel)) ggX6_tie_X6_isNeedle
set_option maxRecDepth 20000 in
theorem ggX6_tie_X6_holds : GoodIn wsX6_tie wsX6_holds := goodIn_r _ [16, 17, 23, 24, 25, 26, 27, 28, 29, 30, 31, 32, 33, 34, 35, 36, 37, 38, 39, 40, 41, 42] (by decide +kernel) (by decide +kernel)
set_option maxRecDepth 20000 in
theorem gX6_tie_X6_holds : GoodIn wsX6_tie (wsV RX6 80 RX6 yX6_holds wsX6_holds) := goodIn_app (goodIn_of _ (by decide +kernel)) ggX6_tie_X6_holds
set_option maxRecDepth 20000 in
theorem ggX6_tie_X6_offNow : GoodIn wsX6_tie wsX6_offNow := goodIn_r _ [21, 1, 22, 3, 2, 23, 24, 25, 26, 27, 28, 29, 30, 31, 32, 33, 34, 35, 36, 37, 38, 39, 40, 41, 42] (by decide +kernel) (by decide +kernel)
set_option maxRecDepth 20000 in
theorem gX6_tie_X6_offNow : GoodIn wsX6_tie (wsV RX6 110 RX6 yX6_offNow wsX6_offNow) := goodIn_app (goodIn_of _ (by decide +kernel)) ggX6_tie_X6_offNow
theorem dX6_tie_0 : decode cX6_tie 0 = .ok (.aload_n 0, 1) := by decide +kernel
theorem dX6_tie_1 : decode cX6_tie 1 = .ok (.iload_n 1, 1) := by decide +kernel
theorem dX6_tie_2 : decode cX6_tie 2 = .ok (.invokevirtual 107, 3) := by decide +kernel
theorem dX6_tie_5 : decode cX6_tie 5 = .ok (.istore_n 2, 1) := by decide +kernel
theorem dX6_tie_6 : decode cX6_tie 6 = .ok (.aload_n 0, 1) := by decide +kernel
theorem dX6_tie_7 : decode cX6_tie 7 = .ok (.iload_n 2, 1) := by decide +kernel
theorem dX6_tie_8 : decode cX6_tie 8 = .ok (.ifCond .ne 7, 3) := by decide +kernel
theorem dX6_tie_11 : decode cX6_tie 11 = .ok (.iconst 1, 1) := by decide +kernel
theorem dX6_tie_12 : decode cX6_tie 12 = .ok (.goto 17, 3) := by decide +kernel
theorem dX6_tie_15 : decode cX6_tie 15 = .ok (.aload_n 0, 1) := by decide +kernel
theorem dX6_tie_16 : decode cX6_tie 16 = .ok (.getfield 17, 3) := by decide +kernel
theorem dX6_tie_19 : decode cX6_tie 19 = .ok (.iload_n 1, 1) := by decide +kernel
theorem dX6_tie_20 : decode cX6_tie 20 = .ok (.iaload, 1) := by decide +kernel
theorem dX6_tie_21 : decode cX6_tie 21 = .ok (.ifCond .ne 7, 3) := by decide +kernel
theorem dX6_tie_24 : decode cX6_tie 24 = .ok (.iconst 2, 1) := by decide +kernel
theorem dX6_tie_25 : decode cX6_tie 25 = .ok (.goto 4, 3) := by decide +kernel
theorem dX6_tie_28 : decode cX6_tie 28 = .ok (.iconst 0, 1) := by decide +kernel
theorem dX6_tie_29 : decode cX6_tie 29 = .ok (.invokevirtual 80, 3) := by decide +kernel
theorem dX6_tie_32 : decode cX6_tie 32 = .ok (.ifCond .ne 5, 3) := by decide +kernel
theorem dX6_tie_35 : decode cX6_tie 35 = .ok (.lconst 0, 1) := by decide +kernel
theorem dX6_tie_36 : decode cX6_tie 36 = .ok (.lreturn, 1) := by decide +kernel
theorem dX6_tie_37 : decode cX6_tie 37 = .ok (.aload_n 0, 1) := by decide +kernel
theorem dX6_tie_38 : decode cX6_tie 38 = .ok (.iload_n 1, 1) := by decide +kernel
theorem dX6_tie_39 : decode cX6_tie 39 = .ok (.invokevirtual 110, 3) := by decide +kernel
theorem dX6_tie_42 : decode cX6_tie 42 = .ok (.lstore_n 3, 1) := by decide +kernel
theorem dX6_tie_43 : decode cX6_tie 43 = .ok (.aload_n 0, 1) := by decide +kernel
theorem dX6_tie_44 : decode cX6_tie 44 = .ok (.getfield 24, 3) := by decide +kernel
theorem dX6_tie_47 : decode cX6_tie 47 = .ok (.iload_n 1, 1) := by decide +kernel
theorem dX6_tie_48 : decode cX6_tie 48 = .ok (.aload_n 0, 1) := by decide +kernel
theorem dX6_tie_49 : decode cX6_tie 49 = .ok (.getfield 51, 3) := by decide +kernel
theorem dX6_tie_52 : decode cX6_tie 52 = .ok (.iastore, 1) := by decide +kernel
theorem dX6_tie_53 : decode cX6_tie 53 = .ok (.lload_n 3, 1) := by decide +kernel
theorem dX6_tie_54 : decode cX6_tie 54 = .ok (.lreturn, 1) := by decide +kernel
set_option maxRecDepth 20000 in
theorem ggX6_readAt_X6_pullAt : GoodIn wsX6_readAt wsX6_pullAt := goodIn_r _ [8, 9, 10, 18, 19, 20, 21, 22, 23, 24, 25, 26, 27, 28, 29, 30, 31, 32, 33, 34, 35, 36, 37] (by decide +kernel) (by decide +kernel)
set_option maxRecDepth 20000 in
theorem gX6_readAt_X6_pullAt : GoodIn wsX6_readAt (wsV RX6 92 RX6 yX6_pullAt wsX6_pullAt) := goodIn_app (goodIn_of _ (by decide +kernel)) ggX6_readAt_X6_pullAt
set_option maxRecDepth 20000 in
theorem ggX6_readAt_X6_offNow : GoodIn wsX6_readAt wsX6_offNow := goodIn_r _ [14, 15, 16, 1, 17, 18, 19, 20, 21, 22, 23, 24, 25, 26, 27, 28, 29, 30, 31, 32, 33, 34, 35, 36, 37] (by decide +kernel) (by decide +kernel)
set_option maxRecDepth 20000 in
theorem gX6_readAt_X6_offNow : GoodIn wsX6_readAt (wsV RX6 110 RX6 yX6_offNow wsX6_offNow) := goodIn_app (goodIn_of _ (by decide +kernel)) ggX6_readAt_X6_offNow
theorem dX6_readAt_0 : decode cX6_readAt 0 = .ok (.aload_n 0, 1) := by decide +kernel
theorem dX6_readAt_1 : decode cX6_readAt 1 = .ok (.getfield 51, 3) := by decide +kernel
theorem dX6_readAt_4 : decode cX6_readAt 4 = .ok (.aload_n 0, 1) := by decide +kernel
theorem dX6_readAt_5 : decode cX6_readAt 5 = .ok (.getfield 13, 3) := by decide +kernel
theorem dX6_readAt_8 : decode cX6_readAt 8 = .ok (.irem, 1) := by decide +kernel
theorem dX6_readAt_9 : decode cX6_readAt 9 = .ok (.aload_n 0, 1) := by decide +kernel
theorem dX6_readAt_10 : decode cX6_readAt 10 = .ok (.getfield 13, 3) := by decide +kernel
theorem dX6_readAt_13 : decode cX6_readAt 13 = .ok (.iconst 2, 1) := by decide +kernel
theorem dX6_readAt_14 : decode cX6_readAt 14 = .ok (.idiv, 1) := by decide +kernel
theorem dX6_readAt_15 : decode cX6_readAt 15 = .ok (.if_icmp .ge 10, 3) := by decide +kernel
theorem dX6_readAt_18 : decode cX6_readAt 18 = .ok (.aload_n 0, 1) := by decide +kernel
theorem dX6_readAt_19 : decode cX6_readAt 19 = .ok (.getfield 98, 3) := by decide +kernel
theorem dX6_readAt_22 : decode cX6_readAt 22 = .ok (.goto 8, 3) := by decide +kernel
theorem dX6_readAt_25 : decode cX6_readAt 25 = .ok (.aload_n 0, 1) := by decide +kernel
theorem dX6_readAt_26 : decode cX6_readAt 26 = .ok (.getfield 98, 3) := by decide +kernel
theorem dX6_readAt_29 : decode cX6_readAt 29 = .ok (.ineg, 1) := by decide +kernel
theorem dX6_readAt_30 : decode cX6_readAt 30 = .ok (.istore 4, 2) := by decide +kernel
theorem dX6_readAt_32 : decode cX6_readAt 32 = .ok (.aload_n 0, 1) := by decide +kernel
theorem dX6_readAt_33 : decode cX6_readAt 33 = .ok (.iload_n 2, 1) := by decide +kernel
theorem dX6_readAt_34 : decode cX6_readAt 34 = .ok (.iload_n 3, 1) := by decide +kernel
theorem dX6_readAt_35 : decode cX6_readAt 35 = .ok (.invokevirtual 92, 3) := by decide +kernel
theorem dX6_readAt_38 : decode cX6_readAt 38 = .ok (.iload 4, 2) := by decide +kernel
theorem dX6_readAt_40 : decode cX6_readAt 40 = .ok (.i2l, 1) := by decide +kernel
theorem dX6_readAt_41 : decode cX6_readAt 41 = .ok (.ladd, 1) := by decide +kernel
theorem dX6_readAt_42 : decode cX6_readAt 42 = .ok (.aload_n 0, 1) := by decide +kernel
theorem dX6_readAt_43 : decode cX6_readAt 43 = .ok (.iload_n 1, 1) := by decide +kernel
theorem dX6_readAt_44 : decode cX6_readAt 44 = .ok (.invokevirtual 110, 3) := by decide +kernel
theorem dX6_readAt_47 : decode cX6_readAt 47 = .ok (.ladd, 1) := by decide +kernel
theorem dX6_readAt_48 : decode cX6_readAt 48 = .ok (.lreturn, 1) := by decide +kernel
set_option maxRecDepth 20000 in
theorem ggX6_read_X6_isNeedle : GoodIn wsX6_read wsX6_isNeedle := goodIn_r _ [5, 6, 7, 8, 4, 9, 39, 40, 41, 42, 43, 44, 45, 46, 47, 48, 49, 50, 51, 52, 53, 54, 55, 56, 57, 58] (by decide +kernel) (by decide +kernel)
set_option maxRecDepth 20000 in
theorem gX6_read_X6_isNeedle : GoodIn wsX6_read (wsV RX6 107 RX6 yX6_isNeedle wsX6_isNeedle) := goodIn_app (goodIn_of _ (by decide +kernel)) ggX6_read_X6_isNeedle
set_option maxRecDepth 20000 in
theorem ggX6_read_X6_isCell : GoodIn wsX6_read wsX6_isCell := goodIn_r _ [12, 13, 7, 8, 4, 9] (by decide +kernel) (by decide +kernel)
set_option maxRecDepth 20000 in
theorem gX6_read_X6_isCell : GoodIn wsX6_read (va_wsS RX6 72 yX6_isCell wsX6_isCell) := goodIn_app (goodIn_of _ (by decide +kernel)) ggX6_read_X6_isCell
set_option maxRecDepth 20000 in
theorem ggX6_read_X6_holds : GoodIn wsX6_read wsX6_holds := goodIn_r _ [17, 18, 39, 40, 41, 42, 43, 44, 45, 46, 47, 48, 49, 50, 51, 52, 53, 54, 55, 56, 57, 58] (by decide +kernel) (by decide +kernel)
set_option maxRecDepth 20000 in
theorem gX6_read_X6_holds : GoodIn wsX6_read (wsV RX6 80 RX6 yX6_holds wsX6_holds) := goodIn_app (goodIn_of _ (by decide +kernel)) ggX6_read_X6_holds
set_option maxRecDepth 20000 in
theorem ggX6_read_X6_readAt : GoodIn wsX6_read wsX6_readAt := goodIn_r _ [22, 23, 24, 25, 26, 27, 28, 4, 29, 30, 31, 32, 33, 34, 35, 36, 37, 38, 39, 40, 41, 42, 43, 44, 45, 46, 47, 48, 49, 50, 51, 52, 53, 54, 55, 56, 57, 58] (by decide +kernel) (by decide +kernel)
set_option maxRecDepth 20000 in
theorem gX6_read_X6_readAt : GoodIn wsX6_read (wsV RX6 114 RX6 yX6_readAt wsX6_readAt) := goodIn_app (goodIn_of _ (by decide +kernel)) ggX6_read_X6_readAt
theorem dX6_read_0 : decode cX6_read 0 = .ok (.aload_n 0, 1) := by decide +kernel
theorem dX6_read_1 : decode cX6_read 1 = .ok (.aload_n 0, 1) := by decide +kernel
theorem dX6_read_2 : decode cX6_read 2 = .ok (.iload_n 1, 1) := by decide +kernel
theorem dX6_read_3 : decode cX6_read 3 = .ok (.invokevirtual 107, 3) := by decide +kernel
theorem dX6_read_6 : decode cX6_read 6 = .ok (.ifCond .eq 15, 3) := by decide +kernel
theorem dX6_read_9 : decode cX6_read 9 = .ok (.iload_n 2, 1) := by decide +kernel
theorem dX6_read_10 : decode cX6_read 10 = .ok (.iload_n 3, 1) := by decide +kernel
theorem dX6_read_11 : decode cX6_read 11 = .ok (.invokestatic 72, 3) := by decide +kernel
theorem dX6_read_14 : decode cX6_read 14 = .ok (.ifCond .eq 7, 3) := by decide +kernel
theorem dX6_read_17 : decode cX6_read 17 = .ok (.iconst 0, 1) := by decide +kernel
theorem dX6_read_18 : decode cX6_read 18 = .ok (.goto 4, 3) := by decide +kernel
theorem dX6_read_21 : decode cX6_read 21 = .ok (.iconst 1, 1) := by decide +kernel
theorem dX6_read_22 : decode cX6_read 22 = .ok (.invokevirtual 80, 3) := by decide +kernel
theorem dX6_read_25 : decode cX6_read 25 = .ok (.ifCond .eq 13, 3) := by decide +kernel
theorem dX6_read_28 : decode cX6_read 28 = .ok (.aload_n 0, 1) := by decide +kernel
theorem dX6_read_29 : decode cX6_read 29 = .ok (.iload_n 1, 1) := by decide +kernel
theorem dX6_read_30 : decode cX6_read 30 = .ok (.iload_n 2, 1) := by decide +kernel
theorem dX6_read_31 : decode cX6_read 31 = .ok (.iload_n 3, 1) := by decide +kernel
theorem dX6_read_32 : decode cX6_read 32 = .ok (.invokevirtual 114, 3) := by decide +kernel
theorem dX6_read_35 : decode cX6_read 35 = .ok (.goto 4, 3) := by decide +kernel
theorem dX6_read_38 : decode cX6_read 38 = .ok (.lconst 0, 1) := by decide +kernel
theorem dX6_read_39 : decode cX6_read 39 = .ok (.lreturn, 1) := by decide +kernel
set_option maxRecDepth 20000 in
theorem ggX6_benchmark_X6_holds : GoodIn wsX6_benchmark wsX6_holds := goodIn_r _ [6, 7, 8, 9, 10, 11, 12, 13, 14, 15, 16, 17, 18, 19, 20, 21, 22, 23, 24, 25, 26, 27] (by decide +kernel) (by decide +kernel)
set_option maxRecDepth 20000 in
theorem gX6_benchmark_X6_holds : GoodIn wsX6_benchmark (wsV RX6 80 RX6 yX6_holds wsX6_holds) := goodIn_app (goodIn_of _ (by decide +kernel)) ggX6_benchmark_X6_holds
theorem dX6_benchmark_0 : decode cX6_benchmark 0 = .ok (.aload_n 0, 1) := by decide +kernel
theorem dX6_benchmark_1 : decode cX6_benchmark 1 = .ok (.aload_n 0, 1) := by decide +kernel
theorem dX6_benchmark_2 : decode cX6_benchmark 2 = .ok (.getfield 66, 3) := by decide +kernel
theorem dX6_benchmark_5 : decode cX6_benchmark 5 = .ok (.bipush 10, 2) := by decide +kernel
theorem dX6_benchmark_7 : decode cX6_benchmark 7 = .ok (.if_icmp .ne 7, 3) := by decide +kernel
theorem dX6_benchmark_10 : decode cX6_benchmark 10 = .ok (.iconst 1, 1) := by decide +kernel
theorem dX6_benchmark_11 : decode cX6_benchmark 11 = .ok (.goto 4, 3) := by decide +kernel
theorem dX6_benchmark_14 : decode cX6_benchmark 14 = .ok (.iconst 0, 1) := by decide +kernel
theorem dX6_benchmark_15 : decode cX6_benchmark 15 = .ok (.invokevirtual 80, 3) := by decide +kernel
theorem dX6_benchmark_18 : decode cX6_benchmark 18 = .ok (.ifCond .ne 5, 3) := by decide +kernel
theorem dX6_benchmark_21 : decode cX6_benchmark 21 = .ok (.iconst 0, 1) := by decide +kernel
theorem dX6_benchmark_22 : decode cX6_benchmark 22 = .ok (.ireturn, 1) := by decide +kernel
theorem dX6_benchmark_23 : decode cX6_benchmark 23 = .ok (.aload_n 0, 1) := by decide +kernel
theorem dX6_benchmark_24 : decode cX6_benchmark 24 = .ok (.dup, 1) := by decide +kernel
theorem dX6_benchmark_25 : decode cX6_benchmark 25 = .ok (.getfield 66, 3) := by decide +kernel
theorem dX6_benchmark_28 : decode cX6_benchmark 28 = .ok (.iconst 1, 1) := by decide +kernel
theorem dX6_benchmark_29 : decode cX6_benchmark 29 = .ok (.iadd, 1) := by decide +kernel
theorem dX6_benchmark_30 : decode cX6_benchmark 30 = .ok (.putfield 66, 3) := by decide +kernel
theorem dX6_benchmark_33 : decode cX6_benchmark 33 = .ok (.aload_n 0, 1) := by decide +kernel
theorem dX6_benchmark_34 : decode cX6_benchmark 34 = .ok (.getfield 66, 3) := by decide +kernel
theorem dX6_benchmark_37 : decode cX6_benchmark 37 = .ok (.iconst 1, 1) := by decide +kernel
theorem dX6_benchmark_38 : decode cX6_benchmark 38 = .ok (.isub, 1) := by decide +kernel
theorem dX6_benchmark_39 : decode cX6_benchmark 39 = .ok (.ireturn, 1) := by decide +kernel
set_option maxRecDepth 20000 in
theorem ggX6_line_X6_isBenchmark : GoodIn wsX6_line wsX6_isBenchmark := goodIn_r _ [13, 14, 15, 16, 12, 17, 23, 24, 25, 26, 27, 28, 29, 30, 31, 32, 33, 34, 35, 36, 37, 38, 39, 40, 41, 42] (by decide +kernel) (by decide +kernel)
set_option maxRecDepth 20000 in
theorem gX6_line_X6_isBenchmark : GoodIn wsX6_line (wsV RX6 118 RX6 yX6_isBenchmark wsX6_isBenchmark) := goodIn_app (goodIn_of _ (by decide +kernel)) ggX6_line_X6_isBenchmark
set_option maxRecDepth 20000 in
theorem ggX6_line_X6_isIn : GoodIn wsX6_line wsX6_isIn := goodIn_r _ [17] (by decide +kernel) (by decide +kernel)
set_option maxRecDepth 20000 in
theorem gX6_line_X6_isIn : GoodIn wsX6_line (va_wsS RX6 59 yX6_isIn wsX6_isIn) := goodIn_app (goodIn_of _ (by decide +kernel)) ggX6_line_X6_isIn
set_option maxRecDepth 20000 in
theorem ggX6_line_X6_holds : GoodIn wsX6_line wsX6_holds := goodIn_r _ [21, 22, 23, 24, 25, 26, 27, 28, 29, 30, 31, 32, 33, 34, 35, 36, 37, 38, 39, 40, 41, 42] (by decide +kernel) (by decide +kernel)
set_option maxRecDepth 20000 in
theorem gX6_line_X6_holds : GoodIn wsX6_line (wsV RX6 80 RX6 yX6_holds wsX6_holds) := goodIn_app (goodIn_of _ (by decide +kernel)) ggX6_line_X6_holds
theorem dX6_line_0 : decode cX6_line 0 = .ok (.aload_n 0, 1) := by decide +kernel
theorem dX6_line_1 : decode cX6_line 1 = .ok (.iload_n 1, 1) := by decide +kernel
theorem dX6_line_2 : decode cX6_line 2 = .ok (.invokevirtual 118, 3) := by decide +kernel
theorem dX6_line_5 : decode cX6_line 5 = .ok (.ifCond .eq 15, 3) := by decide +kernel
theorem dX6_line_8 : decode cX6_line 8 = .ok (.aload_n 0, 1) := by decide +kernel
theorem dX6_line_9 : decode cX6_line 9 = .ok (.iload_n 2, 1) := by decide +kernel
theorem dX6_line_10 : decode cX6_line 10 = .ok (.invokevirtual 118, 3) := by decide +kernel
theorem dX6_line_13 : decode cX6_line 13 = .ok (.ifCond .eq 7, 3) := by decide +kernel
theorem dX6_line_16 : decode cX6_line 16 = .ok (.iconst 1, 1) := by decide +kernel
theorem dX6_line_17 : decode cX6_line 17 = .ok (.goto 4, 3) := by decide +kernel
theorem dX6_line_20 : decode cX6_line 20 = .ok (.iconst 0, 1) := by decide +kernel
theorem dX6_line_21 : decode cX6_line 21 = .ok (.istore 5, 2) := by decide +kernel
theorem dX6_line_23 : decode cX6_line 23 = .ok (.iload_n 1, 1) := by decide +kernel
theorem dX6_line_24 : decode cX6_line 24 = .ok (.iload_n 2, 1) := by decide +kernel
theorem dX6_line_25 : decode cX6_line 25 = .ok (.if_icmp .eq 34, 3) := by decide +kernel
theorem dX6_line_28 : decode cX6_line 28 = .ok (.iload_n 3, 1) := by decide +kernel
theorem dX6_line_29 : decode cX6_line 29 = .ok (.i2l, 1) := by decide +kernel
theorem dX6_line_30 : decode cX6_line 30 = .ok (.ldc2_w 121, 3) := by decide +kernel
theorem dX6_line_33 : decode cX6_line 33 = .ok (.ldc2_w 90, 3) := by decide +kernel
theorem dX6_line_36 : decode cX6_line 36 = .ok (.invokestatic 59, 3) := by decide +kernel
theorem dX6_line_39 : decode cX6_line 39 = .ok (.ifCond .eq 20, 3) := by decide +kernel
theorem dX6_line_42 : decode cX6_line 42 = .ok (.iload 4, 2) := by decide +kernel
theorem dX6_line_44 : decode cX6_line 44 = .ok (.i2l, 1) := by decide +kernel
theorem dX6_line_45 : decode cX6_line 45 = .ok (.lconst 0, 1) := by decide +kernel
theorem dX6_line_46 : decode cX6_line 46 = .ok (.ldc2_w 105, 3) := by decide +kernel
theorem dX6_line_49 : decode cX6_line 49 = .ok (.invokestatic 59, 3) := by decide +kernel
theorem dX6_line_52 : decode cX6_line 52 = .ok (.ifCond .eq 7, 3) := by decide +kernel
theorem dX6_line_55 : decode cX6_line 55 = .ok (.iconst 1, 1) := by decide +kernel
theorem dX6_line_56 : decode cX6_line 56 = .ok (.goto 4, 3) := by decide +kernel
theorem dX6_line_59 : decode cX6_line 59 = .ok (.iconst 0, 1) := by decide +kernel
theorem dX6_line_60 : decode cX6_line 60 = .ok (.istore 6, 2) := by decide +kernel
theorem dX6_line_62 : decode cX6_line 62 = .ok (.aload_n 0, 1) := by decide +kernel
theorem dX6_line_63 : decode cX6_line 63 = .ok (.iload 5, 2) := by decide +kernel
theorem dX6_line_65 : decode cX6_line 65 = .ok (.ifCond .ne 7, 3) := by decide +kernel
theorem dX6_line_68 : decode cX6_line 68 = .ok (.iconst 1, 1) := by decide +kernel
theorem dX6_line_69 : decode cX6_line 69 = .ok (.goto 26, 3) := by decide +kernel
theorem dX6_line_72 : decode cX6_line 72 = .ok (.iload 6, 2) := by decide +kernel
theorem dX6_line_74 : decode cX6_line 74 = .ok (.ifCond .ne 7, 3) := by decide +kernel
theorem dX6_line_77 : decode cX6_line 77 = .ok (.iconst 2, 1) := by decide +kernel
theorem dX6_line_78 : decode cX6_line 78 = .ok (.goto 17, 3) := by decide +kernel
theorem dX6_line_81 : decode cX6_line 81 = .ok (.aload_n 0, 1) := by decide +kernel
theorem dX6_line_82 : decode cX6_line 82 = .ok (.getfield 123, 3) := by decide +kernel
theorem dX6_line_85 : decode cX6_line 85 = .ok (.bipush 24, 2) := by decide +kernel
theorem dX6_line_87 : decode cX6_line 87 = .ok (.if_icmp .ne 7, 3) := by decide +kernel
theorem dX6_line_90 : decode cX6_line 90 = .ok (.iconst 3, 1) := by decide +kernel
theorem dX6_line_91 : decode cX6_line 91 = .ok (.goto 4, 3) := by decide +kernel
theorem dX6_line_94 : decode cX6_line 94 = .ok (.iconst 0, 1) := by decide +kernel
theorem dX6_line_95 : decode cX6_line 95 = .ok (.invokevirtual 80, 3) := by decide +kernel
theorem dX6_line_98 : decode cX6_line 98 = .ok (.ifCond .ne 5, 3) := by decide +kernel
theorem dX6_line_101 : decode cX6_line 101 = .ok (.iconst 0, 1) := by decide +kernel
theorem dX6_line_102 : decode cX6_line 102 = .ok (.ireturn, 1) := by decide +kernel
theorem dX6_line_103 : decode cX6_line 103 = .ok (.aload_n 0, 1) := by decide +kernel
theorem dX6_line_104 : decode cX6_line 104 = .ok (.getfield 27, 3) := by decide +kernel
theorem dX6_line_107 : decode cX6_line 107 = .ok (.aload_n 0, 1) := by decide +kernel
theorem dX6_line_108 : decode cX6_line 108 = .ok (.getfield 123, 3) := by decide +kernel
theorem dX6_line_111 : decode cX6_line 111 = .ok (.iload_n 1, 1) := by decide +kernel
theorem dX6_line_112 : decode cX6_line 112 = .ok (.iastore, 1) := by decide +kernel
theorem dX6_line_113 : decode cX6_line 113 = .ok (.aload_n 0, 1) := by decide +kernel
theorem dX6_line_114 : decode cX6_line 114 = .ok (.getfield 30, 3) := by decide +kernel
theorem dX6_line_117 : decode cX6_line 117 = .ok (.aload_n 0, 1) := by decide +kernel
theorem dX6_line_118 : decode cX6_line 118 = .ok (.getfield 123, 3) := by decide +kernel
theorem dX6_line_121 : decode cX6_line 121 = .ok (.iload_n 2, 1) := by decide +kernel
theorem dX6_line_122 : decode cX6_line 122 = .ok (.iastore, 1) := by decide +kernel
theorem dX6_line_123 : decode cX6_line 123 = .ok (.aload_n 0, 1) := by decide +kernel
theorem dX6_line_124 : decode cX6_line 124 = .ok (.getfield 33, 3) := by decide +kernel
theorem dX6_line_127 : decode cX6_line 127 = .ok (.aload_n 0, 1) := by decide +kernel
theorem dX6_line_128 : decode cX6_line 128 = .ok (.getfield 123, 3) := by decide +kernel
theorem dX6_line_131 : decode cX6_line 131 = .ok (.iload_n 3, 1) := by decide +kernel
theorem dX6_line_132 : decode cX6_line 132 = .ok (.iastore, 1) := by decide +kernel
theorem dX6_line_133 : decode cX6_line 133 = .ok (.aload_n 0, 1) := by decide +kernel
theorem dX6_line_134 : decode cX6_line 134 = .ok (.getfield 36, 3) := by decide +kernel
theorem dX6_line_137 : decode cX6_line 137 = .ok (.aload_n 0, 1) := by decide +kernel
theorem dX6_line_138 : decode cX6_line 138 = .ok (.getfield 123, 3) := by decide +kernel
theorem dX6_line_141 : decode cX6_line 141 = .ok (.iload 4, 2) := by decide +kernel
theorem dX6_line_143 : decode cX6_line 143 = .ok (.iastore, 1) := by decide +kernel
theorem dX6_line_144 : decode cX6_line 144 = .ok (.aload_n 0, 1) := by decide +kernel
theorem dX6_line_145 : decode cX6_line 145 = .ok (.dup, 1) := by decide +kernel
theorem dX6_line_146 : decode cX6_line 146 = .ok (.getfield 123, 3) := by decide +kernel
theorem dX6_line_149 : decode cX6_line 149 = .ok (.iconst 1, 1) := by decide +kernel
theorem dX6_line_150 : decode cX6_line 150 = .ok (.iadd, 1) := by decide +kernel
theorem dX6_line_151 : decode cX6_line 151 = .ok (.putfield 123, 3) := by decide +kernel
theorem dX6_line_154 : decode cX6_line 154 = .ok (.aload_n 0, 1) := by decide +kernel
theorem dX6_line_155 : decode cX6_line 155 = .ok (.getfield 123, 3) := by decide +kernel
theorem dX6_line_158 : decode cX6_line 158 = .ok (.iconst 1, 1) := by decide +kernel
theorem dX6_line_159 : decode cX6_line 159 = .ok (.isub, 1) := by decide +kernel
theorem dX6_line_160 : decode cX6_line 160 = .ok (.ireturn, 1) := by decide +kernel
theorem dX6_isFound_0 : decode cX6_isFound 0 = .ok (.aload_n 0, 1) := by decide +kernel
theorem dX6_isFound_1 : decode cX6_isFound 1 = .ok (.getfield 39, 3) := by decide +kernel
theorem dX6_isFound_4 : decode cX6_isFound 4 = .ok (.iload_n 1, 1) := by decide +kernel
theorem dX6_isFound_5 : decode cX6_isFound 5 = .ok (.iaload, 1) := by decide +kernel
theorem dX6_isFound_6 : decode cX6_isFound 6 = .ok (.iconst (-1), 1) := by decide +kernel
theorem dX6_isFound_7 : decode cX6_isFound 7 = .ok (.if_icmp .eq 7, 3) := by decide +kernel
theorem dX6_isFound_10 : decode cX6_isFound 10 = .ok (.iconst 1, 1) := by decide +kernel
theorem dX6_isFound_11 : decode cX6_isFound 11 = .ok (.goto 4, 3) := by decide +kernel
theorem dX6_isFound_14 : decode cX6_isFound 14 = .ok (.iconst 0, 1) := by decide +kernel
theorem dX6_isFound_15 : decode cX6_isFound 15 = .ok (.ireturn, 1) := by decide +kernel
set_option maxRecDepth 20000 in
theorem ggX6_finds_X6_isFound : GoodIn wsX6_finds wsX6_isFound := goodIn_r _ [9, 4, 10, 11, 12, 13, 14, 15, 16, 17, 18, 19, 20, 21, 22, 23, 24, 25, 26, 27, 28, 29] (by decide +kernel) (by decide +kernel)
set_option maxRecDepth 20000 in
theorem gX6_finds_X6_isFound : GoodIn wsX6_finds (wsV RX6 126 RX6 yX6_isFound wsX6_isFound) := goodIn_app (goodIn_of _ (by decide +kernel)) ggX6_finds_X6_isFound
theorem dX6_finds_0 : decode cX6_finds 0 = .ok (.aload_n 0, 1) := by decide +kernel
theorem dX6_finds_1 : decode cX6_finds 1 = .ok (.aload_n 0, 1) := by decide +kernel
theorem dX6_finds_2 : decode cX6_finds 2 = .ok (.getfield 27, 3) := by decide +kernel
theorem dX6_finds_5 : decode cX6_finds 5 = .ok (.iload_n 1, 1) := by decide +kernel
theorem dX6_finds_6 : decode cX6_finds 6 = .ok (.iaload, 1) := by decide +kernel
theorem dX6_finds_7 : decode cX6_finds 7 = .ok (.invokevirtual 126, 3) := by decide +kernel
theorem dX6_finds_10 : decode cX6_finds 10 = .ok (.istore_n 2, 1) := by decide +kernel
theorem dX6_finds_11 : decode cX6_finds 11 = .ok (.iload_n 2, 1) := by decide +kernel
theorem dX6_finds_12 : decode cX6_finds 12 = .ok (.aload_n 0, 1) := by decide +kernel
theorem dX6_finds_13 : decode cX6_finds 13 = .ok (.aload_n 0, 1) := by decide +kernel
theorem dX6_finds_14 : decode cX6_finds 14 = .ok (.getfield 30, 3) := by decide +kernel
theorem dX6_finds_17 : decode cX6_finds 17 = .ok (.iload_n 1, 1) := by decide +kernel
theorem dX6_finds_18 : decode cX6_finds 18 = .ok (.iaload, 1) := by decide +kernel
theorem dX6_finds_19 : decode cX6_finds 19 = .ok (.invokevirtual 126, 3) := by decide +kernel
theorem dX6_finds_22 : decode cX6_finds 22 = .ok (.if_icmp .ne 7, 3) := by decide +kernel
theorem dX6_finds_25 : decode cX6_finds 25 = .ok (.iconst (-1), 1) := by decide +kernel
theorem dX6_finds_26 : decode cX6_finds 26 = .ok (.goto 34, 3) := by decide +kernel
theorem dX6_finds_29 : decode cX6_finds 29 = .ok (.aload_n 0, 1) := by decide +kernel
theorem dX6_finds_30 : decode cX6_finds 30 = .ok (.getfield 36, 3) := by decide +kernel
theorem dX6_finds_33 : decode cX6_finds 33 = .ok (.iload_n 1, 1) := by decide +kernel
theorem dX6_finds_34 : decode cX6_finds 34 = .ok (.iaload, 1) := by decide +kernel
theorem dX6_finds_35 : decode cX6_finds 35 = .ok (.aload_n 0, 1) := by decide +kernel
theorem dX6_finds_36 : decode cX6_finds 36 = .ok (.getfield 39, 3) := by decide +kernel
theorem dX6_finds_39 : decode cX6_finds 39 = .ok (.iload_n 2, 1) := by decide +kernel
theorem dX6_finds_40 : decode cX6_finds 40 = .ok (.ifCond .eq 12, 3) := by decide +kernel
theorem dX6_finds_43 : decode cX6_finds 43 = .ok (.aload_n 0, 1) := by decide +kernel
theorem dX6_finds_44 : decode cX6_finds 44 = .ok (.getfield 27, 3) := by decide +kernel
theorem dX6_finds_47 : decode cX6_finds 47 = .ok (.iload_n 1, 1) := by decide +kernel
theorem dX6_finds_48 : decode cX6_finds 48 = .ok (.iaload, 1) := by decide +kernel
theorem dX6_finds_49 : decode cX6_finds 49 = .ok (.goto 9, 3) := by decide +kernel
theorem dX6_finds_52 : decode cX6_finds 52 = .ok (.aload_n 0, 1) := by decide +kernel
theorem dX6_finds_53 : decode cX6_finds 53 = .ok (.getfield 30, 3) := by decide +kernel
theorem dX6_finds_56 : decode cX6_finds 56 = .ok (.iload_n 1, 1) := by decide +kernel
theorem dX6_finds_57 : decode cX6_finds 57 = .ok (.iaload, 1) := by decide +kernel
theorem dX6_finds_58 : decode cX6_finds 58 = .ok (.iaload, 1) := by decide +kernel
theorem dX6_finds_59 : decode cX6_finds 59 = .ok (.iadd, 1) := by decide +kernel
theorem dX6_finds_60 : decode cX6_finds 60 = .ok (.ireturn, 1) := by decide +kernel
set_option maxRecDepth 20000 in
theorem ggX6_next_X6_finds : GoodIn wsX6_next wsX6_finds := goodIn_r _ [6, 7, 8, 9, 10, 11, 12, 13, 5, 14, 15, 16, 17, 18, 19, 20, 21, 22, 23, 24, 25, 26, 27, 28, 29, 30, 31, 32, 33, 34] (by decide +kernel) (by decide +kernel)
set_option maxRecDepth 20000 in
theorem gX6_next_X6_finds : GoodIn wsX6_next (wsV RX6 129 RX6 yX6_finds wsX6_finds) := goodIn_app (goodIn_of _ (by decide +kernel)) ggX6_next_X6_finds
theorem dX6_next_0 : decode cX6_next 0 = .ok (.iconst (-1), 1) := by decide +kernel
theorem dX6_next_1 : decode cX6_next 1 = .ok (.istore_n 1, 1) := by decide +kernel
theorem dX6_next_2 : decode cX6_next 2 = .ok (.iconst 0, 1) := by decide +kernel
theorem dX6_next_3 : decode cX6_next 3 = .ok (.istore_n 2, 1) := by decide +kernel
theorem dX6_next_4 : decode cX6_next 4 = .ok (.iload_n 2, 1) := by decide +kernel
theorem dX6_next_5 : decode cX6_next 5 = .ok (.aload_n 0, 1) := by decide +kernel
theorem dX6_next_6 : decode cX6_next 6 = .ok (.getfield 123, 3) := by decide +kernel
theorem dX6_next_9 : decode cX6_next 9 = .ok (.if_icmp .ge 40, 3) := by decide +kernel
theorem dX6_next_12 : decode cX6_next 12 = .ok (.aload_n 0, 1) := by decide +kernel
theorem dX6_next_13 : decode cX6_next 13 = .ok (.iload_n 2, 1) := by decide +kernel
theorem dX6_next_14 : decode cX6_next 14 = .ok (.invokevirtual 129, 3) := by decide +kernel
theorem dX6_next_17 : decode cX6_next 17 = .ok (.istore_n 3, 1) := by decide +kernel
theorem dX6_next_18 : decode cX6_next 18 = .ok (.iload_n 3, 1) := by decide +kernel
theorem dX6_next_19 : decode cX6_next 19 = .ok (.iconst (-1), 1) := by decide +kernel
theorem dX6_next_20 : decode cX6_next 20 = .ok (.if_icmp .eq 21, 3) := by decide +kernel
theorem dX6_next_23 : decode cX6_next 23 = .ok (.iload_n 1, 1) := by decide +kernel
theorem dX6_next_24 : decode cX6_next 24 = .ok (.iconst (-1), 1) := by decide +kernel
theorem dX6_next_25 : decode cX6_next 25 = .ok (.if_icmp .eq 12, 3) := by decide +kernel
theorem dX6_next_28 : decode cX6_next 28 = .ok (.iload_n 3, 1) := by decide +kernel
theorem dX6_next_29 : decode cX6_next 29 = .ok (.aload_n 0, 1) := by decide +kernel
theorem dX6_next_30 : decode cX6_next 30 = .ok (.iload_n 1, 1) := by decide +kernel
theorem dX6_next_31 : decode cX6_next 31 = .ok (.invokevirtual 129, 3) := by decide +kernel
theorem dX6_next_34 : decode cX6_next 34 = .ok (.if_icmp .ge 7, 3) := by decide +kernel
theorem dX6_next_37 : decode cX6_next 37 = .ok (.iload_n 2, 1) := by decide +kernel
theorem dX6_next_38 : decode cX6_next 38 = .ok (.goto 4, 3) := by decide +kernel
theorem dX6_next_41 : decode cX6_next 41 = .ok (.iload_n 1, 1) := by decide +kernel
theorem dX6_next_42 : decode cX6_next 42 = .ok (.istore_n 1, 1) := by decide +kernel
theorem dX6_next_43 : decode cX6_next 43 = .ok (.iinc 2 1, 3) := by decide +kernel
theorem dX6_next_46 : decode cX6_next 46 = .ok (.goto (-42), 3) := by decide +kernel
theorem dX6_next_49 : decode cX6_next 49 = .ok (.iload_n 1, 1) := by decide +kernel
theorem dX6_next_50 : decode cX6_next 50 = .ok (.ireturn, 1) := by decide +kernel
set_option maxRecDepth 20000 in
theorem ggX6_findsAll_X6_next : GoodIn wsX6_findsAll wsX6_next := goodIn_r _ [10, 11, 12, 13, 14, 9, 15, 3, 4, 16, 1, 17, 18, 19, 20, 21, 22, 23, 24, 25, 26, 27, 28, 29, 30, 31, 32, 33, 34, 35, 36, 37, 38, 39, 40] (by decide +kernel) (by decide +kernel)
set_option maxRecDepth 20000 in
theorem gX6_findsAll_X6_next : GoodIn wsX6_findsAll (wsV RX6 133 RX6 yX6_next wsX6_next) := goodIn_app (goodIn_of _ (by decide +kernel)) ggX6_findsAll_X6_next
set_option maxRecDepth 20000 in
theorem ggX6_findsAll_X6_finds : GoodIn wsX6_findsAll wsX6_finds := goodIn_r _ [15, 3, 4, 16, 1, 17, 18, 19, 9, 20, 21, 22, 23, 24, 25, 26, 27, 28, 29, 30, 31, 32, 33, 34, 35, 36, 37, 38, 39, 40] (by decide +kernel) (by decide +kernel)
set_option maxRecDepth 20000 in
theorem gX6_findsAll_X6_finds : GoodIn wsX6_findsAll (wsV RX6 129 RX6 yX6_finds wsX6_finds) := goodIn_app (goodIn_of _ (by decide +kernel)) ggX6_findsAll_X6_finds
set_option maxRecDepth 20000 in
theorem ggX6_findsAll_X6_isFound : GoodIn wsX6_findsAll wsX6_isFound := goodIn_r _ [20, 1, 21, 22, 23, 24, 25, 26, 27, 28, 29, 30, 31, 32, 33, 34, 35, 36, 37, 38, 39, 40] (by decide +kernel) (by decide +kernel)
set_option maxRecDepth 20000 in
theorem gX6_findsAll_X6_isFound : GoodIn wsX6_findsAll (wsV RX6 126 RX6 yX6_isFound wsX6_isFound) := goodIn_app (goodIn_of _ (by decide +kernel)) ggX6_findsAll_X6_isFound
theorem dX6_findsAll_0 : decode cX6_findsAll 0 = .ok (.iconst 0, 1) := by decide +kernel
theorem dX6_findsAll_1 : decode cX6_findsAll 1 = .ok (.istore_n 1, 1) := by decide +kernel
theorem dX6_findsAll_2 : decode cX6_findsAll 2 = .ok (.iload_n 1, 1) := by decide +kernel
theorem dX6_findsAll_3 : decode cX6_findsAll 3 = .ok (.bipush 10, 2) := by decide +kernel
theorem dX6_findsAll_5 : decode cX6_findsAll 5 = .ok (.if_icmp .ge 31, 3) := by decide +kernel
theorem dX6_findsAll_8 : decode cX6_findsAll 8 = .ok (.aload_n 0, 1) := by decide +kernel
theorem dX6_findsAll_9 : decode cX6_findsAll 9 = .ok (.getfield 39, 3) := by decide +kernel
theorem dX6_findsAll_12 : decode cX6_findsAll 12 = .ok (.iload_n 1, 1) := by decide +kernel
theorem dX6_findsAll_13 : decode cX6_findsAll 13 = .ok (.iload_n 1, 1) := by decide +kernel
theorem dX6_findsAll_14 : decode cX6_findsAll 14 = .ok (.ifCond .ne 7, 3) := by decide +kernel
theorem dX6_findsAll_17 : decode cX6_findsAll 17 = .ok (.iconst 0, 1) := by decide +kernel
theorem dX6_findsAll_18 : decode cX6_findsAll 18 = .ok (.goto 4, 3) := by decide +kernel
theorem dX6_findsAll_21 : decode cX6_findsAll 21 = .ok (.iconst (-1), 1) := by decide +kernel
theorem dX6_findsAll_22 : decode cX6_findsAll 22 = .ok (.iastore, 1) := by decide +kernel
theorem dX6_findsAll_23 : decode cX6_findsAll 23 = .ok (.aload_n 0, 1) := by decide +kernel
theorem dX6_findsAll_24 : decode cX6_findsAll 24 = .ok (.getfield 42, 3) := by decide +kernel
theorem dX6_findsAll_27 : decode cX6_findsAll 27 = .ok (.iload_n 1, 1) := by decide +kernel
theorem dX6_findsAll_28 : decode cX6_findsAll 28 = .ok (.iconst 0, 1) := by decide +kernel
theorem dX6_findsAll_29 : decode cX6_findsAll 29 = .ok (.iastore, 1) := by decide +kernel
theorem dX6_findsAll_30 : decode cX6_findsAll 30 = .ok (.iinc 1 1, 3) := by decide +kernel
theorem dX6_findsAll_33 : decode cX6_findsAll 33 = .ok (.goto (-31), 3) := by decide +kernel
theorem dX6_findsAll_36 : decode cX6_findsAll 36 = .ok (.aload_n 0, 1) := by decide +kernel
theorem dX6_findsAll_37 : decode cX6_findsAll 37 = .ok (.invokevirtual 133, 3) := by decide +kernel
theorem dX6_findsAll_40 : decode cX6_findsAll 40 = .ok (.istore_n 1, 1) := by decide +kernel
theorem dX6_findsAll_41 : decode cX6_findsAll 41 = .ok (.iload_n 1, 1) := by decide +kernel
theorem dX6_findsAll_42 : decode cX6_findsAll 42 = .ok (.iconst (-1), 1) := by decide +kernel
theorem dX6_findsAll_43 : decode cX6_findsAll 43 = .ok (.if_icmp .eq 107, 3) := by decide +kernel
theorem dX6_findsAll_46 : decode cX6_findsAll 46 = .ok (.aload_n 0, 1) := by decide +kernel
theorem dX6_findsAll_47 : decode cX6_findsAll 47 = .ok (.iload_n 1, 1) := by decide +kernel
theorem dX6_findsAll_48 : decode cX6_findsAll 48 = .ok (.invokevirtual 129, 3) := by decide +kernel
theorem dX6_findsAll_51 : decode cX6_findsAll 51 = .ok (.istore_n 2, 1) := by decide +kernel
theorem dX6_findsAll_52 : decode cX6_findsAll 52 = .ok (.aload_n 0, 1) := by decide +kernel
theorem dX6_findsAll_53 : decode cX6_findsAll 53 = .ok (.aload_n 0, 1) := by decide +kernel
theorem dX6_findsAll_54 : decode cX6_findsAll 54 = .ok (.getfield 27, 3) := by decide +kernel
theorem dX6_findsAll_57 : decode cX6_findsAll 57 = .ok (.iload_n 1, 1) := by decide +kernel
theorem dX6_findsAll_58 : decode cX6_findsAll 58 = .ok (.iaload, 1) := by decide +kernel
theorem dX6_findsAll_59 : decode cX6_findsAll 59 = .ok (.invokevirtual 126, 3) := by decide +kernel
theorem dX6_findsAll_62 : decode cX6_findsAll 62 = .ok (.istore_n 3, 1) := by decide +kernel
theorem dX6_findsAll_63 : decode cX6_findsAll 63 = .ok (.iload_n 3, 1) := by decide +kernel
theorem dX6_findsAll_64 : decode cX6_findsAll 64 = .ok (.ifCond .eq 12, 3) := by decide +kernel
theorem dX6_findsAll_67 : decode cX6_findsAll 67 = .ok (.aload_n 0, 1) := by decide +kernel
theorem dX6_findsAll_68 : decode cX6_findsAll 68 = .ok (.getfield 30, 3) := by decide +kernel
theorem dX6_findsAll_71 : decode cX6_findsAll 71 = .ok (.iload_n 1, 1) := by decide +kernel
theorem dX6_findsAll_72 : decode cX6_findsAll 72 = .ok (.iaload, 1) := by decide +kernel
theorem dX6_findsAll_73 : decode cX6_findsAll 73 = .ok (.goto 9, 3) := by decide +kernel
theorem dX6_findsAll_76 : decode cX6_findsAll 76 = .ok (.aload_n 0, 1) := by decide +kernel
theorem dX6_findsAll_77 : decode cX6_findsAll 77 = .ok (.getfield 27, 3) := by decide +kernel
theorem dX6_findsAll_80 : decode cX6_findsAll 80 = .ok (.iload_n 1, 1) := by decide +kernel
theorem dX6_findsAll_81 : decode cX6_findsAll 81 = .ok (.iaload, 1) := by decide +kernel
theorem dX6_findsAll_82 : decode cX6_findsAll 82 = .ok (.istore 4, 2) := by decide +kernel
theorem dX6_findsAll_84 : decode cX6_findsAll 84 = .ok (.aload_n 0, 1) := by decide +kernel
theorem dX6_findsAll_85 : decode cX6_findsAll 85 = .ok (.getfield 42, 3) := by decide +kernel
theorem dX6_findsAll_88 : decode cX6_findsAll 88 = .ok (.iload 4, 2) := by decide +kernel
theorem dX6_findsAll_90 : decode cX6_findsAll 90 = .ok (.iload_n 3, 1) := by decide +kernel
theorem dX6_findsAll_91 : decode cX6_findsAll 91 = .ok (.ifCond .eq 24, 3) := by decide +kernel
theorem dX6_findsAll_94 : decode cX6_findsAll 94 = .ok (.aload_n 0, 1) := by decide +kernel
theorem dX6_findsAll_95 : decode cX6_findsAll 95 = .ok (.getfield 42, 3) := by decide +kernel
theorem dX6_findsAll_98 : decode cX6_findsAll 98 = .ok (.aload_n 0, 1) := by decide +kernel
theorem dX6_findsAll_99 : decode cX6_findsAll 99 = .ok (.getfield 27, 3) := by decide +kernel
theorem dX6_findsAll_102 : decode cX6_findsAll 102 = .ok (.iload_n 1, 1) := by decide +kernel
theorem dX6_findsAll_103 : decode cX6_findsAll 103 = .ok (.iaload, 1) := by decide +kernel
theorem dX6_findsAll_104 : decode cX6_findsAll 104 = .ok (.iaload, 1) := by decide +kernel
theorem dX6_findsAll_105 : decode cX6_findsAll 105 = .ok (.aload_n 0, 1) := by decide +kernel
theorem dX6_findsAll_106 : decode cX6_findsAll 106 = .ok (.getfield 33, 3) := by decide +kernel
theorem dX6_findsAll_109 : decode cX6_findsAll 109 = .ok (.iload_n 1, 1) := by decide +kernel
theorem dX6_findsAll_110 : decode cX6_findsAll 110 = .ok (.iaload, 1) := by decide +kernel
theorem dX6_findsAll_111 : decode cX6_findsAll 111 = .ok (.iadd, 1) := by decide +kernel
theorem dX6_findsAll_112 : decode cX6_findsAll 112 = .ok (.goto 21, 3) := by decide +kernel
theorem dX6_findsAll_115 : decode cX6_findsAll 115 = .ok (.aload_n 0, 1) := by decide +kernel
theorem dX6_findsAll_116 : decode cX6_findsAll 116 = .ok (.getfield 42, 3) := by decide +kernel
theorem dX6_findsAll_119 : decode cX6_findsAll 119 = .ok (.aload_n 0, 1) := by decide +kernel
theorem dX6_findsAll_120 : decode cX6_findsAll 120 = .ok (.getfield 30, 3) := by decide +kernel
theorem dX6_findsAll_123 : decode cX6_findsAll 123 = .ok (.iload_n 1, 1) := by decide +kernel
theorem dX6_findsAll_124 : decode cX6_findsAll 124 = .ok (.iaload, 1) := by decide +kernel
theorem dX6_findsAll_125 : decode cX6_findsAll 125 = .ok (.iaload, 1) := by decide +kernel
theorem dX6_findsAll_126 : decode cX6_findsAll 126 = .ok (.aload_n 0, 1) := by decide +kernel
theorem dX6_findsAll_127 : decode cX6_findsAll 127 = .ok (.getfield 33, 3) := by decide +kernel
theorem dX6_findsAll_130 : decode cX6_findsAll 130 = .ok (.iload_n 1, 1) := by decide +kernel
theorem dX6_findsAll_131 : decode cX6_findsAll 131 = .ok (.iaload, 1) := by decide +kernel
theorem dX6_findsAll_132 : decode cX6_findsAll 132 = .ok (.isub, 1) := by decide +kernel
theorem dX6_findsAll_133 : decode cX6_findsAll 133 = .ok (.iastore, 1) := by decide +kernel
theorem dX6_findsAll_134 : decode cX6_findsAll 134 = .ok (.aload_n 0, 1) := by decide +kernel
theorem dX6_findsAll_135 : decode cX6_findsAll 135 = .ok (.getfield 39, 3) := by decide +kernel
theorem dX6_findsAll_138 : decode cX6_findsAll 138 = .ok (.iload 4, 2) := by decide +kernel
theorem dX6_findsAll_140 : decode cX6_findsAll 140 = .ok (.iload_n 2, 1) := by decide +kernel
theorem dX6_findsAll_141 : decode cX6_findsAll 141 = .ok (.iastore, 1) := by decide +kernel
theorem dX6_findsAll_142 : decode cX6_findsAll 142 = .ok (.aload_n 0, 1) := by decide +kernel
theorem dX6_findsAll_143 : decode cX6_findsAll 143 = .ok (.invokevirtual 133, 3) := by decide +kernel
theorem dX6_findsAll_146 : decode cX6_findsAll 146 = .ok (.istore_n 1, 1) := by decide +kernel
theorem dX6_findsAll_147 : decode cX6_findsAll 147 = .ok (.goto (-106), 3) := by decide +kernel
theorem dX6_findsAll_150 : decode cX6_findsAll 150 = .ok (.return_, 1) := by decide +kernel
set_option maxRecDepth 20000 in
theorem ggX6_height_X6_isBenchmark : GoodIn wsX6_height wsX6_isBenchmark := goodIn_r _ [6, 7, 8, 9, 5, 10, 38, 39, 40, 41, 42, 43, 44, 45, 46, 47, 48, 49, 50, 51, 52, 53, 54, 55, 56, 57] (by decide +kernel) (by decide +kernel)
set_option maxRecDepth 20000 in
theorem gX6_height_X6_isBenchmark : GoodIn wsX6_height (wsV RX6 118 RX6 yX6_isBenchmark wsX6_isBenchmark) := goodIn_app (goodIn_of _ (by decide +kernel)) ggX6_height_X6_isBenchmark
set_option maxRecDepth 20000 in
theorem ggX6_height_X6_findsAll : GoodIn wsX6_height wsX6_findsAll := goodIn_r _ [14, 15, 1, 16, 17, 18, 19, 20, 21, 5, 22, 23, 24, 25, 26, 27, 28, 29, 30, 31, 32, 38, 39, 40, 41, 42, 43, 44, 45, 46, 47, 48, 49, 50, 51, 52, 53, 54, 55, 56, 57] (by decide +kernel) (by decide +kernel)
set_option maxRecDepth 20000 in
theorem gX6_height_X6_findsAll : GoodIn wsX6_height (wsV RX6 137 RX6 yX6_findsAll wsX6_findsAll) := goodIn_app (goodIn_of _ (by decide +kernel)) ggX6_height_X6_findsAll
set_option maxRecDepth 20000 in
theorem ggX6_height_X6_isFound : GoodIn wsX6_height wsX6_isFound := goodIn_r _ [32, 15, 38, 39, 40, 41, 42, 43, 44, 45, 46, 47, 48, 49, 50, 51, 52, 53, 54, 55, 56, 57] (by decide +kernel) (by decide +kernel)
set_option maxRecDepth 20000 in
theorem gX6_height_X6_isFound : GoodIn wsX6_height (wsV RX6 126 RX6 yX6_isFound wsX6_isFound) := goodIn_app (goodIn_of _ (by decide +kernel)) ggX6_height_X6_isFound
set_option maxRecDepth 20000 in
theorem ggX6_height_X6_holds : GoodIn wsX6_height wsX6_holds := goodIn_r _ [36, 37, 38, 39, 40, 41, 42, 43, 44, 45, 46, 47, 48, 49, 50, 51, 52, 53, 54, 55, 56, 57] (by decide +kernel) (by decide +kernel)
set_option maxRecDepth 20000 in
theorem gX6_height_X6_holds : GoodIn wsX6_height (wsV RX6 80 RX6 yX6_holds wsX6_holds) := goodIn_app (goodIn_of _ (by decide +kernel)) ggX6_height_X6_holds
theorem dX6_height_0 : decode cX6_height 0 = .ok (.aload_n 0, 1) := by decide +kernel
theorem dX6_height_1 : decode cX6_height 1 = .ok (.iload_n 1, 1) := by decide +kernel
theorem dX6_height_2 : decode cX6_height 2 = .ok (.invokevirtual 118, 3) := by decide +kernel
theorem dX6_height_5 : decode cX6_height 5 = .ok (.istore_n 2, 1) := by decide +kernel
theorem dX6_height_6 : decode cX6_height 6 = .ok (.aload_n 0, 1) := by decide +kernel
theorem dX6_height_7 : decode cX6_height 7 = .ok (.invokevirtual 137, 3) := by decide +kernel
theorem dX6_height_10 : decode cX6_height 10 = .ok (.aload_n 0, 1) := by decide +kernel
end
section
theorem dX6_height_11 : decode cX6_height 11 = .ok (.iload_n 2, 1) := by decide +kernel
theorem dX6_height_12 : decode cX6_height 12 = .ok (.ifCond .ne 7, 3) := by decide +kernel
theorem dX6_height_15 : decode cX6_height 15 = .ok (.iconst 1, 1) := by decide +kernel
theorem dX6_height_16 : decode cX6_height 16 = .ok (.goto 16, 3) := by decide +kernel
theorem dX6_height_19 : decode cX6_height 19 = .ok (.aload_n 0, 1) := by decide +kernel
theorem dX6_height_20 : decode cX6_height 20 = .ok (.iload_n 1, 1) := by decide +kernel
theorem dX6_height_21 : decode cX6_height 21 = .ok (.invokevirtual 126, 3) := by decide +kernel
theorem dX6_height_24 : decode cX6_height 24 = .ok (.ifCond .ne 7, 3) := by decide +kernel
theorem dX6_height_27 : decode cX6_height 27 = .ok (.iconst 2, 1) := by decide +kernel
theorem dX6_height_28 : decode cX6_height 28 = .ok (.goto 4, 3) := by decide +kernel
theorem dX6_height_31 : decode cX6_height 31 = .ok (.iconst 0, 1) := by decide +kernel
theorem dX6_height_32 : decode cX6_height 32 = .ok (.invokevirtual 80, 3) := by decide +kernel
theorem dX6_height_35 : decode cX6_height 35 = .ok (.ifCond .eq 12, 3) := by decide +kernel
theorem dX6_height_38 : decode cX6_height 38 = .ok (.aload_n 0, 1) := by decide +kernel
theorem dX6_height_39 : decode cX6_height 39 = .ok (.getfield 42, 3) := by decide +kernel
theorem dX6_height_42 : decode cX6_height 42 = .ok (.iload_n 1, 1) := by decide +kernel
theorem dX6_height_43 : decode cX6_height 43 = .ok (.iaload, 1) := by decide +kernel
theorem dX6_height_44 : decode cX6_height 44 = .ok (.goto 4, 3) := by decide +kernel
theorem dX6_height_47 : decode cX6_height 47 = .ok (.iconst 0, 1) := by decide +kernel
theorem dX6_height_48 : decode cX6_height 48 = .ok (.ireturn, 1) := by decide +kernel
set_option maxRecDepth 20000 in
theorem ggX6_doubtOf_X6_findsAll : GoodIn wsX6_doubtOf wsX6_findsAll := goodIn_r _ [6, 1, 7, 8, 9, 10, 11, 12, 13, 5, 14, 15, 16, 17, 18, 19, 20, 21, 22, 23, 24, 25, 26, 27, 28, 29, 30, 31, 32, 33, 34, 35, 36, 37, 38, 39, 40, 41, 42, 43, 44] (by decide +kernel) (by decide +kernel)
set_option maxRecDepth 20000 in
theorem gX6_doubtOf_X6_findsAll : GoodIn wsX6_doubtOf (wsV RX6 137 RX6 yX6_findsAll wsX6_findsAll) := goodIn_app (goodIn_of _ (by decide +kernel)) ggX6_doubtOf_X6_findsAll
theorem dX6_doubtOf_0 : decode cX6_doubtOf 0 = .ok (.aload_n 0, 1) := by decide +kernel
theorem dX6_doubtOf_1 : decode cX6_doubtOf 1 = .ok (.invokevirtual 137, 3) := by decide +kernel
theorem dX6_doubtOf_4 : decode cX6_doubtOf 4 = .ok (.aload_n 0, 1) := by decide +kernel
theorem dX6_doubtOf_5 : decode cX6_doubtOf 5 = .ok (.getfield 39, 3) := by decide +kernel
theorem dX6_doubtOf_8 : decode cX6_doubtOf 8 = .ok (.iload_n 1, 1) := by decide +kernel
theorem dX6_doubtOf_9 : decode cX6_doubtOf 9 = .ok (.iaload, 1) := by decide +kernel
theorem dX6_doubtOf_10 : decode cX6_doubtOf 10 = .ok (.ireturn, 1) := by decide +kernel
set_option maxRecDepth 20000 in
theorem ggX6_doubt_X6_isBenchmark : GoodIn wsX6_doubt wsX6_isBenchmark := goodIn_r _ [5, 6, 7, 8, 4, 9, 42, 43, 44, 45, 46, 47, 48, 49, 50, 51, 52, 53, 54, 55, 56, 57, 58, 59, 60, 61] (by decide +kernel) (by decide +kernel)
set_option maxRecDepth 20000 in
theorem gX6_doubt_X6_isBenchmark : GoodIn wsX6_doubt (wsV RX6 118 RX6 yX6_isBenchmark wsX6_isBenchmark) := goodIn_app (goodIn_of _ (by decide +kernel)) ggX6_doubt_X6_isBenchmark
set_option maxRecDepth 20000 in
theorem ggX6_doubt_X6_holds : GoodIn wsX6_doubt wsX6_holds := goodIn_r _ [13, 14, 42, 43, 44, 45, 46, 47, 48, 49, 50, 51, 52, 53, 54, 55, 56, 57, 58, 59, 60, 61] (by decide +kernel) (by decide +kernel)
set_option maxRecDepth 20000 in
theorem gX6_doubt_X6_holds : GoodIn wsX6_doubt (wsV RX6 80 RX6 yX6_holds wsX6_holds) := goodIn_app (goodIn_of _ (by decide +kernel)) ggX6_doubt_X6_holds
set_option maxRecDepth 20000 in
theorem ggX6_doubt_X6_doubtOf : GoodIn wsX6_doubt wsX6_doubtOf := goodIn_r _ [18, 19, 20, 21, 22, 4, 23, 24, 25, 26, 27, 28, 29, 30, 31, 32, 33, 34, 35, 36, 37, 38, 39, 40, 41, 42, 43, 44, 45, 46, 47, 48, 49, 50, 51, 52, 53, 54, 55, 56, 57, 58, 59, 60, 61] (by decide +kernel) (by decide +kernel)
set_option maxRecDepth 20000 in
theorem gX6_doubt_X6_doubtOf : GoodIn wsX6_doubt (wsV RX6 140 RX6 yX6_doubtOf wsX6_doubtOf) := goodIn_app (goodIn_of _ (by decide +kernel)) ggX6_doubt_X6_doubtOf
theorem dX6_doubt_0 : decode cX6_doubt 0 = .ok (.aload_n 0, 1) := by decide +kernel
theorem dX6_doubt_1 : decode cX6_doubt 1 = .ok (.aload_n 0, 1) := by decide +kernel
theorem dX6_doubt_2 : decode cX6_doubt 2 = .ok (.iload_n 1, 1) := by decide +kernel
theorem dX6_doubt_3 : decode cX6_doubt 3 = .ok (.invokevirtual 118, 3) := by decide +kernel
theorem dX6_doubt_6 : decode cX6_doubt 6 = .ok (.ifCond .eq 7, 3) := by decide +kernel
theorem dX6_doubt_9 : decode cX6_doubt 9 = .ok (.iconst 0, 1) := by decide +kernel
theorem dX6_doubt_10 : decode cX6_doubt 10 = .ok (.goto 4, 3) := by decide +kernel
theorem dX6_doubt_13 : decode cX6_doubt 13 = .ok (.iconst 1, 1) := by decide +kernel
theorem dX6_doubt_14 : decode cX6_doubt 14 = .ok (.invokevirtual 80, 3) := by decide +kernel
theorem dX6_doubt_17 : decode cX6_doubt 17 = .ok (.ifCond .eq 11, 3) := by decide +kernel
theorem dX6_doubt_20 : decode cX6_doubt 20 = .ok (.aload_n 0, 1) := by decide +kernel
theorem dX6_doubt_21 : decode cX6_doubt 21 = .ok (.iload_n 1, 1) := by decide +kernel
theorem dX6_doubt_22 : decode cX6_doubt 22 = .ok (.invokevirtual 140, 3) := by decide +kernel
theorem dX6_doubt_25 : decode cX6_doubt 25 = .ok (.goto 4, 3) := by decide +kernel
theorem dX6_doubt_28 : decode cX6_doubt 28 = .ok (.iconst 0, 1) := by decide +kernel
theorem dX6_doubt_29 : decode cX6_doubt 29 = .ok (.ireturn, 1) := by decide +kernel
set_option maxRecDepth 20000 in
theorem ggX6_doubtAnew_X6_isBenchmark : GoodIn wsX6_doubtAnew wsX6_isBenchmark := goodIn_r _ [5, 6, 7, 8, 4, 9, 42, 43, 44, 45, 46, 47, 48, 49, 50, 51, 52, 53, 54, 55, 56, 57, 58, 59, 60, 61] (by decide +kernel) (by decide +kernel)
set_option maxRecDepth 20000 in
theorem gX6_doubtAnew_X6_isBenchmark : GoodIn wsX6_doubtAnew (wsV RX6 118 RX6 yX6_isBenchmark wsX6_isBenchmark) := goodIn_app (goodIn_of _ (by decide +kernel)) ggX6_doubtAnew_X6_isBenchmark
set_option maxRecDepth 20000 in
theorem ggX6_doubtAnew_X6_holds : GoodIn wsX6_doubtAnew wsX6_holds := goodIn_r _ [13, 14, 42, 43, 44, 45, 46, 47, 48, 49, 50, 51, 52, 53, 54, 55, 56, 57, 58, 59, 60, 61] (by decide +kernel) (by decide +kernel)
set_option maxRecDepth 20000 in
theorem gX6_doubtAnew_X6_holds : GoodIn wsX6_doubtAnew (wsV RX6 80 RX6 yX6_holds wsX6_holds) := goodIn_app (goodIn_of _ (by decide +kernel)) ggX6_doubtAnew_X6_holds
set_option maxRecDepth 20000 in
theorem ggX6_doubtAnew_X6_doubtOf : GoodIn wsX6_doubtAnew wsX6_doubtOf := goodIn_r _ [18, 19, 20, 21, 22, 4, 23, 24, 25, 26, 27, 28, 29, 30, 31, 32, 33, 34, 35, 36, 37, 38, 39, 40, 41, 42, 43, 44, 45, 46, 47, 48, 49, 50, 51, 52, 53, 54, 55, 56, 57, 58, 59, 60, 61] (by decide +kernel) (by decide +kernel)
set_option maxRecDepth 20000 in
theorem gX6_doubtAnew_X6_doubtOf : GoodIn wsX6_doubtAnew (wsV RX6 140 RX6 yX6_doubtOf wsX6_doubtOf) := goodIn_app (goodIn_of _ (by decide +kernel)) ggX6_doubtAnew_X6_doubtOf
theorem dX6_doubtAnew_0 : decode cX6_doubtAnew 0 = .ok (.aload_n 0, 1) := by decide +kernel
theorem dX6_doubtAnew_1 : decode cX6_doubtAnew 1 = .ok (.aload_n 0, 1) := by decide +kernel
theorem dX6_doubtAnew_2 : decode cX6_doubtAnew 2 = .ok (.iload_n 1, 1) := by decide +kernel
theorem dX6_doubtAnew_3 : decode cX6_doubtAnew 3 = .ok (.invokevirtual 118, 3) := by decide +kernel
theorem dX6_doubtAnew_6 : decode cX6_doubtAnew 6 = .ok (.ifCond .eq 7, 3) := by decide +kernel
theorem dX6_doubtAnew_9 : decode cX6_doubtAnew 9 = .ok (.iconst 0, 1) := by decide +kernel
theorem dX6_doubtAnew_10 : decode cX6_doubtAnew 10 = .ok (.goto 4, 3) := by decide +kernel
theorem dX6_doubtAnew_13 : decode cX6_doubtAnew 13 = .ok (.iconst 1, 1) := by decide +kernel
theorem dX6_doubtAnew_14 : decode cX6_doubtAnew 14 = .ok (.invokevirtual 80, 3) := by decide +kernel
theorem dX6_doubtAnew_17 : decode cX6_doubtAnew 17 = .ok (.ifCond .eq 11, 3) := by decide +kernel
theorem dX6_doubtAnew_20 : decode cX6_doubtAnew 20 = .ok (.aload_n 0, 1) := by decide +kernel
theorem dX6_doubtAnew_21 : decode cX6_doubtAnew 21 = .ok (.iload_n 1, 1) := by decide +kernel
theorem dX6_doubtAnew_22 : decode cX6_doubtAnew 22 = .ok (.invokevirtual 140, 3) := by decide +kernel
theorem dX6_doubtAnew_25 : decode cX6_doubtAnew 25 = .ok (.goto 4, 3) := by decide +kernel
theorem dX6_doubtAnew_28 : decode cX6_doubtAnew 28 = .ok (.iconst 0, 1) := by decide +kernel
theorem dX6_doubtAnew_29 : decode cX6_doubtAnew 29 = .ok (.ireturn, 1) := by decide +kernel
set_option maxRecDepth 20000 in
theorem ggX6_conflicts_X6_findsAll : GoodIn wsX6_conflicts wsX6_findsAll := goodIn_r _ [11, 6, 4, 1, 2, 3, 12, 13, 14, 10, 15, 16, 17, 18, 19, 20, 5, 21, 22, 23, 24, 25, 26, 27, 28, 29, 30, 31, 32, 33, 34, 35, 36, 37, 38, 39, 40, 41, 42, 43, 44] (by decide +kernel) (by decide +kernel)
set_option maxRecDepth 20000 in
theorem gX6_conflicts_X6_findsAll : GoodIn wsX6_conflicts (wsV RX6 137 RX6 yX6_findsAll wsX6_findsAll) := goodIn_app (goodIn_of _ (by decide +kernel)) ggX6_conflicts_X6_findsAll
set_option maxRecDepth 20000 in
theorem ggX6_conflicts_X6_isFound : GoodIn wsX6_conflicts wsX6_isFound := goodIn_r _ [24, 6, 25, 26, 27, 28, 29, 30, 31, 32, 33, 34, 35, 36, 37, 38, 39, 40, 41, 42, 43, 44] (by decide +kernel) (by decide +kernel)
set_option maxRecDepth 20000 in
theorem gX6_conflicts_X6_isFound : GoodIn wsX6_conflicts (wsV RX6 126 RX6 yX6_isFound wsX6_isFound) := goodIn_app (goodIn_of _ (by decide +kernel)) ggX6_conflicts_X6_isFound
theorem dX6_conflicts_0 : decode cX6_conflicts 0 = .ok (.aload_n 0, 1) := by decide +kernel
theorem dX6_conflicts_1 : decode cX6_conflicts 1 = .ok (.invokevirtual 137, 3) := by decide +kernel
theorem dX6_conflicts_4 : decode cX6_conflicts 4 = .ok (.aload_n 0, 1) := by decide +kernel
theorem dX6_conflicts_5 : decode cX6_conflicts 5 = .ok (.getfield 27, 3) := by decide +kernel
theorem dX6_conflicts_8 : decode cX6_conflicts 8 = .ok (.iload_n 1, 1) := by decide +kernel
theorem dX6_conflicts_9 : decode cX6_conflicts 9 = .ok (.iaload, 1) := by decide +kernel
theorem dX6_conflicts_10 : decode cX6_conflicts 10 = .ok (.istore_n 2, 1) := by decide +kernel
theorem dX6_conflicts_11 : decode cX6_conflicts 11 = .ok (.aload_n 0, 1) := by decide +kernel
theorem dX6_conflicts_12 : decode cX6_conflicts 12 = .ok (.getfield 30, 3) := by decide +kernel
theorem dX6_conflicts_15 : decode cX6_conflicts 15 = .ok (.iload_n 1, 1) := by decide +kernel
theorem dX6_conflicts_16 : decode cX6_conflicts 16 = .ok (.iaload, 1) := by decide +kernel
theorem dX6_conflicts_17 : decode cX6_conflicts 17 = .ok (.istore_n 3, 1) := by decide +kernel
theorem dX6_conflicts_18 : decode cX6_conflicts 18 = .ok (.aload_n 0, 1) := by decide +kernel
theorem dX6_conflicts_19 : decode cX6_conflicts 19 = .ok (.getfield 33, 3) := by decide +kernel
theorem dX6_conflicts_22 : decode cX6_conflicts 22 = .ok (.iload_n 1, 1) := by decide +kernel
theorem dX6_conflicts_23 : decode cX6_conflicts 23 = .ok (.iaload, 1) := by decide +kernel
theorem dX6_conflicts_24 : decode cX6_conflicts 24 = .ok (.aload_n 0, 1) := by decide +kernel
theorem dX6_conflicts_25 : decode cX6_conflicts 25 = .ok (.getfield 42, 3) := by decide +kernel
theorem dX6_conflicts_28 : decode cX6_conflicts 28 = .ok (.iload_n 3, 1) := by decide +kernel
theorem dX6_conflicts_29 : decode cX6_conflicts 29 = .ok (.iaload, 1) := by decide +kernel
theorem dX6_conflicts_30 : decode cX6_conflicts 30 = .ok (.aload_n 0, 1) := by decide +kernel
theorem dX6_conflicts_31 : decode cX6_conflicts 31 = .ok (.getfield 42, 3) := by decide +kernel
theorem dX6_conflicts_34 : decode cX6_conflicts 34 = .ok (.iload_n 2, 1) := by decide +kernel
theorem dX6_conflicts_35 : decode cX6_conflicts 35 = .ok (.iaload, 1) := by decide +kernel
theorem dX6_conflicts_36 : decode cX6_conflicts 36 = .ok (.isub, 1) := by decide +kernel
theorem dX6_conflicts_37 : decode cX6_conflicts 37 = .ok (.isub, 1) := by decide +kernel
theorem dX6_conflicts_38 : decode cX6_conflicts 38 = .ok (.istore 4, 2) := by decide +kernel
theorem dX6_conflicts_40 : decode cX6_conflicts 40 = .ok (.aload_n 0, 1) := by decide +kernel
theorem dX6_conflicts_41 : decode cX6_conflicts 41 = .ok (.iload_n 2, 1) := by decide +kernel
theorem dX6_conflicts_42 : decode cX6_conflicts 42 = .ok (.invokevirtual 126, 3) := by decide +kernel
theorem dX6_conflicts_45 : decode cX6_conflicts 45 = .ok (.ifCond .eq 51, 3) := by decide +kernel
theorem dX6_conflicts_48 : decode cX6_conflicts 48 = .ok (.aload_n 0, 1) := by decide +kernel
theorem dX6_conflicts_49 : decode cX6_conflicts 49 = .ok (.iload_n 3, 1) := by decide +kernel
theorem dX6_conflicts_50 : decode cX6_conflicts 50 = .ok (.invokevirtual 126, 3) := by decide +kernel
theorem dX6_conflicts_53 : decode cX6_conflicts 53 = .ok (.ifCond .eq 43, 3) := by decide +kernel
theorem dX6_conflicts_56 : decode cX6_conflicts 56 = .ok (.iload 4, 2) := by decide +kernel
theorem dX6_conflicts_58 : decode cX6_conflicts 58 = .ok (.ifCond .ge 9, 3) := by decide +kernel
theorem dX6_conflicts_61 : decode cX6_conflicts 61 = .ok (.iload 4, 2) := by decide +kernel
theorem dX6_conflicts_63 : decode cX6_conflicts 63 = .ok (.ineg, 1) := by decide +kernel
theorem dX6_conflicts_64 : decode cX6_conflicts 64 = .ok (.goto 5, 3) := by decide +kernel
theorem dX6_conflicts_67 : decode cX6_conflicts 67 = .ok (.iload 4, 2) := by decide +kernel
theorem dX6_conflicts_69 : decode cX6_conflicts 69 = .ok (.aload_n 0, 1) := by decide +kernel
theorem dX6_conflicts_70 : decode cX6_conflicts 70 = .ok (.getfield 36, 3) := by decide +kernel
theorem dX6_conflicts_73 : decode cX6_conflicts 73 = .ok (.iload_n 1, 1) := by decide +kernel
theorem dX6_conflicts_74 : decode cX6_conflicts 74 = .ok (.iaload, 1) := by decide +kernel
theorem dX6_conflicts_75 : decode cX6_conflicts 75 = .ok (.aload_n 0, 1) := by decide +kernel
theorem dX6_conflicts_76 : decode cX6_conflicts 76 = .ok (.getfield 39, 3) := by decide +kernel
theorem dX6_conflicts_79 : decode cX6_conflicts 79 = .ok (.iload_n 2, 1) := by decide +kernel
theorem dX6_conflicts_80 : decode cX6_conflicts 80 = .ok (.iaload, 1) := by decide +kernel
theorem dX6_conflicts_81 : decode cX6_conflicts 81 = .ok (.iadd, 1) := by decide +kernel
theorem dX6_conflicts_82 : decode cX6_conflicts 82 = .ok (.aload_n 0, 1) := by decide +kernel
theorem dX6_conflicts_83 : decode cX6_conflicts 83 = .ok (.getfield 39, 3) := by decide +kernel
theorem dX6_conflicts_86 : decode cX6_conflicts 86 = .ok (.iload_n 3, 1) := by decide +kernel
theorem dX6_conflicts_87 : decode cX6_conflicts 87 = .ok (.iaload, 1) := by decide +kernel
theorem dX6_conflicts_88 : decode cX6_conflicts 88 = .ok (.iadd, 1) := by decide +kernel
theorem dX6_conflicts_89 : decode cX6_conflicts 89 = .ok (.if_icmp .le 7, 3) := by decide +kernel
theorem dX6_conflicts_92 : decode cX6_conflicts 92 = .ok (.iconst 1, 1) := by decide +kernel
theorem dX6_conflicts_93 : decode cX6_conflicts 93 = .ok (.goto 4, 3) := by decide +kernel
theorem dX6_conflicts_96 : decode cX6_conflicts 96 = .ok (.iconst 0, 1) := by decide +kernel
theorem dX6_conflicts_97 : decode cX6_conflicts 97 = .ok (.ireturn, 1) := by decide +kernel
set_option maxRecDepth 20000 in
theorem ggX6_isInConflict_X6_isIn : GoodIn wsX6_isInConflict wsX6_isIn := goodIn_r _ [5] (by decide +kernel) (by decide +kernel)
set_option maxRecDepth 20000 in
theorem gX6_isInConflict_X6_isIn : GoodIn wsX6_isInConflict (va_wsS RX6 59 yX6_isIn wsX6_isIn) := goodIn_app (goodIn_of _ (by decide +kernel)) ggX6_isInConflict_X6_isIn
set_option maxRecDepth 20000 in
theorem ggX6_isInConflict_X6_holds : GoodIn wsX6_isInConflict wsX6_holds := goodIn_r _ [9, 10, 37, 38, 39, 40, 41, 42, 43, 44, 45, 46, 47, 48, 49, 50, 51, 52, 53, 54, 55, 56] (by decide +kernel) (by decide +kernel)
set_option maxRecDepth 20000 in
theorem gX6_isInConflict_X6_holds : GoodIn wsX6_isInConflict (wsV RX6 80 RX6 yX6_holds wsX6_holds) := goodIn_app (goodIn_of _ (by decide +kernel)) ggX6_isInConflict_X6_holds
set_option maxRecDepth 20000 in
theorem ggX6_isInConflict_X6_conflicts : GoodIn wsX6_isInConflict wsX6_conflicts := goodIn_r _ [14, 15, 16, 17, 18, 19, 20, 21, 22, 23, 4, 24, 25, 26, 27, 28, 1, 29, 30, 31, 32, 33, 34, 35, 36, 37, 38, 39, 40, 41, 42, 43, 44, 45, 46, 47, 48, 49, 50, 51, 52, 53, 54, 55, 56] (by decide +kernel) (by decide +kernel)
set_option maxRecDepth 20000 in
theorem gX6_isInConflict_X6_conflicts : GoodIn wsX6_isInConflict (wsV RX6 143 RX6 yX6_conflicts wsX6_conflicts) := goodIn_app (goodIn_of _ (by decide +kernel)) ggX6_isInConflict_X6_conflicts
theorem dX6_isInConflict_0 : decode cX6_isInConflict 0 = .ok (.aload_n 0, 1) := by decide +kernel
theorem dX6_isInConflict_1 : decode cX6_isInConflict 1 = .ok (.iload_n 1, 1) := by decide +kernel
theorem dX6_isInConflict_2 : decode cX6_isInConflict 2 = .ok (.i2l, 1) := by decide +kernel
theorem dX6_isInConflict_3 : decode cX6_isInConflict 3 = .ok (.lconst 0, 1) := by decide +kernel
theorem dX6_isInConflict_4 : decode cX6_isInConflict 4 = .ok (.aload_n 0, 1) := by decide +kernel
theorem dX6_isInConflict_5 : decode cX6_isInConflict 5 = .ok (.getfield 123, 3) := by decide +kernel
theorem dX6_isInConflict_8 : decode cX6_isInConflict 8 = .ok (.iconst 1, 1) := by decide +kernel
theorem dX6_isInConflict_9 : decode cX6_isInConflict 9 = .ok (.isub, 1) := by decide +kernel
theorem dX6_isInConflict_10 : decode cX6_isInConflict 10 = .ok (.i2l, 1) := by decide +kernel
theorem dX6_isInConflict_11 : decode cX6_isInConflict 11 = .ok (.invokestatic 59, 3) := by decide +kernel
theorem dX6_isInConflict_14 : decode cX6_isInConflict 14 = .ok (.ifCond .eq 7, 3) := by decide +kernel
theorem dX6_isInConflict_17 : decode cX6_isInConflict 17 = .ok (.iconst 0, 1) := by decide +kernel
theorem dX6_isInConflict_18 : decode cX6_isInConflict 18 = .ok (.goto 4, 3) := by decide +kernel
theorem dX6_isInConflict_21 : decode cX6_isInConflict 21 = .ok (.iconst 1, 1) := by decide +kernel
theorem dX6_isInConflict_22 : decode cX6_isInConflict 22 = .ok (.invokevirtual 80, 3) := by decide +kernel
theorem dX6_isInConflict_25 : decode cX6_isInConflict 25 = .ok (.ifCond .eq 15, 3) := by decide +kernel
theorem dX6_isInConflict_28 : decode cX6_isInConflict 28 = .ok (.aload_n 0, 1) := by decide +kernel
theorem dX6_isInConflict_29 : decode cX6_isInConflict 29 = .ok (.iload_n 1, 1) := by decide +kernel
theorem dX6_isInConflict_30 : decode cX6_isInConflict 30 = .ok (.invokevirtual 143, 3) := by decide +kernel
theorem dX6_isInConflict_33 : decode cX6_isInConflict 33 = .ok (.ifCond .eq 7, 3) := by decide +kernel
theorem dX6_isInConflict_36 : decode cX6_isInConflict 36 = .ok (.iconst 1, 1) := by decide +kernel
theorem dX6_isInConflict_37 : decode cX6_isInConflict 37 = .ok (.goto 4, 3) := by decide +kernel
theorem dX6_isInConflict_40 : decode cX6_isInConflict 40 = .ok (.iconst 0, 1) := by decide +kernel
theorem dX6_isInConflict_41 : decode cX6_isInConflict 41 = .ok (.ireturn, 1) := by decide +kernel
set_option maxRecDepth 20000 in
theorem ggX6_release_X6_holds : GoodIn wsX6_release wsX6_holds := goodIn_r _ [9, 10, 17, 18, 19, 20, 21, 22, 23, 24, 25, 26, 27, 28, 29, 30, 31, 32, 33, 34, 35, 36] (by decide +kernel) (by decide +kernel)
set_option maxRecDepth 20000 in
theorem gX6_release_X6_holds : GoodIn wsX6_release (wsV RX6 80 RX6 yX6_holds wsX6_holds) := goodIn_app (goodIn_of _ (by decide +kernel)) ggX6_release_X6_holds
set_option maxRecDepth 20000 in
theorem ggX6_release_X6_pullAt : GoodIn wsX6_release wsX6_pullAt := goodIn_r _ [14, 15, 16, 17, 18, 19, 20, 21, 22, 23, 24, 25, 26, 27, 28, 29, 30, 31, 32, 33, 34, 35, 36] (by decide +kernel) (by decide +kernel)
set_option maxRecDepth 20000 in
theorem gX6_release_X6_pullAt : GoodIn wsX6_release (wsV RX6 92 RX6 yX6_pullAt wsX6_pullAt) := goodIn_app (goodIn_of _ (by decide +kernel)) ggX6_release_X6_pullAt
theorem dX6_release_0 : decode cX6_release 0 = .ok (.aload_n 0, 1) := by decide +kernel
theorem dX6_release_1 : decode cX6_release 1 = .ok (.aload_n 0, 1) := by decide +kernel
theorem dX6_release_2 : decode cX6_release 2 = .ok (.getfield 69, 3) := by decide +kernel
theorem dX6_release_5 : decode cX6_release 5 = .ok (.bipush 12, 2) := by decide +kernel
theorem dX6_release_7 : decode cX6_release 7 = .ok (.if_icmp .ne 7, 3) := by decide +kernel
theorem dX6_release_10 : decode cX6_release 10 = .ok (.iconst 1, 1) := by decide +kernel
theorem dX6_release_11 : decode cX6_release 11 = .ok (.goto 4, 3) := by decide +kernel
theorem dX6_release_14 : decode cX6_release 14 = .ok (.iconst 0, 1) := by decide +kernel
theorem dX6_release_15 : decode cX6_release 15 = .ok (.invokevirtual 80, 3) := by decide +kernel
theorem dX6_release_18 : decode cX6_release 18 = .ok (.ifCond .ne 5, 3) := by decide +kernel
theorem dX6_release_21 : decode cX6_release 21 = .ok (.iconst 0, 1) := by decide +kernel
theorem dX6_release_22 : decode cX6_release 22 = .ok (.ireturn, 1) := by decide +kernel
theorem dX6_release_23 : decode cX6_release 23 = .ok (.iconst 0, 1) := by decide +kernel
theorem dX6_release_24 : decode cX6_release 24 = .ok (.istore_n 1, 1) := by decide +kernel
theorem dX6_release_25 : decode cX6_release 25 = .ok (.iload_n 1, 1) := by decide +kernel
theorem dX6_release_26 : decode cX6_release 26 = .ok (.bipush 64, 2) := by decide +kernel
theorem dX6_release_28 : decode cX6_release 28 = .ok (.if_icmp .ge 35, 3) := by decide +kernel
theorem dX6_release_31 : decode cX6_release 31 = .ok (.aload_n 0, 1) := by decide +kernel
theorem dX6_release_32 : decode cX6_release 32 = .ok (.getfield 45, 3) := by decide +kernel
theorem dX6_release_35 : decode cX6_release 35 = .ok (.bipush 64, 2) := by decide +kernel
theorem dX6_release_37 : decode cX6_release 37 = .ok (.aload_n 0, 1) := by decide +kernel
theorem dX6_release_38 : decode cX6_release 38 = .ok (.getfield 69, 3) := by decide +kernel
theorem dX6_release_41 : decode cX6_release 41 = .ok (.imul, 1) := by decide +kernel
theorem dX6_release_42 : decode cX6_release 42 = .ok (.iload_n 1, 1) := by decide +kernel
theorem dX6_release_43 : decode cX6_release 43 = .ok (.iadd, 1) := by decide +kernel
theorem dX6_release_44 : decode cX6_release 44 = .ok (.aload_n 0, 1) := by decide +kernel
theorem dX6_release_45 : decode cX6_release 45 = .ok (.iload_n 1, 1) := by decide +kernel
theorem dX6_release_46 : decode cX6_release 46 = .ok (.bipush 8, 2) := by decide +kernel
theorem dX6_release_48 : decode cX6_release 48 = .ok (.irem, 1) := by decide +kernel
theorem dX6_release_49 : decode cX6_release 49 = .ok (.iload_n 1, 1) := by decide +kernel
theorem dX6_release_50 : decode cX6_release 50 = .ok (.bipush 8, 2) := by decide +kernel
theorem dX6_release_52 : decode cX6_release 52 = .ok (.idiv, 1) := by decide +kernel
theorem dX6_release_53 : decode cX6_release 53 = .ok (.invokevirtual 92, 3) := by decide +kernel
theorem dX6_release_56 : decode cX6_release 56 = .ok (.lastore, 1) := by decide +kernel
theorem dX6_release_57 : decode cX6_release 57 = .ok (.iinc 1 1, 3) := by decide +kernel
theorem dX6_release_60 : decode cX6_release 60 = .ok (.goto (-35), 3) := by decide +kernel
theorem dX6_release_63 : decode cX6_release 63 = .ok (.aload_n 0, 1) := by decide +kernel
theorem dX6_release_64 : decode cX6_release 64 = .ok (.getfield 48, 3) := by decide +kernel
theorem dX6_release_67 : decode cX6_release 67 = .ok (.aload_n 0, 1) := by decide +kernel
theorem dX6_release_68 : decode cX6_release 68 = .ok (.getfield 69, 3) := by decide +kernel
theorem dX6_release_71 : decode cX6_release 71 = .ok (.aload_n 0, 1) := by decide +kernel
theorem dX6_release_72 : decode cX6_release 72 = .ok (.getfield 51, 3) := by decide +kernel
theorem dX6_release_75 : decode cX6_release 75 = .ok (.iastore, 1) := by decide +kernel
theorem dX6_release_76 : decode cX6_release 76 = .ok (.aload_n 0, 1) := by decide +kernel
theorem dX6_release_77 : decode cX6_release 77 = .ok (.dup, 1) := by decide +kernel
theorem dX6_release_78 : decode cX6_release 78 = .ok (.getfield 69, 3) := by decide +kernel
theorem dX6_release_81 : decode cX6_release 81 = .ok (.iconst 1, 1) := by decide +kernel
theorem dX6_release_82 : decode cX6_release 82 = .ok (.iadd, 1) := by decide +kernel
theorem dX6_release_83 : decode cX6_release 83 = .ok (.putfield 69, 3) := by decide +kernel
theorem dX6_release_86 : decode cX6_release 86 = .ok (.aload_n 0, 1) := by decide +kernel
theorem dX6_release_87 : decode cX6_release 87 = .ok (.getfield 69, 3) := by decide +kernel
theorem dX6_release_90 : decode cX6_release 90 = .ok (.iconst 1, 1) := by decide +kernel
theorem dX6_release_91 : decode cX6_release 91 = .ok (.isub, 1) := by decide +kernel
theorem dX6_release_92 : decode cX6_release 92 = .ok (.ireturn, 1) := by decide +kernel
theorem dX6_down_0 : decode cX6_down 0 = .ok (.lload_n 0, 1) := by decide +kernel
theorem dX6_down_1 : decode cX6_down 1 = .ok (.lload_n 2, 1) := by decide +kernel
theorem dX6_down_2 : decode cX6_down 2 = .ok (.ldiv, 1) := by decide +kernel
theorem dX6_down_3 : decode cX6_down 3 = .ok (.lstore 4, 2) := by decide +kernel
theorem dX6_down_5 : decode cX6_down 5 = .ok (.lload_n 0, 1) := by decide +kernel
theorem dX6_down_6 : decode cX6_down 6 = .ok (.lload_n 2, 1) := by decide +kernel
theorem dX6_down_7 : decode cX6_down 7 = .ok (.lrem, 1) := by decide +kernel
theorem dX6_down_8 : decode cX6_down 8 = .ok (.lconst 0, 1) := by decide +kernel
theorem dX6_down_9 : decode cX6_down 9 = .ok (.lcmp, 1) := by decide +kernel
theorem dX6_down_10 : decode cX6_down 10 = .ok (.ifCond .ge 10, 3) := by decide +kernel
theorem dX6_down_13 : decode cX6_down 13 = .ok (.lload 4, 2) := by decide +kernel
theorem dX6_down_15 : decode cX6_down 15 = .ok (.lconst 1, 1) := by decide +kernel
theorem dX6_down_16 : decode cX6_down 16 = .ok (.lsub, 1) := by decide +kernel
theorem dX6_down_17 : decode cX6_down 17 = .ok (.goto 5, 3) := by decide +kernel
theorem dX6_down_20 : decode cX6_down 20 = .ok (.lload 4, 2) := by decide +kernel
theorem dX6_down_22 : decode cX6_down 22 = .ok (.lreturn, 1) := by decide +kernel
set_option maxRecDepth 20000 in
theorem ggX6_trend_X6_isRelease : GoodIn wsX6_trend wsX6_isRelease := goodIn_r _ [7, 8, 9, 10, 6, 11, 24, 25, 26, 27, 28, 29, 30, 31, 32, 33, 34, 35, 36, 37, 38, 39, 40, 41, 42, 43] (by decide +kernel) (by decide +kernel)
set_option maxRecDepth 20000 in
theorem gX6_trend_X6_isRelease : GoodIn wsX6_trend (wsV RX6 146 RX6 yX6_isRelease wsX6_isRelease) := goodIn_app (goodIn_of _ (by decide +kernel)) ggX6_trend_X6_isRelease
set_option maxRecDepth 20000 in
theorem ggX6_trend_X6_isCell : GoodIn wsX6_trend wsX6_isCell := goodIn_r _ [14, 15, 9, 10, 6, 11] (by decide +kernel) (by decide +kernel)
set_option maxRecDepth 20000 in
theorem gX6_trend_X6_isCell : GoodIn wsX6_trend (va_wsS RX6 72 yX6_isCell wsX6_isCell) := goodIn_app (goodIn_of _ (by decide +kernel)) ggX6_trend_X6_isCell
set_option maxRecDepth 20000 in
theorem ggX6_trend_X6_holds : GoodIn wsX6_trend wsX6_holds := goodIn_r _ [19, 20, 24, 25, 26, 27, 28, 29, 30, 31, 32, 33, 34, 35, 36, 37, 38, 39, 40, 41, 42, 43] (by decide +kernel) (by decide +kernel)
set_option maxRecDepth 20000 in
theorem gX6_trend_X6_holds : GoodIn wsX6_trend (wsV RX6 80 RX6 yX6_holds wsX6_holds) := goodIn_app (goodIn_of _ (by decide +kernel)) ggX6_trend_X6_holds
set_option maxRecDepth 20000 in
theorem ggX6_trend_X6_down : GoodIn wsX6_trend wsX6_down := goodIn_r _ [23] (by decide +kernel) (by decide +kernel)
set_option maxRecDepth 20000 in
theorem gX6_trend_X6_down : GoodIn wsX6_trend (va_wsS RX6 149 yX6_down wsX6_down) := goodIn_app (goodIn_of _ (by decide +kernel)) ggX6_trend_X6_down
theorem dX6_trend_0 : decode cX6_trend 0 = .ok (.aload_n 0, 1) := by decide +kernel
theorem dX6_trend_1 : decode cX6_trend 1 = .ok (.iload_n 1, 1) := by decide +kernel
theorem dX6_trend_2 : decode cX6_trend 2 = .ok (.invokevirtual 146, 3) := by decide +kernel
theorem dX6_trend_5 : decode cX6_trend 5 = .ok (.ifCond .eq 24, 3) := by decide +kernel
theorem dX6_trend_8 : decode cX6_trend 8 = .ok (.aload_n 0, 1) := by decide +kernel
theorem dX6_trend_9 : decode cX6_trend 9 = .ok (.iload_n 2, 1) := by decide +kernel
theorem dX6_trend_10 : decode cX6_trend 10 = .ok (.invokevirtual 146, 3) := by decide +kernel
theorem dX6_trend_13 : decode cX6_trend 13 = .ok (.ifCond .eq 16, 3) := by decide +kernel
theorem dX6_trend_16 : decode cX6_trend 16 = .ok (.iload_n 3, 1) := by decide +kernel
theorem dX6_trend_17 : decode cX6_trend 17 = .ok (.iload 4, 2) := by decide +kernel
theorem dX6_trend_19 : decode cX6_trend 19 = .ok (.invokestatic 72, 3) := by decide +kernel
theorem dX6_trend_22 : decode cX6_trend 22 = .ok (.ifCond .eq 7, 3) := by decide +kernel
theorem dX6_trend_25 : decode cX6_trend 25 = .ok (.iconst 1, 1) := by decide +kernel
theorem dX6_trend_26 : decode cX6_trend 26 = .ok (.goto 4, 3) := by decide +kernel
theorem dX6_trend_29 : decode cX6_trend 29 = .ok (.iconst 0, 1) := by decide +kernel
theorem dX6_trend_30 : decode cX6_trend 30 = .ok (.istore 5, 2) := by decide +kernel
theorem dX6_trend_32 : decode cX6_trend 32 = .ok (.aload_n 0, 1) := by decide +kernel
theorem dX6_trend_33 : decode cX6_trend 33 = .ok (.iload 5, 2) := by decide +kernel
theorem dX6_trend_35 : decode cX6_trend 35 = .ok (.ifCond .ne 7, 3) := by decide +kernel
theorem dX6_trend_38 : decode cX6_trend 38 = .ok (.iconst 1, 1) := by decide +kernel
theorem dX6_trend_39 : decode cX6_trend 39 = .ok (.goto 23, 3) := by decide +kernel
theorem dX6_trend_42 : decode cX6_trend 42 = .ok (.aload_n 0, 1) := by decide +kernel
theorem dX6_trend_43 : decode cX6_trend 43 = .ok (.getfield 48, 3) := by decide +kernel
theorem dX6_trend_46 : decode cX6_trend 46 = .ok (.iload_n 1, 1) := by decide +kernel
theorem dX6_trend_47 : decode cX6_trend 47 = .ok (.iaload, 1) := by decide +kernel
theorem dX6_trend_48 : decode cX6_trend 48 = .ok (.aload_n 0, 1) := by decide +kernel
theorem dX6_trend_49 : decode cX6_trend 49 = .ok (.getfield 48, 3) := by decide +kernel
theorem dX6_trend_52 : decode cX6_trend 52 = .ok (.iload_n 2, 1) := by decide +kernel
theorem dX6_trend_53 : decode cX6_trend 53 = .ok (.iaload, 1) := by decide +kernel
theorem dX6_trend_54 : decode cX6_trend 54 = .ok (.if_icmp .ne 7, 3) := by decide +kernel
theorem dX6_trend_57 : decode cX6_trend 57 = .ok (.iconst 2, 1) := by decide +kernel
theorem dX6_trend_58 : decode cX6_trend 58 = .ok (.goto 4, 3) := by decide +kernel
theorem dX6_trend_61 : decode cX6_trend 61 = .ok (.iconst 0, 1) := by decide +kernel
theorem dX6_trend_62 : decode cX6_trend 62 = .ok (.invokevirtual 80, 3) := by decide +kernel
theorem dX6_trend_65 : decode cX6_trend 65 = .ok (.ifCond .ne 5, 3) := by decide +kernel
theorem dX6_trend_68 : decode cX6_trend 68 = .ok (.lconst 0, 1) := by decide +kernel
theorem dX6_trend_69 : decode cX6_trend 69 = .ok (.lreturn, 1) := by decide +kernel
theorem dX6_trend_70 : decode cX6_trend 70 = .ok (.aload_n 0, 1) := by decide +kernel
theorem dX6_trend_71 : decode cX6_trend 71 = .ok (.getfield 48, 3) := by decide +kernel
theorem dX6_trend_74 : decode cX6_trend 74 = .ok (.iload_n 1, 1) := by decide +kernel
theorem dX6_trend_75 : decode cX6_trend 75 = .ok (.iaload, 1) := by decide +kernel
theorem dX6_trend_76 : decode cX6_trend 76 = .ok (.aload_n 0, 1) := by decide +kernel
theorem dX6_trend_77 : decode cX6_trend 77 = .ok (.getfield 48, 3) := by decide +kernel
theorem dX6_trend_80 : decode cX6_trend 80 = .ok (.iload_n 2, 1) := by decide +kernel
theorem dX6_trend_81 : decode cX6_trend 81 = .ok (.iaload, 1) := by decide +kernel
theorem dX6_trend_82 : decode cX6_trend 82 = .ok (.if_icmp .le 7, 3) := by decide +kernel
theorem dX6_trend_85 : decode cX6_trend 85 = .ok (.iload_n 1, 1) := by decide +kernel
theorem dX6_trend_86 : decode cX6_trend 86 = .ok (.goto 4, 3) := by decide +kernel
theorem dX6_trend_89 : decode cX6_trend 89 = .ok (.iload_n 2, 1) := by decide +kernel
theorem dX6_trend_90 : decode cX6_trend 90 = .ok (.istore 6, 2) := by decide +kernel
theorem dX6_trend_92 : decode cX6_trend 92 = .ok (.iload 6, 2) := by decide +kernel
theorem dX6_trend_94 : decode cX6_trend 94 = .ok (.iload_n 1, 1) := by decide +kernel
theorem dX6_trend_95 : decode cX6_trend 95 = .ok (.if_icmp .ne 7, 3) := by decide +kernel
theorem dX6_trend_98 : decode cX6_trend 98 = .ok (.iload_n 2, 1) := by decide +kernel
theorem dX6_trend_99 : decode cX6_trend 99 = .ok (.goto 4, 3) := by decide +kernel
theorem dX6_trend_102 : decode cX6_trend 102 = .ok (.iload_n 1, 1) := by decide +kernel
theorem dX6_trend_103 : decode cX6_trend 103 = .ok (.istore 7, 2) := by decide +kernel
theorem dX6_trend_105 : decode cX6_trend 105 = .ok (.bipush 8, 2) := by decide +kernel
theorem dX6_trend_107 : decode cX6_trend 107 = .ok (.iload 4, 2) := by decide +kernel
theorem dX6_trend_109 : decode cX6_trend 109 = .ok (.imul, 1) := by decide +kernel
theorem dX6_trend_110 : decode cX6_trend 110 = .ok (.iload_n 3, 1) := by decide +kernel
theorem dX6_trend_111 : decode cX6_trend 111 = .ok (.iadd, 1) := by decide +kernel
theorem dX6_trend_112 : decode cX6_trend 112 = .ok (.istore 8, 2) := by decide +kernel
theorem dX6_trend_114 : decode cX6_trend 114 = .ok (.aload_n 0, 1) := by decide +kernel
theorem dX6_trend_115 : decode cX6_trend 115 = .ok (.getfield 45, 3) := by decide +kernel
theorem dX6_trend_118 : decode cX6_trend 118 = .ok (.bipush 64, 2) := by decide +kernel
theorem dX6_trend_120 : decode cX6_trend 120 = .ok (.iload 6, 2) := by decide +kernel
theorem dX6_trend_122 : decode cX6_trend 122 = .ok (.imul, 1) := by decide +kernel
theorem dX6_trend_123 : decode cX6_trend 123 = .ok (.iload 8, 2) := by decide +kernel
theorem dX6_trend_125 : decode cX6_trend 125 = .ok (.iadd, 1) := by decide +kernel
theorem dX6_trend_126 : decode cX6_trend 126 = .ok (.laload, 1) := by decide +kernel
theorem dX6_trend_127 : decode cX6_trend 127 = .ok (.aload_n 0, 1) := by decide +kernel
theorem dX6_trend_128 : decode cX6_trend 128 = .ok (.getfield 45, 3) := by decide +kernel
theorem dX6_trend_131 : decode cX6_trend 131 = .ok (.bipush 64, 2) := by decide +kernel
theorem dX6_trend_133 : decode cX6_trend 133 = .ok (.iload 7, 2) := by decide +kernel
theorem dX6_trend_135 : decode cX6_trend 135 = .ok (.imul, 1) := by decide +kernel
theorem dX6_trend_136 : decode cX6_trend 136 = .ok (.iload 8, 2) := by decide +kernel
theorem dX6_trend_138 : decode cX6_trend 138 = .ok (.iadd, 1) := by decide +kernel
theorem dX6_trend_139 : decode cX6_trend 139 = .ok (.laload, 1) := by decide +kernel
theorem dX6_trend_140 : decode cX6_trend 140 = .ok (.lsub, 1) := by decide +kernel
theorem dX6_trend_141 : decode cX6_trend 141 = .ok (.aload_n 0, 1) := by decide +kernel
theorem dX6_trend_142 : decode cX6_trend 142 = .ok (.getfield 48, 3) := by decide +kernel
theorem dX6_trend_145 : decode cX6_trend 145 = .ok (.iload 6, 2) := by decide +kernel
theorem dX6_trend_147 : decode cX6_trend 147 = .ok (.iaload, 1) := by decide +kernel
theorem dX6_trend_148 : decode cX6_trend 148 = .ok (.aload_n 0, 1) := by decide +kernel
theorem dX6_trend_149 : decode cX6_trend 149 = .ok (.getfield 48, 3) := by decide +kernel
theorem dX6_trend_152 : decode cX6_trend 152 = .ok (.iload 7, 2) := by decide +kernel
theorem dX6_trend_154 : decode cX6_trend 154 = .ok (.iaload, 1) := by decide +kernel
theorem dX6_trend_155 : decode cX6_trend 155 = .ok (.isub, 1) := by decide +kernel
theorem dX6_trend_156 : decode cX6_trend 156 = .ok (.i2l, 1) := by decide +kernel
theorem dX6_trend_157 : decode cX6_trend 157 = .ok (.invokestatic 149, 3) := by decide +kernel
theorem dX6_trend_160 : decode cX6_trend 160 = .ok (.lreturn, 1) := by decide +kernel
theorem dJ9_floorDiv_f86c9_0 : decode cJ9_floorDiv_f86c9 0 = .ok (.lload_n 0, 1) := by decide +kernel
theorem dJ9_floorDiv_f86c9_1 : decode cJ9_floorDiv_f86c9 1 = .ok (.lload_n 2, 1) := by decide +kernel
theorem dJ9_floorDiv_f86c9_2 : decode cJ9_floorDiv_f86c9 2 = .ok (.ldiv, 1) := by decide +kernel
theorem dJ9_floorDiv_f86c9_3 : decode cJ9_floorDiv_f86c9 3 = .ok (.lstore 4, 2) := by decide +kernel
theorem dJ9_floorDiv_f86c9_5 : decode cJ9_floorDiv_f86c9 5 = .ok (.lload_n 0, 1) := by decide +kernel
theorem dJ9_floorDiv_f86c9_6 : decode cJ9_floorDiv_f86c9 6 = .ok (.lload_n 2, 1) := by decide +kernel
theorem dJ9_floorDiv_f86c9_7 : decode cJ9_floorDiv_f86c9 7 = .ok (.lxor, 1) := by decide +kernel
theorem dJ9_floorDiv_f86c9_8 : decode cJ9_floorDiv_f86c9 8 = .ok (.lconst 0, 1) := by decide +kernel
theorem dJ9_floorDiv_f86c9_9 : decode cJ9_floorDiv_f86c9 9 = .ok (.lcmp, 1) := by decide +kernel
theorem dJ9_floorDiv_f86c9_10 : decode cJ9_floorDiv_f86c9 10 = .ok (.ifCond .ge 17, 3) := by decide +kernel
theorem dJ9_floorDiv_f86c9_13 : decode cJ9_floorDiv_f86c9 13 = .ok (.lload 4, 2) := by decide +kernel
theorem dJ9_floorDiv_f86c9_15 : decode cJ9_floorDiv_f86c9 15 = .ok (.lload_n 2, 1) := by decide +kernel
theorem dJ9_floorDiv_f86c9_16 : decode cJ9_floorDiv_f86c9 16 = .ok (.lmul, 1) := by decide +kernel
theorem dJ9_floorDiv_f86c9_17 : decode cJ9_floorDiv_f86c9 17 = .ok (.lload_n 0, 1) := by decide +kernel
theorem dJ9_floorDiv_f86c9_18 : decode cJ9_floorDiv_f86c9 18 = .ok (.lcmp, 1) := by decide +kernel
theorem dJ9_floorDiv_f86c9_19 : decode cJ9_floorDiv_f86c9 19 = .ok (.ifCond .eq 8, 3) := by decide +kernel
theorem dJ9_floorDiv_f86c9_22 : decode cJ9_floorDiv_f86c9 22 = .ok (.lload 4, 2) := by decide +kernel
theorem dJ9_floorDiv_f86c9_24 : decode cJ9_floorDiv_f86c9 24 = .ok (.lconst 1, 1) := by decide +kernel
theorem dJ9_floorDiv_f86c9_25 : decode cJ9_floorDiv_f86c9 25 = .ok (.lsub, 1) := by decide +kernel
theorem dJ9_floorDiv_f86c9_26 : decode cJ9_floorDiv_f86c9 26 = .ok (.lreturn, 1) := by decide +kernel
theorem dJ9_floorDiv_f86c9_27 : decode cJ9_floorDiv_f86c9 27 = .ok (.lload 4, 2) := by decide +kernel
theorem dJ9_floorDiv_f86c9_29 : decode cJ9_floorDiv_f86c9 29 = .ok (.lreturn, 1) := by decide +kernel
theorem dJ9_abs_0f7a4_0 : decode cJ9_abs_0f7a4 0 = .ok (.iload_n 0, 1) := by decide +kernel
theorem dJ9_abs_0f7a4_1 : decode cJ9_abs_0f7a4 1 = .ok (.ifCond .ge 8, 3) := by decide +kernel
theorem dJ9_abs_0f7a4_4 : decode cJ9_abs_0f7a4 4 = .ok (.iload_n 0, 1) := by decide +kernel
theorem dJ9_abs_0f7a4_5 : decode cJ9_abs_0f7a4 5 = .ok (.ineg, 1) := by decide +kernel
theorem dJ9_abs_0f7a4_6 : decode cJ9_abs_0f7a4 6 = .ok (.goto 4, 3) := by decide +kernel
theorem dJ9_abs_0f7a4_9 : decode cJ9_abs_0f7a4 9 = .ok (.iload_n 0, 1) := by decide +kernel
theorem dJ9_abs_0f7a4_10 : decode cJ9_abs_0f7a4 10 = .ok (.ireturn, 1) := by decide +kernel
set_option maxRecDepth 20000 in
theorem ggL_mass_X5_mass : GoodIn wsL_mass wsX5_mass := goodIn_ca (goodIn_ca (goodIn_r _ [7, 8, 9, 10, 11, 6, 12, 13, 14, 15, 16, 17, 18, 19, 20, 21, 22, 23, 24, 25, 26, 27, 28, 29, 30, 31, 32, 33, 34, 35, 36, 37, 38, 39, 40, 41, 42, 43, 44, 45, 46, 47, 48, 49, 50] (by decide +kernel) (by decide +kernel)) (goodIn_sub (fun _ h => List.mem_cons_of_mem _ (List.mem_append_left _ (List.mem_append_right _ h))) (by decide +kernel))) (goodIn_sub (fun _ h => List.mem_cons_of_mem _ (List.mem_append_right _ h)) (by decide +kernel))
set_option maxRecDepth 20000 in
theorem gL_mass_X5_mass : GoodIn wsL_mass (wsV RL 7 RX5 yX5_mass wsX5_mass) := goodIn_app (goodIn_of _ (by decide +kernel)) ggL_mass_X5_mass
theorem dL_mass_0 : decode cL_mass 0 = .ok (.aload 6, 2) := by decide +kernel
theorem dL_mass_2 : decode cL_mass 2 = .ok (.iconst 0, 1) := by decide +kernel
theorem dL_mass_3 : decode cL_mass 3 = .ok (.aload_n 0, 1) := by decide +kernel
theorem dL_mass_4 : decode cL_mass 4 = .ok (.iload_n 1, 1) := by decide +kernel
theorem dL_mass_5 : decode cL_mass 5 = .ok (.iload_n 2, 1) := by decide +kernel
theorem dL_mass_6 : decode cL_mass 6 = .ok (.iload_n 3, 1) := by decide +kernel
theorem dL_mass_7 : decode cL_mass 7 = .ok (.lload 4, 2) := by decide +kernel
theorem dL_mass_9 : decode cL_mass 9 = .ok (.invokevirtual 7, 3) := by decide +kernel
theorem dL_mass_12 : decode cL_mass 12 = .ok (.lastore, 1) := by decide +kernel
theorem dL_mass_13 : decode cL_mass 13 = .ok (.goto 11, 3) := by decide +kernel
theorem dL_mass_16 : decode cL_mass 16 = .ok (.astore 7, 2) := by decide +kernel
theorem dL_mass_18 : decode cL_mass 18 = .ok (.iconst 1, 1) := by decide +kernel
theorem dL_mass_19 : decode cL_mass 19 = .ok (.ireturn, 1) := by decide +kernel
theorem dL_mass_20 : decode cL_mass 20 = .ok (.astore 7, 2) := by decide +kernel
theorem dL_mass_22 : decode cL_mass 22 = .ok (.iconst 2, 1) := by decide +kernel
theorem dL_mass_23 : decode cL_mass 23 = .ok (.ireturn, 1) := by decide +kernel
theorem dL_mass_24 : decode cL_mass 24 = .ok (.iconst 0, 1) := by decide +kernel
theorem dL_mass_25 : decode cL_mass 25 = .ok (.ireturn, 1) := by decide +kernel
set_option maxRecDepth 20000 in
theorem ggL_water_X5_water : GoodIn wsL_water wsX5_water := goodIn_ca (goodIn_ca (goodIn_r _ [7, 8, 9, 10, 11, 6, 12, 13, 14, 15, 16, 17, 18, 19, 20, 21, 22, 23, 24, 25, 26, 27, 28, 29, 30, 31, 32, 33, 34, 35, 36, 37, 38, 39, 40, 41, 42, 43, 44, 45, 46, 47] (by decide +kernel) (by decide +kernel)) (goodIn_sub (fun _ h => List.mem_cons_of_mem _ (List.mem_append_left _ (List.mem_append_right _ h))) (by decide +kernel))) (goodIn_sub (fun _ h => List.mem_cons_of_mem _ (List.mem_append_right _ h)) (by decide +kernel))
set_option maxRecDepth 20000 in
theorem gL_water_X5_water : GoodIn wsL_water (wsV RL 17 RX5 yX5_water wsX5_water) := goodIn_app (goodIn_of _ (by decide +kernel)) ggL_water_X5_water
theorem dL_water_0 : decode cL_water 0 = .ok (.aload 5, 2) := by decide +kernel
theorem dL_water_2 : decode cL_water 2 = .ok (.iconst 0, 1) := by decide +kernel
theorem dL_water_3 : decode cL_water 3 = .ok (.aload_n 0, 1) := by decide +kernel
theorem dL_water_4 : decode cL_water 4 = .ok (.iload_n 1, 1) := by decide +kernel
theorem dL_water_5 : decode cL_water 5 = .ok (.iload_n 2, 1) := by decide +kernel
theorem dL_water_6 : decode cL_water 6 = .ok (.lload_n 3, 1) := by decide +kernel
theorem dL_water_7 : decode cL_water 7 = .ok (.invokevirtual 17, 3) := by decide +kernel
theorem dL_water_10 : decode cL_water 10 = .ok (.lastore, 1) := by decide +kernel
theorem dL_water_11 : decode cL_water 11 = .ok (.goto 11, 3) := by decide +kernel
theorem dL_water_14 : decode cL_water 14 = .ok (.astore 6, 2) := by decide +kernel
theorem dL_water_16 : decode cL_water 16 = .ok (.iconst 1, 1) := by decide +kernel
theorem dL_water_17 : decode cL_water 17 = .ok (.ireturn, 1) := by decide +kernel
theorem dL_water_18 : decode cL_water 18 = .ok (.astore 6, 2) := by decide +kernel
theorem dL_water_20 : decode cL_water 20 = .ok (.iconst 2, 1) := by decide +kernel
theorem dL_water_21 : decode cL_water 21 = .ok (.ireturn, 1) := by decide +kernel
theorem dL_water_22 : decode cL_water 22 = .ok (.iconst 0, 1) := by decide +kernel
theorem dL_water_23 : decode cL_water 23 = .ok (.ireturn, 1) := by decide +kernel
set_option maxRecDepth 20000 in
theorem ggL_pull_X5_pull : GoodIn wsL_pull wsX5_pull := goodIn_ca (goodIn_r _ [6, 7, 8, 9, 5, 10, 11, 12, 13, 14, 15, 16, 17, 18, 19, 20, 21, 22, 23, 24, 25, 26, 27, 28] (by decide +kernel) (by decide +kernel)) (goodIn_sub (fun _ h => List.mem_cons_of_mem _ (List.mem_append_right _ h)) (by decide +kernel))
set_option maxRecDepth 20000 in
theorem gL_pull_X5_pull : GoodIn wsL_pull (wsV RL 21 RX5 yX5_pull wsX5_pull) := goodIn_app (goodIn_of _ (by decide +kernel)) ggL_pull_X5_pull
theorem dL_pull_0 : decode cL_pull 0 = .ok (.aload_n 3, 1) := by decide +kernel
theorem dL_pull_1 : decode cL_pull 1 = .ok (.iconst 0, 1) := by decide +kernel
theorem dL_pull_2 : decode cL_pull 2 = .ok (.aload_n 0, 1) := by decide +kernel
theorem dL_pull_3 : decode cL_pull 3 = .ok (.iload_n 1, 1) := by decide +kernel
theorem dL_pull_4 : decode cL_pull 4 = .ok (.iload_n 2, 1) := by decide +kernel
theorem dL_pull_5 : decode cL_pull 5 = .ok (.invokevirtual 21, 3) := by decide +kernel
theorem dL_pull_8 : decode cL_pull 8 = .ok (.lastore, 1) := by decide +kernel
theorem dL_pull_9 : decode cL_pull 9 = .ok (.goto 7, 3) := by decide +kernel
theorem dL_pull_12 : decode cL_pull 12 = .ok (.astore 4, 2) := by decide +kernel
theorem dL_pull_14 : decode cL_pull 14 = .ok (.iconst 1, 1) := by decide +kernel
theorem dL_pull_15 : decode cL_pull 15 = .ok (.ireturn, 1) := by decide +kernel
theorem dL_pull_16 : decode cL_pull 16 = .ok (.iconst 0, 1) := by decide +kernel
theorem dL_pull_17 : decode cL_pull 17 = .ok (.ireturn, 1) := by decide +kernel
set_option maxRecDepth 20000 in
theorem ggL_pullAnew_X5_pullAnew : GoodIn wsL_pullAnew wsX5_pullAnew := goodIn_ca (goodIn_r _ [6, 7, 8, 9, 5, 10, 11, 12, 13, 14, 15, 16, 17, 18, 19, 20, 21, 22, 23, 24, 25, 26, 27, 28, 29, 30, 31, 32, 33, 34, 35, 36] (by decide +kernel) (by decide +kernel)) (goodIn_sub (fun _ h => List.mem_cons_of_mem _ (List.mem_append_right _ h)) (by decide +kernel))
set_option maxRecDepth 20000 in
theorem gL_pullAnew_X5_pullAnew : GoodIn wsL_pullAnew (wsV RL 25 RX5 yX5_pullAnew wsX5_pullAnew) := goodIn_app (goodIn_of _ (by decide +kernel)) ggL_pullAnew_X5_pullAnew
theorem dL_pullAnew_0 : decode cL_pullAnew 0 = .ok (.aload_n 3, 1) := by decide +kernel
theorem dL_pullAnew_1 : decode cL_pullAnew 1 = .ok (.iconst 0, 1) := by decide +kernel
theorem dL_pullAnew_2 : decode cL_pullAnew 2 = .ok (.aload_n 0, 1) := by decide +kernel
theorem dL_pullAnew_3 : decode cL_pullAnew 3 = .ok (.iload_n 1, 1) := by decide +kernel
theorem dL_pullAnew_4 : decode cL_pullAnew 4 = .ok (.iload_n 2, 1) := by decide +kernel
theorem dL_pullAnew_5 : decode cL_pullAnew 5 = .ok (.invokevirtual 25, 3) := by decide +kernel
theorem dL_pullAnew_8 : decode cL_pullAnew 8 = .ok (.lastore, 1) := by decide +kernel
theorem dL_pullAnew_9 : decode cL_pullAnew 9 = .ok (.goto 7, 3) := by decide +kernel
theorem dL_pullAnew_12 : decode cL_pullAnew 12 = .ok (.astore 4, 2) := by decide +kernel
theorem dL_pullAnew_14 : decode cL_pullAnew 14 = .ok (.iconst 1, 1) := by decide +kernel
theorem dL_pullAnew_15 : decode cL_pullAnew 15 = .ok (.ireturn, 1) := by decide +kernel
theorem dL_pullAnew_16 : decode cL_pullAnew 16 = .ok (.iconst 0, 1) := by decide +kernel
theorem dL_pullAnew_17 : decode cL_pullAnew 17 = .ok (.ireturn, 1) := by decide +kernel
set_option maxRecDepth 20000 in
theorem ggL_gap_X5_gap : GoodIn wsL_gap wsX5_gap := goodIn_ca (goodIn_r _ [6, 7, 8, 9, 5, 10, 11, 12, 13, 14, 15, 16, 17, 18, 19, 20, 21, 22, 23, 24, 25, 26, 27, 28, 29, 30, 31] (by decide +kernel) (by decide +kernel)) (goodIn_sub (fun _ h => List.mem_cons_of_mem _ (List.mem_append_right _ h)) (by decide +kernel))
set_option maxRecDepth 20000 in
theorem gL_gap_X5_gap : GoodIn wsL_gap (wsV RL 28 RX5 yX5_gap wsX5_gap) := goodIn_app (goodIn_of _ (by decide +kernel)) ggL_gap_X5_gap
theorem dL_gap_0 : decode cL_gap 0 = .ok (.aload_n 3, 1) := by decide +kernel
theorem dL_gap_1 : decode cL_gap 1 = .ok (.iconst 0, 1) := by decide +kernel
theorem dL_gap_2 : decode cL_gap 2 = .ok (.aload_n 0, 1) := by decide +kernel
theorem dL_gap_3 : decode cL_gap 3 = .ok (.iload_n 1, 1) := by decide +kernel
theorem dL_gap_4 : decode cL_gap 4 = .ok (.iload_n 2, 1) := by decide +kernel
theorem dL_gap_5 : decode cL_gap 5 = .ok (.invokevirtual 28, 3) := by decide +kernel
theorem dL_gap_8 : decode cL_gap 8 = .ok (.lastore, 1) := by decide +kernel
theorem dL_gap_9 : decode cL_gap 9 = .ok (.goto 7, 3) := by decide +kernel
theorem dL_gap_12 : decode cL_gap 12 = .ok (.astore 4, 2) := by decide +kernel
theorem dL_gap_14 : decode cL_gap 14 = .ok (.iconst 1, 1) := by decide +kernel
theorem dL_gap_15 : decode cL_gap 15 = .ok (.ireturn, 1) := by decide +kernel
theorem dL_gap_16 : decode cL_gap 16 = .ok (.iconst 0, 1) := by decide +kernel
theorem dL_gap_17 : decode cL_gap 17 = .ok (.ireturn, 1) := by decide +kernel
set_option maxRecDepth 20000 in
theorem ggL_tide_X5_tide : GoodIn wsL_tide wsX5_tide := goodIn_ca (goodIn_r _ [6, 7, 8, 9, 10, 11, 5, 12, 13, 14, 15, 16, 17, 18, 19, 20, 21, 22, 23, 24, 25, 26, 27, 28] (by decide +kernel) (by decide +kernel)) (goodIn_sub (fun _ h => List.mem_cons_of_mem _ (List.mem_append_right _ h)) (by decide +kernel))
set_option maxRecDepth 20000 in
theorem gL_tide_X5_tide : GoodIn wsL_tide (wsV RL 31 RX5 yX5_tide wsX5_tide) := goodIn_app (goodIn_of _ (by decide +kernel)) ggL_tide_X5_tide
theorem dL_tide_0 : decode cL_tide 0 = .ok (.aload_n 3, 1) := by decide +kernel
theorem dL_tide_1 : decode cL_tide 1 = .ok (.iconst 0, 1) := by decide +kernel
theorem dL_tide_2 : decode cL_tide 2 = .ok (.aload_n 0, 1) := by decide +kernel
theorem dL_tide_3 : decode cL_tide 3 = .ok (.iload_n 1, 1) := by decide +kernel
theorem dL_tide_4 : decode cL_tide 4 = .ok (.iload_n 2, 1) := by decide +kernel
theorem dL_tide_5 : decode cL_tide 5 = .ok (.invokevirtual 31, 3) := by decide +kernel
theorem dL_tide_8 : decode cL_tide 8 = .ok (.i2l, 1) := by decide +kernel
theorem dL_tide_9 : decode cL_tide 9 = .ok (.lastore, 1) := by decide +kernel
theorem dL_tide_10 : decode cL_tide 10 = .ok (.goto 7, 3) := by decide +kernel
theorem dL_tide_13 : decode cL_tide 13 = .ok (.astore 4, 2) := by decide +kernel
theorem dL_tide_15 : decode cL_tide 15 = .ok (.iconst 1, 1) := by decide +kernel
theorem dL_tide_16 : decode cL_tide 16 = .ok (.ireturn, 1) := by decide +kernel
theorem dL_tide_17 : decode cL_tide 17 = .ok (.iconst 0, 1) := by decide +kernel
theorem dL_tide_18 : decode cL_tide 18 = .ok (.ireturn, 1) := by decide +kernel
set_option maxRecDepth 20000 in
theorem ggL_pass_X5_pass : GoodIn wsL_pass wsX5_pass := goodIn_ca (goodIn_ca (goodIn_r _ [7, 8, 9, 10, 11, 12, 13, 6, 14, 15, 16, 17, 18, 19, 20, 21, 22] (by decide +kernel) (by decide +kernel)) (goodIn_sub (fun _ h => List.mem_cons_of_mem _ (List.mem_append_left _ (List.mem_append_right _ h))) (by decide +kernel))) (goodIn_sub (fun _ h => List.mem_cons_of_mem _ (List.mem_append_right _ h)) (by decide +kernel))
set_option maxRecDepth 20000 in
theorem gL_pass_X5_pass : GoodIn wsL_pass (wsV RL 35 RX5 yX5_pass wsX5_pass) := goodIn_app (goodIn_of _ (by decide +kernel)) ggL_pass_X5_pass
theorem dL_pass_0 : decode cL_pass 0 = .ok (.aload_n 2, 1) := by decide +kernel
theorem dL_pass_1 : decode cL_pass 1 = .ok (.iconst 0, 1) := by decide +kernel
theorem dL_pass_2 : decode cL_pass 2 = .ok (.aload_n 0, 1) := by decide +kernel
theorem dL_pass_3 : decode cL_pass 3 = .ok (.iload_n 1, 1) := by decide +kernel
theorem dL_pass_4 : decode cL_pass 4 = .ok (.invokevirtual 35, 3) := by decide +kernel
theorem dL_pass_7 : decode cL_pass 7 = .ok (.i2l, 1) := by decide +kernel
theorem dL_pass_8 : decode cL_pass 8 = .ok (.lastore, 1) := by decide +kernel
theorem dL_pass_9 : decode cL_pass 9 = .ok (.goto 9, 3) := by decide +kernel
theorem dL_pass_12 : decode cL_pass 12 = .ok (.astore_n 3, 1) := by decide +kernel
theorem dL_pass_13 : decode cL_pass 13 = .ok (.iconst 1, 1) := by decide +kernel
theorem dL_pass_14 : decode cL_pass 14 = .ok (.ireturn, 1) := by decide +kernel
theorem dL_pass_15 : decode cL_pass 15 = .ok (.astore_n 3, 1) := by decide +kernel
theorem dL_pass_16 : decode cL_pass 16 = .ok (.iconst 2, 1) := by decide +kernel
theorem dL_pass_17 : decode cL_pass 17 = .ok (.ireturn, 1) := by decide +kernel
theorem dL_pass_18 : decode cL_pass 18 = .ok (.iconst 0, 1) := by decide +kernel
theorem dL_pass_19 : decode cL_pass 19 = .ok (.ireturn, 1) := by decide +kernel
set_option maxRecDepth 20000 in
theorem ggL_needle_X5_needle : GoodIn wsL_needle wsX5_needle := goodIn_ca (goodIn_ca (goodIn_r _ [7, 8, 9, 10, 11, 12, 13, 6, 14, 15, 16, 17, 18, 19, 20, 21, 22, 23, 24, 25, 26, 27, 28, 29, 30, 31, 32, 33, 34, 35, 36, 37, 38, 39] (by decide +kernel) (by decide +kernel)) (goodIn_sub (fun _ h => List.mem_cons_of_mem _ (List.mem_append_left _ (List.mem_append_right _ h))) (by decide +kernel))) (goodIn_sub (fun _ h => List.mem_cons_of_mem _ (List.mem_append_right _ h)) (by decide +kernel))
set_option maxRecDepth 20000 in
theorem gL_needle_X5_needle : GoodIn wsL_needle (wsV RL 41 RX5 yX5_needle wsX5_needle) := goodIn_app (goodIn_of _ (by decide +kernel)) ggL_needle_X5_needle
theorem dL_needle_0 : decode cL_needle 0 = .ok (.aload_n 3, 1) := by decide +kernel
theorem dL_needle_1 : decode cL_needle 1 = .ok (.iconst 0, 1) := by decide +kernel
theorem dL_needle_2 : decode cL_needle 2 = .ok (.aload_n 0, 1) := by decide +kernel
theorem dL_needle_3 : decode cL_needle 3 = .ok (.iload_n 1, 1) := by decide +kernel
theorem dL_needle_4 : decode cL_needle 4 = .ok (.iload_n 2, 1) := by decide +kernel
theorem dL_needle_5 : decode cL_needle 5 = .ok (.invokevirtual 41, 3) := by decide +kernel
theorem dL_needle_8 : decode cL_needle 8 = .ok (.i2l, 1) := by decide +kernel
theorem dL_needle_9 : decode cL_needle 9 = .ok (.lastore, 1) := by decide +kernel
theorem dL_needle_10 : decode cL_needle 10 = .ok (.goto 11, 3) := by decide +kernel
theorem dL_needle_13 : decode cL_needle 13 = .ok (.astore 4, 2) := by decide +kernel
theorem dL_needle_15 : decode cL_needle 15 = .ok (.iconst 1, 1) := by decide +kernel
theorem dL_needle_16 : decode cL_needle 16 = .ok (.ireturn, 1) := by decide +kernel
theorem dL_needle_17 : decode cL_needle 17 = .ok (.astore 4, 2) := by decide +kernel
theorem dL_needle_19 : decode cL_needle 19 = .ok (.iconst 2, 1) := by decide +kernel
theorem dL_needle_20 : decode cL_needle 20 = .ok (.ireturn, 1) := by decide +kernel
theorem dL_needle_21 : decode cL_needle 21 = .ok (.iconst 0, 1) := by decide +kernel
theorem dL_needle_22 : decode cL_needle 22 = .ok (.ireturn, 1) := by decide +kernel
set_option maxRecDepth 20000 in
theorem ggL_tie_X5_tie : GoodIn wsL_tie wsX5_tie := goodIn_ca (goodIn_ca (goodIn_r _ [7, 8, 9, 10, 11, 12, 13, 6, 14, 15, 16, 17, 18, 19, 20, 21, 22, 23, 24, 25, 26, 27, 28, 29, 30, 31, 32, 33] (by decide +kernel) (by decide +kernel)) (goodIn_sub (fun _ h => List.mem_cons_of_mem _ (List.mem_append_left _ (List.mem_append_right _ h))) (by decide +kernel))) (goodIn_sub (fun _ h => List.mem_cons_of_mem _ (List.mem_append_right _ h)) (by decide +kernel))
set_option maxRecDepth 20000 in
theorem gL_tie_X5_tie : GoodIn wsL_tie (wsV RL 44 RX5 yX5_tie wsX5_tie) := goodIn_app (goodIn_of _ (by decide +kernel)) ggL_tie_X5_tie
theorem dL_tie_0 : decode cL_tie 0 = .ok (.aload_n 2, 1) := by decide +kernel
theorem dL_tie_1 : decode cL_tie 1 = .ok (.iconst 0, 1) := by decide +kernel
theorem dL_tie_2 : decode cL_tie 2 = .ok (.aload_n 0, 1) := by decide +kernel
theorem dL_tie_3 : decode cL_tie 3 = .ok (.iload_n 1, 1) := by decide +kernel
theorem dL_tie_4 : decode cL_tie 4 = .ok (.invokevirtual 44, 3) := by decide +kernel
theorem dL_tie_7 : decode cL_tie 7 = .ok (.lastore, 1) := by decide +kernel
theorem dL_tie_8 : decode cL_tie 8 = .ok (.goto 9, 3) := by decide +kernel
theorem dL_tie_11 : decode cL_tie 11 = .ok (.astore_n 3, 1) := by decide +kernel
theorem dL_tie_12 : decode cL_tie 12 = .ok (.iconst 1, 1) := by decide +kernel
theorem dL_tie_13 : decode cL_tie 13 = .ok (.ireturn, 1) := by decide +kernel
theorem dL_tie_14 : decode cL_tie 14 = .ok (.astore_n 3, 1) := by decide +kernel
theorem dL_tie_15 : decode cL_tie 15 = .ok (.iconst 2, 1) := by decide +kernel
theorem dL_tie_16 : decode cL_tie 16 = .ok (.ireturn, 1) := by decide +kernel
theorem dL_tie_17 : decode cL_tie 17 = .ok (.iconst 0, 1) := by decide +kernel
theorem dL_tie_18 : decode cL_tie 18 = .ok (.ireturn, 1) := by decide +kernel
set_option maxRecDepth 20000 in
theorem ggL_read_X5_read : GoodIn wsL_read wsX5_read := goodIn_ca (goodIn_r _ [6, 7, 8, 9, 10, 11, 12, 5, 13, 14, 15, 16, 17, 18, 19, 20, 21, 22, 23, 24, 25, 26, 27, 28, 29, 30, 31, 32, 33, 34, 35, 36, 37, 38, 39, 40, 41, 42, 43, 44, 45, 46, 47, 48, 49, 50, 51, 52, 53] (by decide +kernel) (by decide +kernel)) (goodIn_sub (fun _ h => List.mem_cons_of_mem _ (List.mem_append_right _ h)) (by decide +kernel))
set_option maxRecDepth 20000 in
theorem gL_read_X5_read : GoodIn wsL_read (wsV RL 48 RX5 yX5_read wsX5_read) := goodIn_app (goodIn_of _ (by decide +kernel)) ggL_read_X5_read
theorem dL_read_0 : decode cL_read 0 = .ok (.aload 4, 2) := by decide +kernel
theorem dL_read_2 : decode cL_read 2 = .ok (.iconst 0, 1) := by decide +kernel
theorem dL_read_3 : decode cL_read 3 = .ok (.aload_n 0, 1) := by decide +kernel
theorem dL_read_4 : decode cL_read 4 = .ok (.iload_n 1, 1) := by decide +kernel
theorem dL_read_5 : decode cL_read 5 = .ok (.iload_n 2, 1) := by decide +kernel
theorem dL_read_6 : decode cL_read 6 = .ok (.iload_n 3, 1) := by decide +kernel
theorem dL_read_7 : decode cL_read 7 = .ok (.invokevirtual 48, 3) := by decide +kernel
theorem dL_read_10 : decode cL_read 10 = .ok (.lastore, 1) := by decide +kernel
theorem dL_read_11 : decode cL_read 11 = .ok (.goto 7, 3) := by decide +kernel
theorem dL_read_14 : decode cL_read 14 = .ok (.astore 5, 2) := by decide +kernel
theorem dL_read_16 : decode cL_read 16 = .ok (.iconst 1, 1) := by decide +kernel
theorem dL_read_17 : decode cL_read 17 = .ok (.ireturn, 1) := by decide +kernel
theorem dL_read_18 : decode cL_read 18 = .ok (.iconst 0, 1) := by decide +kernel
theorem dL_read_19 : decode cL_read 19 = .ok (.ireturn, 1) := by decide +kernel
set_option maxRecDepth 20000 in
theorem ggL_benchmark_X5_benchmark : GoodIn wsL_benchmark wsX5_benchmark := goodIn_ca (goodIn_r _ [6, 7, 8, 9, 5, 10, 11, 12, 13, 14, 15, 16, 17, 18, 19, 20, 21, 22, 23, 24, 25, 26, 27, 28, 29, 30, 31, 32] (by decide +kernel) (by decide +kernel)) (goodIn_sub (fun _ h => List.mem_cons_of_mem _ (List.mem_append_right _ h)) (by decide +kernel))
set_option maxRecDepth 20000 in
theorem gL_benchmark_X5_benchmark : GoodIn wsL_benchmark (wsV RL 52 RX5 yX5_benchmark wsX5_benchmark) := goodIn_app (goodIn_of _ (by decide +kernel)) ggL_benchmark_X5_benchmark
theorem dL_benchmark_0 : decode cL_benchmark 0 = .ok (.aload_n 1, 1) := by decide +kernel
theorem dL_benchmark_1 : decode cL_benchmark 1 = .ok (.iconst 0, 1) := by decide +kernel
theorem dL_benchmark_2 : decode cL_benchmark 2 = .ok (.aload_n 0, 1) := by decide +kernel
theorem dL_benchmark_3 : decode cL_benchmark 3 = .ok (.invokevirtual 52, 3) := by decide +kernel
theorem dL_benchmark_6 : decode cL_benchmark 6 = .ok (.i2l, 1) := by decide +kernel
theorem dL_benchmark_7 : decode cL_benchmark 7 = .ok (.lastore, 1) := by decide +kernel
theorem dL_benchmark_8 : decode cL_benchmark 8 = .ok (.goto 6, 3) := by decide +kernel
theorem dL_benchmark_11 : decode cL_benchmark 11 = .ok (.astore_n 2, 1) := by decide +kernel
theorem dL_benchmark_12 : decode cL_benchmark 12 = .ok (.iconst 1, 1) := by decide +kernel
theorem dL_benchmark_13 : decode cL_benchmark 13 = .ok (.ireturn, 1) := by decide +kernel
theorem dL_benchmark_14 : decode cL_benchmark 14 = .ok (.iconst 0, 1) := by decide +kernel
theorem dL_benchmark_15 : decode cL_benchmark 15 = .ok (.ireturn, 1) := by decide +kernel
set_option maxRecDepth 20000 in
theorem ggL_line_X5_line : GoodIn wsL_line wsX5_line := goodIn_ca (goodIn_ca (goodIn_ca (goodIn_r _ [8, 9, 10, 11, 12, 13, 14, 15, 16, 7, 17, 18, 19, 20, 21, 22, 23, 24, 25, 26, 27, 28, 29, 30, 31, 32, 33, 34, 35, 36, 37, 38, 39, 40, 41, 42, 43, 44, 45, 46, 47, 48, 49, 50, 51] (by decide +kernel) (by decide +kernel)) (goodIn_sub (fun _ h => List.mem_cons_of_mem _ (List.mem_append_left _ (List.mem_append_left _ (List.mem_append_right _ h)))) (by decide +kernel))) (goodIn_sub (fun _ h => List.mem_cons_of_mem _ (List.mem_append_left _ (List.mem_append_right _ h))) (by decide +kernel))) (goodIn_sub (fun _ h => List.mem_cons_of_mem _ (List.mem_append_right _ h)) (by decide +kernel))
set_option maxRecDepth 20000 in
theorem gL_line_X5_line : GoodIn wsL_line (wsV RL 56 RX5 yX5_line wsX5_line) := goodIn_app (goodIn_of _ (by decide +kernel)) ggL_line_X5_line
theorem dL_line_0 : decode cL_line 0 = .ok (.aload 5, 2) := by decide +kernel
theorem dL_line_2 : decode cL_line 2 = .ok (.iconst 0, 1) := by decide +kernel
theorem dL_line_3 : decode cL_line 3 = .ok (.aload_n 0, 1) := by decide +kernel
theorem dL_line_4 : decode cL_line 4 = .ok (.iload_n 1, 1) := by decide +kernel
theorem dL_line_5 : decode cL_line 5 = .ok (.iload_n 2, 1) := by decide +kernel
theorem dL_line_6 : decode cL_line 6 = .ok (.iload_n 3, 1) := by decide +kernel
theorem dL_line_7 : decode cL_line 7 = .ok (.iload 4, 2) := by decide +kernel
theorem dL_line_9 : decode cL_line 9 = .ok (.invokevirtual 56, 3) := by decide +kernel
theorem dL_line_12 : decode cL_line 12 = .ok (.i2l, 1) := by decide +kernel
theorem dL_line_13 : decode cL_line 13 = .ok (.lastore, 1) := by decide +kernel
theorem dL_line_14 : decode cL_line 14 = .ok (.goto 15, 3) := by decide +kernel
theorem dL_line_17 : decode cL_line 17 = .ok (.astore 6, 2) := by decide +kernel
theorem dL_line_19 : decode cL_line 19 = .ok (.iconst 1, 1) := by decide +kernel
theorem dL_line_20 : decode cL_line 20 = .ok (.ireturn, 1) := by decide +kernel
theorem dL_line_21 : decode cL_line 21 = .ok (.astore 6, 2) := by decide +kernel
theorem dL_line_23 : decode cL_line 23 = .ok (.iconst 2, 1) := by decide +kernel
theorem dL_line_24 : decode cL_line 24 = .ok (.ireturn, 1) := by decide +kernel
theorem dL_line_25 : decode cL_line 25 = .ok (.astore 6, 2) := by decide +kernel
theorem dL_line_27 : decode cL_line 27 = .ok (.iconst 3, 1) := by decide +kernel
theorem dL_line_28 : decode cL_line 28 = .ok (.ireturn, 1) := by decide +kernel
theorem dL_line_29 : decode cL_line 29 = .ok (.iconst 0, 1) := by decide +kernel
theorem dL_line_30 : decode cL_line 30 = .ok (.ireturn, 1) := by decide +kernel
set_option maxRecDepth 20000 in
theorem ggL_height_X5_height : GoodIn wsL_height wsX5_height := goodIn_ca (goodIn_ca (goodIn_r _ [7, 8, 9, 10, 11, 12, 6, 13, 14, 15, 16, 17, 18, 19, 20, 21, 22, 23, 24, 25, 26, 27, 28, 29, 30, 31, 32, 33, 34, 35, 36, 37, 38, 39, 40, 41, 42, 43, 44, 45, 46, 47, 48, 49, 50, 51, 52, 53, 54, 55, 56, 57] (by decide +kernel) (by decide +kernel)) (goodIn_sub (fun _ h => List.mem_cons_of_mem _ (List.mem_append_left _ (List.mem_append_right _ h))) (by decide +kernel))) (goodIn_sub (fun _ h => List.mem_cons_of_mem _ (List.mem_append_right _ h)) (by decide +kernel))
set_option maxRecDepth 20000 in
theorem gL_height_X5_height : GoodIn wsL_height (wsV RL 60 RX5 yX5_height wsX5_height) := goodIn_app (goodIn_of _ (by decide +kernel)) ggL_height_X5_height
theorem dL_height_0 : decode cL_height 0 = .ok (.aload_n 2, 1) := by decide +kernel
theorem dL_height_1 : decode cL_height 1 = .ok (.iconst 0, 1) := by decide +kernel
theorem dL_height_2 : decode cL_height 2 = .ok (.aload_n 0, 1) := by decide +kernel
theorem dL_height_3 : decode cL_height 3 = .ok (.iload_n 1, 1) := by decide +kernel
theorem dL_height_4 : decode cL_height 4 = .ok (.invokevirtual 60, 3) := by decide +kernel
theorem dL_height_7 : decode cL_height 7 = .ok (.i2l, 1) := by decide +kernel
theorem dL_height_8 : decode cL_height 8 = .ok (.lastore, 1) := by decide +kernel
theorem dL_height_9 : decode cL_height 9 = .ok (.goto 9, 3) := by decide +kernel
theorem dL_height_12 : decode cL_height 12 = .ok (.astore_n 3, 1) := by decide +kernel
theorem dL_height_13 : decode cL_height 13 = .ok (.iconst 1, 1) := by decide +kernel
theorem dL_height_14 : decode cL_height 14 = .ok (.ireturn, 1) := by decide +kernel
theorem dL_height_15 : decode cL_height 15 = .ok (.astore_n 3, 1) := by decide +kernel
theorem dL_height_16 : decode cL_height 16 = .ok (.iconst 2, 1) := by decide +kernel
theorem dL_height_17 : decode cL_height 17 = .ok (.ireturn, 1) := by decide +kernel
theorem dL_height_18 : decode cL_height 18 = .ok (.iconst 0, 1) := by decide +kernel
theorem dL_height_19 : decode cL_height 19 = .ok (.ireturn, 1) := by decide +kernel
set_option maxRecDepth 20000 in
theorem ggL_doubt_X5_doubt : GoodIn wsL_doubt wsX5_doubt := goodIn_ca (goodIn_r _ [6, 7, 8, 9, 5, 10, 11, 12, 13, 14, 15, 16, 17, 18, 19, 20, 21, 22, 23, 24, 25, 26, 27, 28, 29, 30, 31, 32, 33, 34, 35, 36, 37, 38, 39, 40, 41, 42, 43, 44, 45, 46, 47, 48, 49, 50, 51, 52, 53, 54] (by decide +kernel) (by decide +kernel)) (goodIn_sub (fun _ h => List.mem_cons_of_mem _ (List.mem_append_right _ h)) (by decide +kernel))
set_option maxRecDepth 20000 in
theorem gL_doubt_X5_doubt : GoodIn wsL_doubt (wsV RL 63 RX5 yX5_doubt wsX5_doubt) := goodIn_app (goodIn_of _ (by decide +kernel)) ggL_doubt_X5_doubt
theorem dL_doubt_0 : decode cL_doubt 0 = .ok (.aload_n 2, 1) := by decide +kernel
theorem dL_doubt_1 : decode cL_doubt 1 = .ok (.iconst 0, 1) := by decide +kernel
theorem dL_doubt_2 : decode cL_doubt 2 = .ok (.aload_n 0, 1) := by decide +kernel
theorem dL_doubt_3 : decode cL_doubt 3 = .ok (.iload_n 1, 1) := by decide +kernel
theorem dL_doubt_4 : decode cL_doubt 4 = .ok (.invokevirtual 63, 3) := by decide +kernel
theorem dL_doubt_7 : decode cL_doubt 7 = .ok (.i2l, 1) := by decide +kernel
theorem dL_doubt_8 : decode cL_doubt 8 = .ok (.lastore, 1) := by decide +kernel
theorem dL_doubt_9 : decode cL_doubt 9 = .ok (.goto 6, 3) := by decide +kernel
theorem dL_doubt_12 : decode cL_doubt 12 = .ok (.astore_n 3, 1) := by decide +kernel
theorem dL_doubt_13 : decode cL_doubt 13 = .ok (.iconst 1, 1) := by decide +kernel
theorem dL_doubt_14 : decode cL_doubt 14 = .ok (.ireturn, 1) := by decide +kernel
theorem dL_doubt_15 : decode cL_doubt 15 = .ok (.iconst 0, 1) := by decide +kernel
theorem dL_doubt_16 : decode cL_doubt 16 = .ok (.ireturn, 1) := by decide +kernel
set_option maxRecDepth 20000 in
theorem ggL_doubtAnew_X5_doubtAnew : GoodIn wsL_doubtAnew wsX5_doubtAnew := goodIn_ca (goodIn_r _ [6, 7, 8, 9, 5, 10, 11, 12, 13, 14, 15, 16, 17, 18, 19, 20, 21, 22, 23, 24, 25, 26, 27, 28, 29, 30, 31, 32, 33, 34, 35, 36, 37, 38, 39, 40, 41, 42, 43, 44, 45, 46, 47, 48] (by decide +kernel) (by decide +kernel)) (goodIn_sub (fun _ h => List.mem_cons_of_mem _ (List.mem_append_right _ h)) (by decide +kernel))
set_option maxRecDepth 20000 in
theorem gL_doubtAnew_X5_doubtAnew : GoodIn wsL_doubtAnew (wsV RL 66 RX5 yX5_doubtAnew wsX5_doubtAnew) := goodIn_app (goodIn_of _ (by decide +kernel)) ggL_doubtAnew_X5_doubtAnew
theorem dL_doubtAnew_0 : decode cL_doubtAnew 0 = .ok (.aload_n 2, 1) := by decide +kernel
theorem dL_doubtAnew_1 : decode cL_doubtAnew 1 = .ok (.iconst 0, 1) := by decide +kernel
theorem dL_doubtAnew_2 : decode cL_doubtAnew 2 = .ok (.aload_n 0, 1) := by decide +kernel
theorem dL_doubtAnew_3 : decode cL_doubtAnew 3 = .ok (.iload_n 1, 1) := by decide +kernel
theorem dL_doubtAnew_4 : decode cL_doubtAnew 4 = .ok (.invokevirtual 66, 3) := by decide +kernel
theorem dL_doubtAnew_7 : decode cL_doubtAnew 7 = .ok (.i2l, 1) := by decide +kernel
theorem dL_doubtAnew_8 : decode cL_doubtAnew 8 = .ok (.lastore, 1) := by decide +kernel
theorem dL_doubtAnew_9 : decode cL_doubtAnew 9 = .ok (.goto 6, 3) := by decide +kernel
theorem dL_doubtAnew_12 : decode cL_doubtAnew 12 = .ok (.astore_n 3, 1) := by decide +kernel
theorem dL_doubtAnew_13 : decode cL_doubtAnew 13 = .ok (.iconst 1, 1) := by decide +kernel
theorem dL_doubtAnew_14 : decode cL_doubtAnew 14 = .ok (.ireturn, 1) := by decide +kernel
theorem dL_doubtAnew_15 : decode cL_doubtAnew 15 = .ok (.iconst 0, 1) := by decide +kernel
theorem dL_doubtAnew_16 : decode cL_doubtAnew 16 = .ok (.ireturn, 1) := by decide +kernel
set_option maxRecDepth 20000 in
theorem ggL_isInConflict_X5_isInConflict : GoodIn wsL_isInConflict wsX5_isInConflict := goodIn_ca (goodIn_r _ [6, 7, 8, 9, 5, 10, 11, 12, 13, 14, 15, 16, 17, 18, 19, 20, 21, 22, 23, 24, 25, 26, 27, 28, 29, 30, 31, 32, 33, 34, 35, 36, 37, 38, 39, 40, 41, 42, 43, 44, 45, 46, 47, 48, 49, 50, 51, 52, 53, 54, 55, 56, 57, 58, 59, 60, 61] (by decide +kernel) (by decide +kernel)) (goodIn_sub (fun _ h => List.mem_cons_of_mem _ (List.mem_append_right _ h)) (by decide +kernel))
set_option maxRecDepth 20000 in
theorem gL_isInConflict_X5_isInConflict : GoodIn wsL_isInConflict (wsV RL 69 RX5 yX5_isInConflict wsX5_isInConflict) := goodIn_app (goodIn_of _ (by decide +kernel)) ggL_isInConflict_X5_isInConflict
theorem dL_isInConflict_0 : decode cL_isInConflict 0 = .ok (.aload_n 2, 1) := by decide +kernel
theorem dL_isInConflict_1 : decode cL_isInConflict 1 = .ok (.iconst 0, 1) := by decide +kernel
theorem dL_isInConflict_2 : decode cL_isInConflict 2 = .ok (.aload_n 0, 1) := by decide +kernel
theorem dL_isInConflict_3 : decode cL_isInConflict 3 = .ok (.iload_n 1, 1) := by decide +kernel
theorem dL_isInConflict_4 : decode cL_isInConflict 4 = .ok (.invokevirtual 69, 3) := by decide +kernel
theorem dL_isInConflict_7 : decode cL_isInConflict 7 = .ok (.ifCond .eq 7, 3) := by decide +kernel
theorem dL_isInConflict_10 : decode cL_isInConflict 10 = .ok (.lconst 1, 1) := by decide +kernel
theorem dL_isInConflict_11 : decode cL_isInConflict 11 = .ok (.goto 4, 3) := by decide +kernel
theorem dL_isInConflict_14 : decode cL_isInConflict 14 = .ok (.lconst 0, 1) := by decide +kernel
theorem dL_isInConflict_15 : decode cL_isInConflict 15 = .ok (.lastore, 1) := by decide +kernel
theorem dL_isInConflict_16 : decode cL_isInConflict 16 = .ok (.goto 6, 3) := by decide +kernel
theorem dL_isInConflict_19 : decode cL_isInConflict 19 = .ok (.astore_n 3, 1) := by decide +kernel
theorem dL_isInConflict_20 : decode cL_isInConflict 20 = .ok (.iconst 1, 1) := by decide +kernel
theorem dL_isInConflict_21 : decode cL_isInConflict 21 = .ok (.ireturn, 1) := by decide +kernel
theorem dL_isInConflict_22 : decode cL_isInConflict 22 = .ok (.iconst 0, 1) := by decide +kernel
theorem dL_isInConflict_23 : decode cL_isInConflict 23 = .ok (.ireturn, 1) := by decide +kernel
set_option maxRecDepth 20000 in
theorem ggL_release_X5_release : GoodIn wsL_release wsX5_release := goodIn_ca (goodIn_r _ [6, 7, 8, 9, 10, 11, 5, 12, 13, 14, 15, 16, 17, 18, 19, 20, 21, 22, 23, 24, 25, 26, 27, 28, 29, 30, 31, 32, 33, 34, 35, 36, 37] (by decide +kernel) (by decide +kernel)) (goodIn_sub (fun _ h => List.mem_cons_of_mem _ (List.mem_append_right _ h)) (by decide +kernel))
set_option maxRecDepth 20000 in
theorem gL_release_X5_release : GoodIn wsL_release (wsV RL 73 RX5 yX5_release wsX5_release) := goodIn_app (goodIn_of _ (by decide +kernel)) ggL_release_X5_release
theorem dL_release_0 : decode cL_release 0 = .ok (.aload_n 1, 1) := by decide +kernel
theorem dL_release_1 : decode cL_release 1 = .ok (.iconst 0, 1) := by decide +kernel
theorem dL_release_2 : decode cL_release 2 = .ok (.aload_n 0, 1) := by decide +kernel
theorem dL_release_3 : decode cL_release 3 = .ok (.invokevirtual 73, 3) := by decide +kernel
theorem dL_release_6 : decode cL_release 6 = .ok (.i2l, 1) := by decide +kernel
theorem dL_release_7 : decode cL_release 7 = .ok (.lastore, 1) := by decide +kernel
theorem dL_release_8 : decode cL_release 8 = .ok (.goto 6, 3) := by decide +kernel
theorem dL_release_11 : decode cL_release 11 = .ok (.astore_n 2, 1) := by decide +kernel
theorem dL_release_12 : decode cL_release 12 = .ok (.iconst 1, 1) := by decide +kernel
theorem dL_release_13 : decode cL_release 13 = .ok (.ireturn, 1) := by decide +kernel
theorem dL_release_14 : decode cL_release 14 = .ok (.iconst 0, 1) := by decide +kernel
theorem dL_release_15 : decode cL_release 15 = .ok (.ireturn, 1) := by decide +kernel
set_option maxRecDepth 20000 in
theorem ggL_trend_X5_trend : GoodIn wsL_trend wsX5_trend := goodIn_ca (goodIn_ca (goodIn_r _ [7, 8, 9, 10, 11, 12, 6, 13, 14, 15, 16, 17, 18, 19, 20, 21, 22, 23, 24, 25, 26, 27, 28, 29, 30, 31, 32, 33, 34, 35, 36, 37, 38, 39] (by decide +kernel) (by decide +kernel)) (goodIn_sub (fun _ h => List.mem_cons_of_mem _ (List.mem_append_left _ (List.mem_append_right _ h))) (by decide +kernel))) (goodIn_sub (fun _ h => List.mem_cons_of_mem _ (List.mem_append_right _ h)) (by decide +kernel))
set_option maxRecDepth 20000 in
theorem gL_trend_X5_trend : GoodIn wsL_trend (wsV RL 76 RX5 yX5_trend wsX5_trend) := goodIn_app (goodIn_of _ (by decide +kernel)) ggL_trend_X5_trend
theorem dL_trend_0 : decode cL_trend 0 = .ok (.aload 5, 2) := by decide +kernel
theorem dL_trend_2 : decode cL_trend 2 = .ok (.iconst 0, 1) := by decide +kernel
theorem dL_trend_3 : decode cL_trend 3 = .ok (.aload_n 0, 1) := by decide +kernel
theorem dL_trend_4 : decode cL_trend 4 = .ok (.iload_n 1, 1) := by decide +kernel
theorem dL_trend_5 : decode cL_trend 5 = .ok (.iload_n 2, 1) := by decide +kernel
theorem dL_trend_6 : decode cL_trend 6 = .ok (.iload_n 3, 1) := by decide +kernel
theorem dL_trend_7 : decode cL_trend 7 = .ok (.iload 4, 2) := by decide +kernel
theorem dL_trend_9 : decode cL_trend 9 = .ok (.invokevirtual 76, 3) := by decide +kernel
theorem dL_trend_12 : decode cL_trend 12 = .ok (.lastore, 1) := by decide +kernel
theorem dL_trend_13 : decode cL_trend 13 = .ok (.goto 11, 3) := by decide +kernel
theorem dL_trend_16 : decode cL_trend 16 = .ok (.astore 6, 2) := by decide +kernel
theorem dL_trend_18 : decode cL_trend 18 = .ok (.iconst 1, 1) := by decide +kernel
theorem dL_trend_19 : decode cL_trend 19 = .ok (.ireturn, 1) := by decide +kernel
theorem dL_trend_20 : decode cL_trend 20 = .ok (.astore 6, 2) := by decide +kernel
theorem dL_trend_22 : decode cL_trend 22 = .ok (.iconst 2, 1) := by decide +kernel
theorem dL_trend_23 : decode cL_trend 23 = .ok (.ireturn, 1) := by decide +kernel
theorem dL_trend_24 : decode cL_trend 24 = .ok (.iconst 0, 1) := by decide +kernel
theorem dL_trend_25 : decode cL_trend 25 = .ok (.ireturn, 1) := by decide +kernel
set_option maxRecDepth 20000 in
theorem ggL_law_X5_init : GoodIn wsL_law wsX5_init := goodIn_r _ [10, 11, 12, 13, 14, 15, 16, 17, 18, 19, 20, 21, 22, 23, 24, 25, 26, 27, 28, 29, 30, 31, 32, 33, 34, 35, 36, 37, 6, 38, 39, 40, 41, 42, 43, 44, 45, 46, 47, 48, 49, 50, 51, 52, 53, 54, 55, 56, 57, 58, 59, 60, 61, 62, 63, 64, 65, 66, 67, 68, 69, 70, 71, 522, 523, 524, 496, 497, 498, 499, 500, 501, 525, 526, 527, 528, 529, 530, 531, 532, 533, 534, 535, 536, 537, 538, 539, 540, 541, 542] (by decide +kernel) (by decide +kernel)
set_option maxRecDepth 20000 in
theorem gL_law_X5_init : GoodIn wsL_law (wsX5_init) := ggL_law_X5_init
set_option maxRecDepth 20000 in
theorem ggL_law_X6_init : GoodIn wsL_law wsX6_init := goodIn_r _ [74, 75, 12, 13, 6, 76, 77, 49, 78, 79, 80, 81, 82, 83, 84, 85, 86, 87, 88, 89, 502, 503, 504, 505, 506, 507, 508, 509, 510, 511, 512, 513, 514, 515, 516, 517, 518, 519, 520, 521] (by decide +kernel) (by decide +kernel)
set_option maxRecDepth 20000 in
theorem gL_law_X6_init : GoodIn wsL_law (wsX6_init) := ggL_law_X6_init
set_option maxRecDepth 20000 in
theorem ggL_law_L_mass : GoodIn wsL_law wsL_mass := goodIn_ca (goodIn_ca (goodIn_r _ [93, 94, 95, 96, 97, 98, 2, 99, 100, 17, 101, 102, 103, 104, 105, 106, 107, 108, 109, 110, 111, 112, 113, 114, 16, 115, 116, 38, 117, 118, 119, 120, 121, 122, 40, 123, 124, 125, 126, 127, 128, 129, 496, 497, 498, 499, 500, 501, 522, 523, 524] (by decide +kernel) (by decide +kernel)) (goodIn_sub (fun _ h => List.mem_append_left _ (List.mem_append_left _ (List.mem_append_right _ h))) (by decide +kernel))) (goodIn_sub (fun _ h => List.mem_append_left _ (List.mem_append_right _ h)) (by decide +kernel))
set_option maxRecDepth 20000 in
theorem gL_law_L_mass : GoodIn wsL_law (va_wsS RL 86 yL_mass wsL_mass) := goodIn_app (goodIn_of _ (by decide +kernel)) ggL_law_L_mass
set_option maxRecDepth 20000 in
theorem ggL_law_X6_mass : GoodIn wsL_law wsX6_mass := goodIn_r _ [133, 134, 135, 136, 137, 5, 138, 139, 140, 141, 142, 143, 144, 145, 146, 147, 148, 149, 150, 151, 76, 502, 503, 504, 505, 506, 507, 508, 509, 510, 511, 512, 513, 514, 515, 516, 517, 518, 519, 520, 521] (by decide +kernel) (by decide +kernel)
set_option maxRecDepth 20000 in
theorem gL_law_X6_mass : GoodIn wsL_law (wsV RL 91 RX6 yX6_mass wsX6_mass) := goodIn_app (goodIn_of _ (by decide +kernel)) ggL_law_X6_mass
set_option maxRecDepth 20000 in
theorem ggL_law_X6_thrown : GoodIn wsL_law wsX6_thrown := goodIn_r _ [155, 147, 502, 503, 504, 505, 506, 507, 508, 509, 510, 511, 512, 513, 514, 515, 516, 517, 518, 519, 520, 521] (by decide +kernel) (by decide +kernel)
set_option maxRecDepth 20000 in
theorem gL_law_X6_thrown : GoodIn wsL_law (wsV RL 92 RX6 yX6_thrown wsX6_thrown) := goodIn_app (goodIn_of _ (by decide +kernel)) ggL_law_X6_thrown
set_option maxRecDepth 20000 in
theorem ggL_law_L_water : GoodIn wsL_law wsL_water := goodIn_ca (goodIn_ca (goodIn_r _ [158, 94, 95, 159, 160, 161, 2, 162, 163, 17, 101, 102, 103, 104, 105, 109, 110, 111, 112, 113, 164, 16, 165, 166, 39, 117, 118, 119, 120, 121, 122, 40, 123, 124, 125, 126, 127, 128, 129, 496, 497, 498, 499, 500, 501, 522, 523, 524] (by decide +kernel) (by decide +kernel)) (goodIn_sub (fun _ h => List.mem_append_left _ (List.mem_append_left _ (List.mem_append_right _ h))) (by decide +kernel))) (goodIn_sub (fun _ h => List.mem_append_left _ (List.mem_append_right _ h)) (by decide +kernel))
set_option maxRecDepth 20000 in
theorem gL_law_L_water : GoodIn wsL_law (va_wsS RL 95 yL_water wsL_water) := goodIn_app (goodIn_of _ (by decide +kernel)) ggL_law_L_water
set_option maxRecDepth 20000 in
theorem ggL_law_X6_water : GoodIn wsL_law wsX6_water := goodIn_r _ [170, 171, 136, 137, 5, 138, 139, 140, 141, 142, 143, 144, 145, 146, 147, 148, 149, 150, 151, 76, 502, 503, 504, 505, 506, 507, 508, 509, 510, 511, 512, 513, 514, 515, 516, 517, 518, 519, 520, 521] (by decide +kernel) (by decide +kernel)
set_option maxRecDepth 20000 in
theorem gL_law_X6_water : GoodIn wsL_law (wsV RL 98 RX6 yX6_water wsX6_water) := goodIn_app (goodIn_of _ (by decide +kernel)) ggL_law_X6_water
set_option maxRecDepth 20000 in
theorem ggL_law_L_pull : GoodIn wsL_law wsL_pull := goodIn_ca (goodIn_r _ [174, 94, 175, 176, 177, 2, 178, 17, 101, 102, 103, 104, 105, 179, 16, 180, 181, 40, 117, 118, 496, 497, 498, 499, 500, 501, 522, 523, 524] (by decide +kernel) (by decide +kernel)) (goodIn_sub (fun _ h => List.mem_append_left _ (List.mem_append_left _ (List.mem_append_right _ h))) (by decide +kernel))
set_option maxRecDepth 20000 in
theorem gL_law_L_pull : GoodIn wsL_law (va_wsS RL 99 yL_pull wsL_pull) := goodIn_app (goodIn_of _ (by decide +kernel)) ggL_law_L_pull
set_option maxRecDepth 20000 in
theorem ggL_law_X6_pull : GoodIn wsL_law wsX6_pull := goodIn_r _ [185, 136, 137, 5, 138, 139, 140, 141, 142, 143, 144, 145, 146, 147, 186, 187, 188, 189, 76, 190, 502, 503, 504, 505, 506, 507, 508, 509, 510, 511, 512, 513, 514, 515, 516, 517, 518, 519, 520, 521] (by decide +kernel) (by decide +kernel)
set_option maxRecDepth 20000 in
theorem gL_law_X6_pull : GoodIn wsL_law (wsV RL 102 RX6 yX6_pull wsX6_pull) := goodIn_app (goodIn_of _ (by decide +kernel)) ggL_law_X6_pull
set_option maxRecDepth 20000 in
theorem ggL_law_L_pullAnew : GoodIn wsL_law wsL_pullAnew := goodIn_ca (goodIn_r _ [193, 94, 194, 195, 196, 2, 197, 17, 101, 102, 103, 104, 105, 198, 16, 199, 200, 39, 38, 117, 118, 123, 124, 125, 126, 127, 128, 129, 496, 497, 498, 499, 500, 501, 522, 523, 524] (by decide +kernel) (by decide +kernel)) (goodIn_sub (fun _ h => List.mem_append_left _ (List.mem_append_left _ (List.mem_append_right _ h))) (by decide +kernel))
set_option maxRecDepth 20000 in
theorem gL_law_L_pullAnew : GoodIn wsL_law (va_wsS RL 103 yL_pullAnew wsL_pullAnew) := goodIn_app (goodIn_of _ (by decide +kernel)) ggL_law_L_pullAnew
set_option maxRecDepth 20000 in
theorem ggL_law_X6_pullAnew : GoodIn wsL_law wsX6_pullAnew := goodIn_r _ [204, 136, 137, 5, 138, 139, 140, 141, 142, 143, 144, 145, 146, 147, 186, 187, 188, 189, 76, 190, 502, 503, 504, 505, 506, 507, 508, 509, 510, 511, 512, 513, 514, 515, 516, 517, 518, 519, 520, 521] (by decide +kernel) (by decide +kernel)
set_option maxRecDepth 20000 in
theorem gL_law_X6_pullAnew : GoodIn wsL_law (wsV RL 105 RX6 yX6_pullAnew wsX6_pullAnew) := goodIn_app (goodIn_of _ (by decide +kernel)) ggL_law_X6_pullAnew
set_option maxRecDepth 20000 in
theorem ggL_law_L_gap : GoodIn wsL_law wsL_gap := goodIn_ca (goodIn_r _ [207, 94, 208, 209, 210, 2, 211, 17, 101, 102, 103, 104, 105, 106, 107, 108, 179, 16, 180, 181, 40, 117, 118, 496, 497, 498, 499, 500, 501, 522, 523, 524] (by decide +kernel) (by decide +kernel)) (goodIn_sub (fun _ h => List.mem_append_left _ (List.mem_append_left _ (List.mem_append_right _ h))) (by decide +kernel))
set_option maxRecDepth 20000 in
theorem gL_law_L_gap : GoodIn wsL_law (va_wsS RL 106 yL_gap wsL_gap) := goodIn_app (goodIn_of _ (by decide +kernel)) ggL_law_L_gap
set_option maxRecDepth 20000 in
theorem ggL_law_X6_gap : GoodIn wsL_law wsX6_gap := goodIn_r _ [215, 136, 137, 5, 138, 139, 140, 141, 142, 143, 144, 145, 146, 147, 186, 187, 188, 189, 76, 190, 502, 503, 504, 505, 506, 507, 508, 509, 510, 511, 512, 513, 514, 515, 516, 517, 518, 519, 520, 521] (by decide +kernel) (by decide +kernel)
set_option maxRecDepth 20000 in
theorem gL_law_X6_gap : GoodIn wsL_law (wsV RL 108 RX6 yX6_gap wsX6_gap) := goodIn_app (goodIn_of _ (by decide +kernel)) ggL_law_X6_gap
set_option maxRecDepth 20000 in
theorem ggL_law_L_tide : GoodIn wsL_law wsL_tide := goodIn_ca (goodIn_r _ [218, 95, 219, 220, 221, 2, 222, 223, 224, 21, 109, 110, 111, 112, 113, 225, 20, 226, 227, 44, 45, 496, 497, 498, 499, 500, 501, 525, 526] (by decide +kernel) (by decide +kernel)) (goodIn_sub (fun _ h => List.mem_append_left _ (List.mem_append_right _ h)) (by decide +kernel))
set_option maxRecDepth 20000 in
theorem gL_law_L_tide : GoodIn wsL_law (va_wsS RL 109 yL_tide wsL_tide) := goodIn_app (goodIn_of _ (by decide +kernel)) ggL_law_L_tide
set_option maxRecDepth 20000 in
theorem ggL_law_X6_tide : GoodIn wsL_law wsX6_tide := goodIn_r _ [231, 190, 232, 233, 77, 140, 141, 5, 142, 143, 144, 145, 146, 147, 502, 503, 504, 505, 506, 507, 508, 509, 510, 511, 512, 513, 514, 515, 516, 517, 518, 519, 520, 521] (by decide +kernel) (by decide +kernel)
set_option maxRecDepth 20000 in
theorem gL_law_X6_tide : GoodIn wsL_law (wsV RL 111 RX6 yX6_tide wsX6_tide) := goodIn_app (goodIn_of _ (by decide +kernel)) ggL_law_X6_tide
set_option maxRecDepth 20000 in
theorem ggL_law_L_pass : GoodIn wsL_law wsL_pass := goodIn_ca (goodIn_ca (goodIn_r _ [236, 95, 237, 238, 239, 240, 2, 241, 242, 243, 244, 34, 109, 110, 111, 112, 113, 496, 497, 498, 499, 500, 501] (by decide +kernel) (by decide +kernel)) (goodIn_sub (fun _ h => List.mem_append_right _ h) (by decide +kernel))) (goodIn_sub (fun _ h => List.mem_append_left _ (List.mem_append_right _ h)) (by decide +kernel))
set_option maxRecDepth 20000 in
theorem gL_law_L_pass : GoodIn wsL_law (va_wsS RL 112 yL_pass wsL_pass) := goodIn_app (goodIn_of _ (by decide +kernel)) ggL_law_L_pass
set_option maxRecDepth 20000 in
theorem ggL_law_X6_pass : GoodIn wsL_law wsX6_pass := goodIn_r _ [248, 249, 89, 140, 141, 5, 142, 143, 144, 145, 146, 147, 502, 503, 504, 505, 506, 507, 508, 509, 510, 511, 512, 513, 514, 515, 516, 517, 518, 519, 520, 521] (by decide +kernel) (by decide +kernel)
set_option maxRecDepth 20000 in
theorem gL_law_X6_pass : GoodIn wsL_law (wsV RL 115 RX6 yX6_pass wsX6_pass) := goodIn_app (goodIn_of _ (by decide +kernel)) ggL_law_X6_pass
set_option maxRecDepth 20000 in
theorem ggL_law_L_needle : GoodIn wsL_law wsL_needle := goodIn_ca (goodIn_ca (goodIn_r _ [252, 95, 237, 253, 254, 255, 2, 256, 257, 258, 25, 34, 109, 110, 111, 112, 113, 259, 260, 261, 242, 243, 262, 24, 263, 264, 50, 53, 51, 52, 496, 497, 498, 499, 500, 501, 527, 528, 529, 530] (by decide +kernel) (by decide +kernel)) (goodIn_sub (fun _ h => List.mem_append_left _ (List.mem_append_right _ h)) (by decide +kernel))) (goodIn_sub (fun _ h => List.mem_append_right _ h) (by decide +kernel))
set_option maxRecDepth 20000 in
theorem gL_law_L_needle : GoodIn wsL_law (va_wsS RL 116 yL_needle wsL_needle) := goodIn_app (goodIn_of _ (by decide +kernel)) ggL_law_L_needle
set_option maxRecDepth 20000 in
theorem ggL_law_X6_needle : GoodIn wsL_law wsX6_needle := goodIn_r _ [268, 269, 270, 271, 78, 79, 80, 89, 140, 141, 5, 142, 143, 144, 145, 146, 147, 502, 503, 504, 505, 506, 507, 508, 509, 510, 511, 512, 513, 514, 515, 516, 517, 518, 519, 520, 521] (by decide +kernel) (by decide +kernel)
set_option maxRecDepth 20000 in
theorem gL_law_X6_needle : GoodIn wsL_law (wsV RL 118 RX6 yX6_needle wsX6_needle) := goodIn_app (goodIn_of _ (by decide +kernel)) ggL_law_X6_needle
set_option maxRecDepth 20000 in
theorem ggL_law_L_tie : GoodIn wsL_law wsL_tie := goodIn_ca (goodIn_ca (goodIn_r _ [274, 94, 237, 275, 276, 277, 2, 278, 242, 243, 25, 34, 106, 107, 108, 104, 105, 279, 24, 280, 281, 50, 51, 52, 496, 497, 498, 499, 500, 501, 527, 528, 529, 530] (by decide +kernel) (by decide +kernel)) (goodIn_sub (fun _ h => List.mem_append_right _ h) (by decide +kernel))) (goodIn_sub (fun _ h => List.mem_append_left _ (List.mem_append_left _ (List.mem_append_right _ h))) (by decide +kernel))
set_option maxRecDepth 20000 in
theorem gL_law_L_tie : GoodIn wsL_law (va_wsS RL 119 yL_tie wsL_tie) := goodIn_app (goodIn_of _ (by decide +kernel)) ggL_law_L_tie
set_option maxRecDepth 20000 in
theorem ggL_law_X6_tie : GoodIn wsL_law wsX6_tie := goodIn_r _ [285, 78, 80, 89, 286, 287, 288, 5, 289, 271, 140, 141, 142, 143, 144, 145, 146, 147, 290, 291, 292, 293, 79, 502, 503, 504, 505, 506, 507, 508, 509, 510, 511, 512, 513, 514, 515, 516, 517, 518, 519, 520, 521] (by decide +kernel) (by decide +kernel)
set_option maxRecDepth 20000 in
theorem gL_law_X6_tie : GoodIn wsL_law (wsV RL 121 RX6 yX6_tie wsX6_tie) := goodIn_app (goodIn_of _ (by decide +kernel)) ggL_law_X6_tie
set_option maxRecDepth 20000 in
theorem ggL_law_L_read : GoodIn wsL_law wsL_read := goodIn_ca (goodIn_r _ [296, 94, 297, 298, 299, 2, 300, 25, 17, 21, 34, 106, 107, 108, 104, 105, 101, 102, 103, 179, 16, 180, 181, 40, 117, 118, 301, 20, 302, 303, 45, 44, 279, 24, 280, 281, 50, 51, 52, 496, 497, 498, 499, 500, 501, 527, 528, 529, 530, 522, 523, 524, 525, 526] (by decide +kernel) (by decide +kernel)) (goodIn_sub (fun _ h => List.mem_append_left _ (List.mem_append_left _ (List.mem_append_right _ h))) (by decide +kernel))
set_option maxRecDepth 20000 in
theorem gL_law_L_read : GoodIn wsL_law (va_wsS RL 122 yL_read wsL_read) := goodIn_app (goodIn_of _ (by decide +kernel)) ggL_law_L_read
set_option maxRecDepth 20000 in
theorem ggL_law_X6_read : GoodIn wsL_law wsX6_read := goodIn_r _ [307, 286, 287, 288, 5, 289, 271, 140, 141, 142, 136, 137, 138, 139, 143, 144, 145, 146, 147, 308, 309, 310, 311, 89, 77, 233, 186, 187, 188, 189, 76, 190, 290, 291, 292, 293, 78, 79, 80, 502, 503, 504, 505, 506, 507, 508, 509, 510, 511, 512, 513, 514, 515, 516, 517, 518, 519, 520, 521] (by decide +kernel) (by decide +kernel)
set_option maxRecDepth 20000 in
theorem gL_law_X6_read : GoodIn wsL_law (wsV RL 125 RX6 yX6_read wsX6_read) := goodIn_app (goodIn_of _ (by decide +kernel)) ggL_law_X6_read
set_option maxRecDepth 20000 in
theorem ggL_law_L_benchmark : GoodIn wsL_law wsL_benchmark := goodIn_ca (goodIn_r _ [314, 237, 315, 316, 317, 2, 318, 29, 259, 260, 261, 242, 243, 319, 28, 320, 321, 64, 496, 497, 498, 499, 500, 501, 531, 532, 533, 534, 535, 536, 537, 538, 539] (by decide +kernel) (by decide +kernel)) (goodIn_sub (fun _ h => List.mem_append_right _ h) (by decide +kernel))
set_option maxRecDepth 20000 in
theorem gL_law_L_benchmark : GoodIn wsL_law (va_wsS RL 126 yL_benchmark wsL_benchmark) := goodIn_app (goodIn_of _ (by decide +kernel)) ggL_law_L_benchmark
set_option maxRecDepth 20000 in
theorem ggL_law_X6_benchmark : GoodIn wsL_law wsX6_benchmark := goodIn_r _ [325, 326, 143, 144, 145, 5, 146, 147, 502, 503, 504, 505, 506, 507, 508, 509, 510, 511, 512, 513, 514, 515, 516, 517, 518, 519, 520, 521] (by decide +kernel) (by decide +kernel)
set_option maxRecDepth 20000 in
theorem gL_law_X6_benchmark : GoodIn wsL_law (wsV RL 129 RX6 yX6_benchmark wsX6_benchmark) := goodIn_app (goodIn_of _ (by decide +kernel)) ggL_law_X6_benchmark
set_option maxRecDepth 20000 in
theorem ggL_law_L_line : GoodIn wsL_law wsL_line := goodIn_ca (goodIn_ca (goodIn_ca (goodIn_r _ [329, 94, 95, 237, 330, 331, 332, 2, 333, 112, 113, 29, 334, 223, 258, 106, 107, 108, 104, 105, 109, 110, 111, 259, 260, 261, 242, 243, 335, 28, 336, 337, 57, 65, 58, 59, 60, 496, 497, 498, 499, 500, 501, 531, 532, 533, 534, 535, 536, 537, 538, 539] (by decide +kernel) (by decide +kernel)) (goodIn_sub (fun _ h => List.mem_append_left _ (List.mem_append_right _ h)) (by decide +kernel))) (goodIn_sub (fun _ h => List.mem_append_left _ (List.mem_append_left _ (List.mem_append_right _ h))) (by decide +kernel))) (goodIn_sub (fun _ h => List.mem_append_right _ h) (by decide +kernel))
set_option maxRecDepth 20000 in
theorem gL_law_L_line : GoodIn wsL_law (va_wsS RL 130 yL_line wsL_line) := goodIn_app (goodIn_of _ (by decide +kernel)) ggL_law_L_line
set_option maxRecDepth 20000 in
theorem ggL_law_X6_line : GoodIn wsL_law wsX6_line := goodIn_r _ [341, 342, 190, 270, 343, 81, 82, 83, 84, 344, 345, 346, 5, 347, 326, 140, 141, 142, 143, 144, 145, 146, 147, 502, 503, 504, 505, 506, 507, 508, 509, 510, 511, 512, 513, 514, 515, 516, 517, 518, 519, 520, 521] (by decide +kernel) (by decide +kernel)
set_option maxRecDepth 20000 in
theorem gL_law_X6_line : GoodIn wsL_law (wsV RL 133 RX6 yX6_line wsX6_line) := goodIn_app (goodIn_of _ (by decide +kernel)) ggL_law_X6_line
set_option maxRecDepth 20000 in
theorem ggL_law_L_height : GoodIn wsL_law wsL_height := goodIn_ca (goodIn_ca (goodIn_r _ [350, 94, 237, 351, 352, 353, 2, 354, 242, 243, 29, 106, 107, 108, 104, 105, 355, 28, 356, 357, 62, 61, 64, 358, 359, 360, 361, 362, 363, 364, 65, 365, 366, 367, 368, 57, 58, 60, 369, 370, 371, 372, 59, 496, 497, 498, 499, 500, 501, 531, 532, 533, 534, 535, 536, 537, 538, 539] (by decide +kernel) (by decide +kernel)) (goodIn_sub (fun _ h => List.mem_append_right _ h) (by decide +kernel))) (goodIn_sub (fun _ h => List.mem_append_left _ (List.mem_append_left _ (List.mem_append_right _ h))) (by decide +kernel))
set_option maxRecDepth 20000 in
theorem gL_law_L_height : GoodIn wsL_law (va_wsS RL 134 yL_height wsL_height) := goodIn_app (goodIn_of _ (by decide +kernel)) ggL_law_L_height
set_option maxRecDepth 20000 in
theorem ggL_law_X6_height : GoodIn wsL_law wsX6_height := goodIn_r _ [376, 86, 344, 345, 346, 5, 347, 326, 140, 141, 142, 377, 378, 379, 380, 85, 81, 82, 83, 381, 382, 383, 384, 343, 385, 386, 387, 388, 84, 389, 390, 391, 392, 143, 144, 145, 146, 147, 502, 503, 504, 505, 506, 507, 508, 509, 510, 511, 512, 513, 514, 515, 516, 517, 518, 519, 520, 521] (by decide +kernel) (by decide +kernel)
set_option maxRecDepth 20000 in
theorem gL_law_X6_height : GoodIn wsL_law (wsV RL 136 RX6 yX6_height wsX6_height) := goodIn_app (goodIn_of _ (by decide +kernel)) ggL_law_X6_height
set_option maxRecDepth 20000 in
theorem ggL_law_L_doubt : GoodIn wsL_law wsL_doubt := goodIn_ca (goodIn_r _ [395, 94, 396, 397, 398, 2, 399, 29, 106, 107, 108, 104, 105, 355, 28, 356, 357, 62, 61, 64, 358, 359, 360, 361, 362, 363, 364, 65, 365, 366, 367, 368, 57, 58, 60, 369, 370, 371, 372, 59, 496, 497, 498, 499, 500, 501, 531, 532, 533, 534, 535, 536, 537, 538, 539] (by decide +kernel) (by decide +kernel)) (goodIn_sub (fun _ h => List.mem_append_left _ (List.mem_append_left _ (List.mem_append_right _ h))) (by decide +kernel))
set_option maxRecDepth 20000 in
theorem gL_law_L_doubt : GoodIn wsL_law (va_wsS RL 137 yL_doubt wsL_doubt) := goodIn_app (goodIn_of _ (by decide +kernel)) ggL_law_L_doubt
set_option maxRecDepth 20000 in
theorem ggL_law_X6_doubt : GoodIn wsL_law wsX6_doubt := goodIn_r _ [403, 344, 345, 346, 5, 347, 326, 140, 141, 142, 143, 144, 145, 146, 147, 404, 405, 406, 407, 85, 377, 378, 379, 380, 86, 81, 82, 83, 381, 382, 383, 384, 343, 385, 386, 387, 388, 84, 389, 390, 391, 392, 502, 503, 504, 505, 506, 507, 508, 509, 510, 511, 512, 513, 514, 515, 516, 517, 518, 519, 520, 521] (by decide +kernel) (by decide +kernel)
set_option maxRecDepth 20000 in
theorem gL_law_X6_doubt : GoodIn wsL_law (wsV RL 139 RX6 yX6_doubt wsX6_doubt) := goodIn_app (goodIn_of _ (by decide +kernel)) ggL_law_X6_doubt
set_option maxRecDepth 20000 in
theorem ggL_law_L_doubtAnew : GoodIn wsL_law wsL_doubtAnew := goodIn_ca (goodIn_r _ [410, 94, 411, 412, 413, 2, 414, 29, 106, 107, 108, 104, 105, 415, 28, 416, 417, 63, 64, 358, 359, 360, 418, 419, 420, 421, 65, 57, 58, 60, 422, 423, 424, 425, 496, 497, 498, 499, 500, 501, 531, 532, 533, 534, 535, 536, 537, 538, 539] (by decide +kernel) (by decide +kernel)) (goodIn_sub (fun _ h => List.mem_append_left _ (List.mem_append_left _ (List.mem_append_right _ h))) (by decide +kernel))
set_option maxRecDepth 20000 in
theorem gL_law_L_doubtAnew : GoodIn wsL_law (va_wsS RL 140 yL_doubtAnew wsL_doubtAnew) := goodIn_app (goodIn_of _ (by decide +kernel)) ggL_law_L_doubtAnew
set_option maxRecDepth 20000 in
theorem ggL_law_X6_doubtAnew : GoodIn wsL_law wsX6_doubtAnew := goodIn_r _ [429, 344, 345, 346, 5, 347, 326, 140, 141, 142, 143, 144, 145, 146, 147, 404, 405, 406, 407, 85, 377, 378, 379, 380, 86, 81, 82, 83, 381, 382, 383, 384, 343, 385, 386, 387, 388, 84, 389, 390, 391, 392, 502, 503, 504, 505, 506, 507, 508, 509, 510, 511, 512, 513, 514, 515, 516, 517, 518, 519, 520, 521] (by decide +kernel) (by decide +kernel)
set_option maxRecDepth 20000 in
theorem gL_law_X6_doubtAnew : GoodIn wsL_law (wsV RL 142 RX6 yX6_doubtAnew wsX6_doubtAnew) := goodIn_app (goodIn_of _ (by decide +kernel)) ggL_law_X6_doubtAnew
set_option maxRecDepth 20000 in
theorem ggL_law_L_isInConflict : GoodIn wsL_law wsL_isInConflict := goodIn_ca (goodIn_r _ [432, 94, 433, 434, 435, 2, 436, 29, 106, 107, 108, 104, 105, 355, 28, 356, 357, 62, 61, 64, 358, 359, 360, 361, 362, 363, 364, 65, 365, 366, 367, 368, 57, 58, 60, 369, 370, 371, 372, 59, 437, 438, 439, 440, 441, 442, 443, 496, 497, 498, 499, 500, 501, 531, 532, 533, 534, 535, 536, 537, 538, 539] (by decide +kernel) (by decide +kernel)) (goodIn_sub (fun _ h => List.mem_append_left _ (List.mem_append_left _ (List.mem_append_right _ h))) (by decide +kernel))
end
section
set_option maxRecDepth 20000 in
theorem gL_law_L_isInConflict : GoodIn wsL_law (va_wsS RL 143 yL_isInConflict wsL_isInConflict) := goodIn_app (goodIn_of _ (by decide +kernel)) ggL_law_L_isInConflict
set_option maxRecDepth 20000 in
theorem ggL_law_X6_isInConflict : GoodIn wsL_law wsX6_isInConflict := goodIn_r _ [447, 343, 140, 141, 5, 142, 143, 144, 145, 146, 147, 448, 449, 450, 451, 81, 82, 83, 86, 84, 85, 377, 378, 379, 380, 381, 382, 383, 384, 385, 386, 387, 388, 389, 390, 391, 392, 502, 503, 504, 505, 506, 507, 508, 509, 510, 511, 512, 513, 514, 515, 516, 517, 518, 519, 520, 521] (by decide +kernel) (by decide +kernel)
set_option maxRecDepth 20000 in
theorem gL_law_X6_isInConflict : GoodIn wsL_law (wsV RL 145 RX6 yX6_isInConflict wsX6_isInConflict) := goodIn_app (goodIn_of _ (by decide +kernel)) ggL_law_X6_isInConflict
set_option maxRecDepth 20000 in
theorem ggL_law_L_release : GoodIn wsL_law wsL_release := goodIn_ca (goodIn_r _ [454, 237, 455, 456, 457, 2, 458, 33, 17, 34, 259, 260, 261, 242, 243, 459, 32, 460, 461, 69, 71, 462, 463, 464, 465, 70, 496, 497, 498, 499, 500, 501, 540, 541, 542, 522, 523, 524] (by decide +kernel) (by decide +kernel)) (goodIn_sub (fun _ h => List.mem_append_right _ h) (by decide +kernel))
set_option maxRecDepth 20000 in
theorem gL_law_L_release : GoodIn wsL_law (va_wsS RL 146 yL_release wsL_release) := goodIn_app (goodIn_of _ (by decide +kernel)) ggL_law_L_release
set_option maxRecDepth 20000 in
theorem ggL_law_X6_release : GoodIn wsL_law wsX6_release := goodIn_r _ [469, 470, 87, 88, 89, 143, 144, 145, 5, 146, 147, 186, 187, 188, 189, 76, 190, 502, 503, 504, 505, 506, 507, 508, 509, 510, 511, 512, 513, 514, 515, 516, 517, 518, 519, 520, 521] (by decide +kernel) (by decide +kernel)
set_option maxRecDepth 20000 in
theorem gL_law_X6_release : GoodIn wsL_law (wsV RL 148 RX6 yX6_release wsX6_release) := goodIn_app (goodIn_of _ (by decide +kernel)) ggL_law_X6_release
set_option maxRecDepth 20000 in
theorem ggL_law_L_trend : GoodIn wsL_law wsL_trend := goodIn_ca (goodIn_ca (goodIn_r _ [473, 94, 237, 474, 475, 476, 2, 477, 242, 243, 33, 106, 107, 108, 104, 105, 101, 102, 103, 478, 32, 479, 480, 70, 69, 117, 118, 481, 482, 483, 484, 496, 497, 498, 499, 500, 501, 540, 541, 542] (by decide +kernel) (by decide +kernel)) (goodIn_sub (fun _ h => List.mem_append_right _ h) (by decide +kernel))) (goodIn_sub (fun _ h => List.mem_append_left _ (List.mem_append_left _ (List.mem_append_right _ h))) (by decide +kernel))
set_option maxRecDepth 20000 in
theorem gL_law_L_trend : GoodIn wsL_law (va_wsS RL 149 yL_trend wsL_trend) := goodIn_app (goodIn_of _ (by decide +kernel)) ggL_law_L_trend
set_option maxRecDepth 20000 in
theorem ggL_law_X6_trend : GoodIn wsL_law wsX6_trend := goodIn_r _ [488, 88, 87, 489, 490, 491, 5, 492, 470, 140, 141, 142, 136, 137, 138, 139, 143, 144, 145, 146, 147, 493, 494, 495, 502, 503, 504, 505, 506, 507, 508, 509, 510, 511, 512, 513, 514, 515, 516, 517, 518, 519, 520, 521] (by decide +kernel) (by decide +kernel)
set_option maxRecDepth 20000 in
theorem gL_law_X6_trend : GoodIn wsL_law (wsV RL 151 RX6 yX6_trend wsX6_trend) := goodIn_app (goodIn_of _ (by decide +kernel)) ggL_law_X6_trend
theorem dL_law_0 : decode cL_law 0 = .ok (.new 8, 3) := by decide +kernel
theorem dL_law_3 : decode cL_law 3 = .ok (.dup, 1) := by decide +kernel
theorem dL_law_4 : decode cL_law 4 = .ok (.invokespecial 80, 3) := by decide +kernel
theorem dL_law_7 : decode cL_law 7 = .ok (.astore_n 1, 1) := by decide +kernel
theorem dL_law_8 : decode cL_law 8 = .ok (.new 81, 3) := by decide +kernel
theorem dL_law_11 : decode cL_law 11 = .ok (.dup, 1) := by decide +kernel
theorem dL_law_12 : decode cL_law 12 = .ok (.invokespecial 83, 3) := by decide +kernel
theorem dL_law_15 : decode cL_law 15 = .ok (.astore_n 2, 1) := by decide +kernel
theorem dL_law_16 : decode cL_law 16 = .ok (.iconst 1, 1) := by decide +kernel
theorem dL_law_17 : decode cL_law 17 = .ok (.newarray .long, 2) := by decide +kernel
theorem dL_law_19 : decode cL_law 19 = .ok (.astore_n 3, 1) := by decide +kernel
theorem dL_law_20 : decode cL_law 20 = .ok (.iconst 0, 1) := by decide +kernel
theorem dL_law_21 : decode cL_law 21 = .ok (.istore 4, 2) := by decide +kernel
theorem dL_law_23 : decode cL_law 23 = .ok (.iload 4, 2) := by decide +kernel
theorem dL_law_25 : decode cL_law 25 = .ok (.aload_n 0, 1) := by decide +kernel
theorem dL_law_26 : decode cL_law 26 = .ok (.arraylength, 1) := by decide +kernel
theorem dL_law_27 : decode cL_law 27 = .ok (.bipush 6, 2) := by decide +kernel
theorem dL_law_29 : decode cL_law 29 = .ok (.isub, 1) := by decide +kernel
theorem dL_law_30 : decode cL_law 30 = .ok (.if_icmp .gt 1367, 3) := by decide +kernel
theorem dL_law_33 : decode cL_law 33 = .ok (.aload_n 0, 1) := by decide +kernel
theorem dL_law_34 : decode cL_law 34 = .ok (.iload 4, 2) := by decide +kernel
theorem dL_law_36 : decode cL_law 36 = .ok (.iaload, 1) := by decide +kernel
theorem dL_law_37 : decode cL_law 37 = .ok (.bipush 31, 2) := by decide +kernel
theorem dL_law_39 : decode cL_law 39 = .ok (.iand, 1) := by decide +kernel
theorem dL_law_40 : decode cL_law 40 = .ok (.tableswitch 1351 0 17 #[88, 211, 322, 389, 456, 523, 591, 647, 715, 770, 849, 893, 985, 1041, 1097, 1153, 1216, 1260], 88) := by decide +kernel
theorem dL_law_128 : decode cL_law 128 = .ok (.aload_n 1, 1) := by decide +kernel
theorem dL_law_129 : decode cL_law 129 = .ok (.aload_n 0, 1) := by decide +kernel
theorem dL_law_130 : decode cL_law 130 = .ok (.iload 4, 2) := by decide +kernel
theorem dL_law_132 : decode cL_law 132 = .ok (.iconst 1, 1) := by decide +kernel
theorem dL_law_133 : decode cL_law 133 = .ok (.iadd, 1) := by decide +kernel
theorem dL_law_134 : decode cL_law 134 = .ok (.iaload, 1) := by decide +kernel
theorem dL_law_135 : decode cL_law 135 = .ok (.aload_n 0, 1) := by decide +kernel
theorem dL_law_136 : decode cL_law 136 = .ok (.iload 4, 2) := by decide +kernel
theorem dL_law_138 : decode cL_law 138 = .ok (.iconst 2, 1) := by decide +kernel
theorem dL_law_139 : decode cL_law 139 = .ok (.iadd, 1) := by decide +kernel
theorem dL_law_140 : decode cL_law 140 = .ok (.iaload, 1) := by decide +kernel
theorem dL_law_141 : decode cL_law 141 = .ok (.aload_n 0, 1) := by decide +kernel
theorem dL_law_142 : decode cL_law 142 = .ok (.iload 4, 2) := by decide +kernel
theorem dL_law_144 : decode cL_law 144 = .ok (.iconst 3, 1) := by decide +kernel
theorem dL_law_145 : decode cL_law 145 = .ok (.iadd, 1) := by decide +kernel
theorem dL_law_146 : decode cL_law 146 = .ok (.iaload, 1) := by decide +kernel
theorem dL_law_147 : decode cL_law 147 = .ok (.aload_n 0, 1) := by decide +kernel
theorem dL_law_148 : decode cL_law 148 = .ok (.iload 4, 2) := by decide +kernel
theorem dL_law_150 : decode cL_law 150 = .ok (.iconst 4, 1) := by decide +kernel
theorem dL_law_151 : decode cL_law 151 = .ok (.iadd, 1) := by decide +kernel
theorem dL_law_152 : decode cL_law 152 = .ok (.iaload, 1) := by decide +kernel
theorem dL_law_153 : decode cL_law 153 = .ok (.i2l, 1) := by decide +kernel
theorem dL_law_154 : decode cL_law 154 = .ok (.bipush 32, 2) := by decide +kernel
theorem dL_law_156 : decode cL_law 156 = .ok (.lshl, 1) := by decide +kernel
theorem dL_law_157 : decode cL_law 157 = .ok (.aload_n 0, 1) := by decide +kernel
theorem dL_law_158 : decode cL_law 158 = .ok (.iload 4, 2) := by decide +kernel
theorem dL_law_160 : decode cL_law 160 = .ok (.iconst 5, 1) := by decide +kernel
theorem dL_law_161 : decode cL_law 161 = .ok (.iadd, 1) := by decide +kernel
theorem dL_law_162 : decode cL_law 162 = .ok (.iaload, 1) := by decide +kernel
theorem dL_law_163 : decode cL_law 163 = .ok (.i2l, 1) := by decide +kernel
theorem dL_law_164 : decode cL_law 164 = .ok (.ldc2_w 84, 3) := by decide +kernel
theorem dL_law_167 : decode cL_law 167 = .ok (.land, 1) := by decide +kernel
theorem dL_law_168 : decode cL_law 168 = .ok (.lor, 1) := by decide +kernel
theorem dL_law_169 : decode cL_law 169 = .ok (.aload_n 3, 1) := by decide +kernel
theorem dL_law_170 : decode cL_law 170 = .ok (.invokestatic 86, 3) := by decide +kernel
theorem dL_law_173 : decode cL_law 173 = .ok (.istore 5, 2) := by decide +kernel
theorem dL_law_175 : decode cL_law 175 = .ok (.aload_n 2, 1) := by decide +kernel
theorem dL_law_176 : decode cL_law 176 = .ok (.aload_n 0, 1) := by decide +kernel
theorem dL_law_177 : decode cL_law 177 = .ok (.iload 4, 2) := by decide +kernel
theorem dL_law_179 : decode cL_law 179 = .ok (.iconst 1, 1) := by decide +kernel
theorem dL_law_180 : decode cL_law 180 = .ok (.iadd, 1) := by decide +kernel
theorem dL_law_181 : decode cL_law 181 = .ok (.iaload, 1) := by decide +kernel
theorem dL_law_182 : decode cL_law 182 = .ok (.aload_n 0, 1) := by decide +kernel
theorem dL_law_183 : decode cL_law 183 = .ok (.iload 4, 2) := by decide +kernel
theorem dL_law_185 : decode cL_law 185 = .ok (.iconst 2, 1) := by decide +kernel
theorem dL_law_186 : decode cL_law 186 = .ok (.iadd, 1) := by decide +kernel
theorem dL_law_187 : decode cL_law 187 = .ok (.iaload, 1) := by decide +kernel
theorem dL_law_188 : decode cL_law 188 = .ok (.aload_n 0, 1) := by decide +kernel
theorem dL_law_189 : decode cL_law 189 = .ok (.iload 4, 2) := by decide +kernel
theorem dL_law_191 : decode cL_law 191 = .ok (.iconst 3, 1) := by decide +kernel
theorem dL_law_192 : decode cL_law 192 = .ok (.iadd, 1) := by decide +kernel
theorem dL_law_193 : decode cL_law 193 = .ok (.iaload, 1) := by decide +kernel
theorem dL_law_194 : decode cL_law 194 = .ok (.aload_n 0, 1) := by decide +kernel
theorem dL_law_195 : decode cL_law 195 = .ok (.iload 4, 2) := by decide +kernel
theorem dL_law_197 : decode cL_law 197 = .ok (.iconst 4, 1) := by decide +kernel
theorem dL_law_198 : decode cL_law 198 = .ok (.iadd, 1) := by decide +kernel
theorem dL_law_199 : decode cL_law 199 = .ok (.iaload, 1) := by decide +kernel
theorem dL_law_200 : decode cL_law 200 = .ok (.i2l, 1) := by decide +kernel
theorem dL_law_201 : decode cL_law 201 = .ok (.bipush 32, 2) := by decide +kernel
theorem dL_law_203 : decode cL_law 203 = .ok (.lshl, 1) := by decide +kernel
theorem dL_law_204 : decode cL_law 204 = .ok (.aload_n 0, 1) := by decide +kernel
theorem dL_law_205 : decode cL_law 205 = .ok (.iload 4, 2) := by decide +kernel
theorem dL_law_207 : decode cL_law 207 = .ok (.iconst 5, 1) := by decide +kernel
theorem dL_law_208 : decode cL_law 208 = .ok (.iadd, 1) := by decide +kernel
theorem dL_law_209 : decode cL_law 209 = .ok (.iaload, 1) := by decide +kernel
theorem dL_law_210 : decode cL_law 210 = .ok (.i2l, 1) := by decide +kernel
theorem dL_law_211 : decode cL_law 211 = .ok (.ldc2_w 84, 3) := by decide +kernel
theorem dL_law_214 : decode cL_law 214 = .ok (.land, 1) := by decide +kernel
theorem dL_law_215 : decode cL_law 215 = .ok (.lor, 1) := by decide +kernel
theorem dL_law_216 : decode cL_law 216 = .ok (.invokevirtual 91, 3) := by decide +kernel
theorem dL_law_219 : decode cL_law 219 = .ok (.lstore 6, 2) := by decide +kernel
theorem dL_law_221 : decode cL_law 221 = .ok (.aload_n 2, 1) := by decide +kernel
theorem dL_law_222 : decode cL_law 222 = .ok (.invokevirtual 92, 3) := by decide +kernel
theorem dL_law_225 : decode cL_law 225 = .ok (.iload 5, 2) := by decide +kernel
theorem dL_law_227 : decode cL_law 227 = .ok (.if_icmp .eq 5, 3) := by decide +kernel
theorem dL_law_230 : decode cL_law 230 = .ok (.iconst 0, 1) := by decide +kernel
theorem dL_law_231 : decode cL_law 231 = .ok (.ireturn, 1) := by decide +kernel
theorem dL_law_232 : decode cL_law 232 = .ok (.iload 5, 2) := by decide +kernel
theorem dL_law_234 : decode cL_law 234 = .ok (.ifCond .ne 14, 3) := by decide +kernel
theorem dL_law_237 : decode cL_law 237 = .ok (.aload_n 3, 1) := by decide +kernel
theorem dL_law_238 : decode cL_law 238 = .ok (.iconst 0, 1) := by decide +kernel
theorem dL_law_239 : decode cL_law 239 = .ok (.laload, 1) := by decide +kernel
theorem dL_law_240 : decode cL_law 240 = .ok (.lload 6, 2) := by decide +kernel
theorem dL_law_242 : decode cL_law 242 = .ok (.lcmp, 1) := by decide +kernel
theorem dL_law_243 : decode cL_law 243 = .ok (.ifCond .eq 5, 3) := by decide +kernel
theorem dL_law_246 : decode cL_law 246 = .ok (.iconst 0, 1) := by decide +kernel
theorem dL_law_247 : decode cL_law 247 = .ok (.ireturn, 1) := by decide +kernel
theorem dL_law_248 : decode cL_law 248 = .ok (.goto 1143, 3) := by decide +kernel
theorem dL_law_251 : decode cL_law 251 = .ok (.aload_n 1, 1) := by decide +kernel
theorem dL_law_252 : decode cL_law 252 = .ok (.aload_n 0, 1) := by decide +kernel
theorem dL_law_253 : decode cL_law 253 = .ok (.iload 4, 2) := by decide +kernel
theorem dL_law_255 : decode cL_law 255 = .ok (.iconst 1, 1) := by decide +kernel
theorem dL_law_256 : decode cL_law 256 = .ok (.iadd, 1) := by decide +kernel
theorem dL_law_257 : decode cL_law 257 = .ok (.iaload, 1) := by decide +kernel
theorem dL_law_258 : decode cL_law 258 = .ok (.aload_n 0, 1) := by decide +kernel
theorem dL_law_259 : decode cL_law 259 = .ok (.iload 4, 2) := by decide +kernel
theorem dL_law_261 : decode cL_law 261 = .ok (.iconst 2, 1) := by decide +kernel
theorem dL_law_262 : decode cL_law 262 = .ok (.iadd, 1) := by decide +kernel
theorem dL_law_263 : decode cL_law 263 = .ok (.iaload, 1) := by decide +kernel
theorem dL_law_264 : decode cL_law 264 = .ok (.aload_n 0, 1) := by decide +kernel
theorem dL_law_265 : decode cL_law 265 = .ok (.iload 4, 2) := by decide +kernel
theorem dL_law_267 : decode cL_law 267 = .ok (.iconst 3, 1) := by decide +kernel
theorem dL_law_268 : decode cL_law 268 = .ok (.iadd, 1) := by decide +kernel
theorem dL_law_269 : decode cL_law 269 = .ok (.iaload, 1) := by decide +kernel
theorem dL_law_270 : decode cL_law 270 = .ok (.i2l, 1) := by decide +kernel
theorem dL_law_271 : decode cL_law 271 = .ok (.bipush 32, 2) := by decide +kernel
theorem dL_law_273 : decode cL_law 273 = .ok (.lshl, 1) := by decide +kernel
theorem dL_law_274 : decode cL_law 274 = .ok (.aload_n 0, 1) := by decide +kernel
theorem dL_law_275 : decode cL_law 275 = .ok (.iload 4, 2) := by decide +kernel
theorem dL_law_277 : decode cL_law 277 = .ok (.iconst 4, 1) := by decide +kernel
theorem dL_law_278 : decode cL_law 278 = .ok (.iadd, 1) := by decide +kernel
theorem dL_law_279 : decode cL_law 279 = .ok (.iaload, 1) := by decide +kernel
theorem dL_law_280 : decode cL_law 280 = .ok (.i2l, 1) := by decide +kernel
theorem dL_law_281 : decode cL_law 281 = .ok (.ldc2_w 84, 3) := by decide +kernel
theorem dL_law_284 : decode cL_law 284 = .ok (.land, 1) := by decide +kernel
theorem dL_law_285 : decode cL_law 285 = .ok (.lor, 1) := by decide +kernel
theorem dL_law_286 : decode cL_law 286 = .ok (.aload_n 3, 1) := by decide +kernel
theorem dL_law_287 : decode cL_law 287 = .ok (.invokestatic 95, 3) := by decide +kernel
theorem dL_law_290 : decode cL_law 290 = .ok (.istore 5, 2) := by decide +kernel
theorem dL_law_292 : decode cL_law 292 = .ok (.aload_n 2, 1) := by decide +kernel
theorem dL_law_293 : decode cL_law 293 = .ok (.aload_n 0, 1) := by decide +kernel
theorem dL_law_294 : decode cL_law 294 = .ok (.iload 4, 2) := by decide +kernel
theorem dL_law_296 : decode cL_law 296 = .ok (.iconst 1, 1) := by decide +kernel
theorem dL_law_297 : decode cL_law 297 = .ok (.iadd, 1) := by decide +kernel
theorem dL_law_298 : decode cL_law 298 = .ok (.iaload, 1) := by decide +kernel
theorem dL_law_299 : decode cL_law 299 = .ok (.aload_n 0, 1) := by decide +kernel
theorem dL_law_300 : decode cL_law 300 = .ok (.iload 4, 2) := by decide +kernel
theorem dL_law_302 : decode cL_law 302 = .ok (.iconst 2, 1) := by decide +kernel
theorem dL_law_303 : decode cL_law 303 = .ok (.iadd, 1) := by decide +kernel
theorem dL_law_304 : decode cL_law 304 = .ok (.iaload, 1) := by decide +kernel
theorem dL_law_305 : decode cL_law 305 = .ok (.aload_n 0, 1) := by decide +kernel
theorem dL_law_306 : decode cL_law 306 = .ok (.iload 4, 2) := by decide +kernel
theorem dL_law_308 : decode cL_law 308 = .ok (.iconst 3, 1) := by decide +kernel
theorem dL_law_309 : decode cL_law 309 = .ok (.iadd, 1) := by decide +kernel
theorem dL_law_310 : decode cL_law 310 = .ok (.iaload, 1) := by decide +kernel
theorem dL_law_311 : decode cL_law 311 = .ok (.i2l, 1) := by decide +kernel
theorem dL_law_312 : decode cL_law 312 = .ok (.bipush 32, 2) := by decide +kernel
theorem dL_law_314 : decode cL_law 314 = .ok (.lshl, 1) := by decide +kernel
theorem dL_law_315 : decode cL_law 315 = .ok (.aload_n 0, 1) := by decide +kernel
theorem dL_law_316 : decode cL_law 316 = .ok (.iload 4, 2) := by decide +kernel
theorem dL_law_318 : decode cL_law 318 = .ok (.iconst 4, 1) := by decide +kernel
theorem dL_law_319 : decode cL_law 319 = .ok (.iadd, 1) := by decide +kernel
theorem dL_law_320 : decode cL_law 320 = .ok (.iaload, 1) := by decide +kernel
theorem dL_law_321 : decode cL_law 321 = .ok (.i2l, 1) := by decide +kernel
theorem dL_law_322 : decode cL_law 322 = .ok (.ldc2_w 84, 3) := by decide +kernel
theorem dL_law_325 : decode cL_law 325 = .ok (.land, 1) := by decide +kernel
theorem dL_law_326 : decode cL_law 326 = .ok (.lor, 1) := by decide +kernel
theorem dL_law_327 : decode cL_law 327 = .ok (.invokevirtual 98, 3) := by decide +kernel
theorem dL_law_330 : decode cL_law 330 = .ok (.lstore 6, 2) := by decide +kernel
theorem dL_law_332 : decode cL_law 332 = .ok (.aload_n 2, 1) := by decide +kernel
theorem dL_law_333 : decode cL_law 333 = .ok (.invokevirtual 92, 3) := by decide +kernel
theorem dL_law_336 : decode cL_law 336 = .ok (.iload 5, 2) := by decide +kernel
theorem dL_law_338 : decode cL_law 338 = .ok (.if_icmp .eq 5, 3) := by decide +kernel
theorem dL_law_341 : decode cL_law 341 = .ok (.iconst 0, 1) := by decide +kernel
theorem dL_law_342 : decode cL_law 342 = .ok (.ireturn, 1) := by decide +kernel
theorem dL_law_343 : decode cL_law 343 = .ok (.iload 5, 2) := by decide +kernel
theorem dL_law_345 : decode cL_law 345 = .ok (.ifCond .ne 14, 3) := by decide +kernel
theorem dL_law_348 : decode cL_law 348 = .ok (.aload_n 3, 1) := by decide +kernel
theorem dL_law_349 : decode cL_law 349 = .ok (.iconst 0, 1) := by decide +kernel
theorem dL_law_350 : decode cL_law 350 = .ok (.laload, 1) := by decide +kernel
theorem dL_law_351 : decode cL_law 351 = .ok (.lload 6, 2) := by decide +kernel
theorem dL_law_353 : decode cL_law 353 = .ok (.lcmp, 1) := by decide +kernel
theorem dL_law_354 : decode cL_law 354 = .ok (.ifCond .eq 5, 3) := by decide +kernel
theorem dL_law_357 : decode cL_law 357 = .ok (.iconst 0, 1) := by decide +kernel
theorem dL_law_358 : decode cL_law 358 = .ok (.ireturn, 1) := by decide +kernel
theorem dL_law_359 : decode cL_law 359 = .ok (.goto 1032, 3) := by decide +kernel
theorem dL_law_362 : decode cL_law 362 = .ok (.aload_n 1, 1) := by decide +kernel
theorem dL_law_363 : decode cL_law 363 = .ok (.aload_n 0, 1) := by decide +kernel
theorem dL_law_364 : decode cL_law 364 = .ok (.iload 4, 2) := by decide +kernel
theorem dL_law_366 : decode cL_law 366 = .ok (.iconst 1, 1) := by decide +kernel
theorem dL_law_367 : decode cL_law 367 = .ok (.iadd, 1) := by decide +kernel
theorem dL_law_368 : decode cL_law 368 = .ok (.iaload, 1) := by decide +kernel
theorem dL_law_369 : decode cL_law 369 = .ok (.aload_n 0, 1) := by decide +kernel
theorem dL_law_370 : decode cL_law 370 = .ok (.iload 4, 2) := by decide +kernel
theorem dL_law_372 : decode cL_law 372 = .ok (.iconst 2, 1) := by decide +kernel
theorem dL_law_373 : decode cL_law 373 = .ok (.iadd, 1) := by decide +kernel
theorem dL_law_374 : decode cL_law 374 = .ok (.iaload, 1) := by decide +kernel
theorem dL_law_375 : decode cL_law 375 = .ok (.aload_n 3, 1) := by decide +kernel
theorem dL_law_376 : decode cL_law 376 = .ok (.invokestatic 99, 3) := by decide +kernel
theorem dL_law_379 : decode cL_law 379 = .ok (.istore 5, 2) := by decide +kernel
theorem dL_law_381 : decode cL_law 381 = .ok (.aload_n 2, 1) := by decide +kernel
theorem dL_law_382 : decode cL_law 382 = .ok (.aload_n 0, 1) := by decide +kernel
theorem dL_law_383 : decode cL_law 383 = .ok (.iload 4, 2) := by decide +kernel
theorem dL_law_385 : decode cL_law 385 = .ok (.iconst 1, 1) := by decide +kernel
theorem dL_law_386 : decode cL_law 386 = .ok (.iadd, 1) := by decide +kernel
theorem dL_law_387 : decode cL_law 387 = .ok (.iaload, 1) := by decide +kernel
theorem dL_law_388 : decode cL_law 388 = .ok (.aload_n 0, 1) := by decide +kernel
theorem dL_law_389 : decode cL_law 389 = .ok (.iload 4, 2) := by decide +kernel
theorem dL_law_391 : decode cL_law 391 = .ok (.iconst 2, 1) := by decide +kernel
theorem dL_law_392 : decode cL_law 392 = .ok (.iadd, 1) := by decide +kernel
theorem dL_law_393 : decode cL_law 393 = .ok (.iaload, 1) := by decide +kernel
theorem dL_law_394 : decode cL_law 394 = .ok (.invokevirtual 102, 3) := by decide +kernel
theorem dL_law_397 : decode cL_law 397 = .ok (.lstore 6, 2) := by decide +kernel
theorem dL_law_399 : decode cL_law 399 = .ok (.aload_n 2, 1) := by decide +kernel
theorem dL_law_400 : decode cL_law 400 = .ok (.invokevirtual 92, 3) := by decide +kernel
theorem dL_law_403 : decode cL_law 403 = .ok (.iload 5, 2) := by decide +kernel
theorem dL_law_405 : decode cL_law 405 = .ok (.if_icmp .eq 5, 3) := by decide +kernel
theorem dL_law_408 : decode cL_law 408 = .ok (.iconst 0, 1) := by decide +kernel
theorem dL_law_409 : decode cL_law 409 = .ok (.ireturn, 1) := by decide +kernel
theorem dL_law_410 : decode cL_law 410 = .ok (.iload 5, 2) := by decide +kernel
theorem dL_law_412 : decode cL_law 412 = .ok (.ifCond .ne 14, 3) := by decide +kernel
theorem dL_law_415 : decode cL_law 415 = .ok (.aload_n 3, 1) := by decide +kernel
theorem dL_law_416 : decode cL_law 416 = .ok (.iconst 0, 1) := by decide +kernel
theorem dL_law_417 : decode cL_law 417 = .ok (.laload, 1) := by decide +kernel
theorem dL_law_418 : decode cL_law 418 = .ok (.lload 6, 2) := by decide +kernel
theorem dL_law_420 : decode cL_law 420 = .ok (.lcmp, 1) := by decide +kernel
theorem dL_law_421 : decode cL_law 421 = .ok (.ifCond .eq 5, 3) := by decide +kernel
theorem dL_law_424 : decode cL_law 424 = .ok (.iconst 0, 1) := by decide +kernel
theorem dL_law_425 : decode cL_law 425 = .ok (.ireturn, 1) := by decide +kernel
theorem dL_law_426 : decode cL_law 426 = .ok (.goto 965, 3) := by decide +kernel
theorem dL_law_429 : decode cL_law 429 = .ok (.aload_n 1, 1) := by decide +kernel
theorem dL_law_430 : decode cL_law 430 = .ok (.aload_n 0, 1) := by decide +kernel
theorem dL_law_431 : decode cL_law 431 = .ok (.iload 4, 2) := by decide +kernel
theorem dL_law_433 : decode cL_law 433 = .ok (.iconst 1, 1) := by decide +kernel
theorem dL_law_434 : decode cL_law 434 = .ok (.iadd, 1) := by decide +kernel
theorem dL_law_435 : decode cL_law 435 = .ok (.iaload, 1) := by decide +kernel
theorem dL_law_436 : decode cL_law 436 = .ok (.aload_n 0, 1) := by decide +kernel
theorem dL_law_437 : decode cL_law 437 = .ok (.iload 4, 2) := by decide +kernel
theorem dL_law_439 : decode cL_law 439 = .ok (.iconst 2, 1) := by decide +kernel
theorem dL_law_440 : decode cL_law 440 = .ok (.iadd, 1) := by decide +kernel
theorem dL_law_441 : decode cL_law 441 = .ok (.iaload, 1) := by decide +kernel
theorem dL_law_442 : decode cL_law 442 = .ok (.aload_n 3, 1) := by decide +kernel
theorem dL_law_443 : decode cL_law 443 = .ok (.invokestatic 103, 3) := by decide +kernel
theorem dL_law_446 : decode cL_law 446 = .ok (.istore 5, 2) := by decide +kernel
theorem dL_law_448 : decode cL_law 448 = .ok (.aload_n 2, 1) := by decide +kernel
theorem dL_law_449 : decode cL_law 449 = .ok (.aload_n 0, 1) := by decide +kernel
theorem dL_law_450 : decode cL_law 450 = .ok (.iload 4, 2) := by decide +kernel
theorem dL_law_452 : decode cL_law 452 = .ok (.iconst 1, 1) := by decide +kernel
theorem dL_law_453 : decode cL_law 453 = .ok (.iadd, 1) := by decide +kernel
theorem dL_law_454 : decode cL_law 454 = .ok (.iaload, 1) := by decide +kernel
theorem dL_law_455 : decode cL_law 455 = .ok (.aload_n 0, 1) := by decide +kernel
theorem dL_law_456 : decode cL_law 456 = .ok (.iload 4, 2) := by decide +kernel
theorem dL_law_458 : decode cL_law 458 = .ok (.iconst 2, 1) := by decide +kernel
theorem dL_law_459 : decode cL_law 459 = .ok (.iadd, 1) := by decide +kernel
theorem dL_law_460 : decode cL_law 460 = .ok (.iaload, 1) := by decide +kernel
theorem dL_law_461 : decode cL_law 461 = .ok (.invokevirtual 105, 3) := by decide +kernel
theorem dL_law_464 : decode cL_law 464 = .ok (.lstore 6, 2) := by decide +kernel
theorem dL_law_466 : decode cL_law 466 = .ok (.aload_n 2, 1) := by decide +kernel
theorem dL_law_467 : decode cL_law 467 = .ok (.invokevirtual 92, 3) := by decide +kernel
theorem dL_law_470 : decode cL_law 470 = .ok (.iload 5, 2) := by decide +kernel
theorem dL_law_472 : decode cL_law 472 = .ok (.if_icmp .eq 5, 3) := by decide +kernel
theorem dL_law_475 : decode cL_law 475 = .ok (.iconst 0, 1) := by decide +kernel
theorem dL_law_476 : decode cL_law 476 = .ok (.ireturn, 1) := by decide +kernel
theorem dL_law_477 : decode cL_law 477 = .ok (.iload 5, 2) := by decide +kernel
theorem dL_law_479 : decode cL_law 479 = .ok (.ifCond .ne 14, 3) := by decide +kernel
theorem dL_law_482 : decode cL_law 482 = .ok (.aload_n 3, 1) := by decide +kernel
theorem dL_law_483 : decode cL_law 483 = .ok (.iconst 0, 1) := by decide +kernel
theorem dL_law_484 : decode cL_law 484 = .ok (.laload, 1) := by decide +kernel
theorem dL_law_485 : decode cL_law 485 = .ok (.lload 6, 2) := by decide +kernel
theorem dL_law_487 : decode cL_law 487 = .ok (.lcmp, 1) := by decide +kernel
theorem dL_law_488 : decode cL_law 488 = .ok (.ifCond .eq 5, 3) := by decide +kernel
theorem dL_law_491 : decode cL_law 491 = .ok (.iconst 0, 1) := by decide +kernel
theorem dL_law_492 : decode cL_law 492 = .ok (.ireturn, 1) := by decide +kernel
theorem dL_law_493 : decode cL_law 493 = .ok (.goto 898, 3) := by decide +kernel
theorem dL_law_496 : decode cL_law 496 = .ok (.aload_n 1, 1) := by decide +kernel
theorem dL_law_497 : decode cL_law 497 = .ok (.aload_n 0, 1) := by decide +kernel
theorem dL_law_498 : decode cL_law 498 = .ok (.iload 4, 2) := by decide +kernel
theorem dL_law_500 : decode cL_law 500 = .ok (.iconst 1, 1) := by decide +kernel
theorem dL_law_501 : decode cL_law 501 = .ok (.iadd, 1) := by decide +kernel
theorem dL_law_502 : decode cL_law 502 = .ok (.iaload, 1) := by decide +kernel
theorem dL_law_503 : decode cL_law 503 = .ok (.aload_n 0, 1) := by decide +kernel
theorem dL_law_504 : decode cL_law 504 = .ok (.iload 4, 2) := by decide +kernel
theorem dL_law_506 : decode cL_law 506 = .ok (.iconst 2, 1) := by decide +kernel
theorem dL_law_507 : decode cL_law 507 = .ok (.iadd, 1) := by decide +kernel
theorem dL_law_508 : decode cL_law 508 = .ok (.iaload, 1) := by decide +kernel
theorem dL_law_509 : decode cL_law 509 = .ok (.aload_n 3, 1) := by decide +kernel
theorem dL_law_510 : decode cL_law 510 = .ok (.invokestatic 106, 3) := by decide +kernel
theorem dL_law_513 : decode cL_law 513 = .ok (.istore 5, 2) := by decide +kernel
theorem dL_law_515 : decode cL_law 515 = .ok (.aload_n 2, 1) := by decide +kernel
theorem dL_law_516 : decode cL_law 516 = .ok (.aload_n 0, 1) := by decide +kernel
theorem dL_law_517 : decode cL_law 517 = .ok (.iload 4, 2) := by decide +kernel
theorem dL_law_519 : decode cL_law 519 = .ok (.iconst 1, 1) := by decide +kernel
theorem dL_law_520 : decode cL_law 520 = .ok (.iadd, 1) := by decide +kernel
theorem dL_law_521 : decode cL_law 521 = .ok (.iaload, 1) := by decide +kernel
theorem dL_law_522 : decode cL_law 522 = .ok (.aload_n 0, 1) := by decide +kernel
theorem dL_law_523 : decode cL_law 523 = .ok (.iload 4, 2) := by decide +kernel
theorem dL_law_525 : decode cL_law 525 = .ok (.iconst 2, 1) := by decide +kernel
theorem dL_law_526 : decode cL_law 526 = .ok (.iadd, 1) := by decide +kernel
theorem dL_law_527 : decode cL_law 527 = .ok (.iaload, 1) := by decide +kernel
theorem dL_law_528 : decode cL_law 528 = .ok (.invokevirtual 108, 3) := by decide +kernel
theorem dL_law_531 : decode cL_law 531 = .ok (.lstore 6, 2) := by decide +kernel
theorem dL_law_533 : decode cL_law 533 = .ok (.aload_n 2, 1) := by decide +kernel
theorem dL_law_534 : decode cL_law 534 = .ok (.invokevirtual 92, 3) := by decide +kernel
theorem dL_law_537 : decode cL_law 537 = .ok (.iload 5, 2) := by decide +kernel
theorem dL_law_539 : decode cL_law 539 = .ok (.if_icmp .eq 5, 3) := by decide +kernel
theorem dL_law_542 : decode cL_law 542 = .ok (.iconst 0, 1) := by decide +kernel
theorem dL_law_543 : decode cL_law 543 = .ok (.ireturn, 1) := by decide +kernel
theorem dL_law_544 : decode cL_law 544 = .ok (.iload 5, 2) := by decide +kernel
theorem dL_law_546 : decode cL_law 546 = .ok (.ifCond .ne 14, 3) := by decide +kernel
theorem dL_law_549 : decode cL_law 549 = .ok (.aload_n 3, 1) := by decide +kernel
theorem dL_law_550 : decode cL_law 550 = .ok (.iconst 0, 1) := by decide +kernel
theorem dL_law_551 : decode cL_law 551 = .ok (.laload, 1) := by decide +kernel
theorem dL_law_552 : decode cL_law 552 = .ok (.lload 6, 2) := by decide +kernel
theorem dL_law_554 : decode cL_law 554 = .ok (.lcmp, 1) := by decide +kernel
theorem dL_law_555 : decode cL_law 555 = .ok (.ifCond .eq 5, 3) := by decide +kernel
theorem dL_law_558 : decode cL_law 558 = .ok (.iconst 0, 1) := by decide +kernel
theorem dL_law_559 : decode cL_law 559 = .ok (.ireturn, 1) := by decide +kernel
theorem dL_law_560 : decode cL_law 560 = .ok (.goto 831, 3) := by decide +kernel
theorem dL_law_563 : decode cL_law 563 = .ok (.aload_n 1, 1) := by decide +kernel
theorem dL_law_564 : decode cL_law 564 = .ok (.aload_n 0, 1) := by decide +kernel
theorem dL_law_565 : decode cL_law 565 = .ok (.iload 4, 2) := by decide +kernel
theorem dL_law_567 : decode cL_law 567 = .ok (.iconst 1, 1) := by decide +kernel
theorem dL_law_568 : decode cL_law 568 = .ok (.iadd, 1) := by decide +kernel
theorem dL_law_569 : decode cL_law 569 = .ok (.iaload, 1) := by decide +kernel
theorem dL_law_570 : decode cL_law 570 = .ok (.aload_n 0, 1) := by decide +kernel
theorem dL_law_571 : decode cL_law 571 = .ok (.iload 4, 2) := by decide +kernel
theorem dL_law_573 : decode cL_law 573 = .ok (.iconst 2, 1) := by decide +kernel
theorem dL_law_574 : decode cL_law 574 = .ok (.iadd, 1) := by decide +kernel
theorem dL_law_575 : decode cL_law 575 = .ok (.iaload, 1) := by decide +kernel
theorem dL_law_576 : decode cL_law 576 = .ok (.aload_n 3, 1) := by decide +kernel
theorem dL_law_577 : decode cL_law 577 = .ok (.invokestatic 109, 3) := by decide +kernel
theorem dL_law_580 : decode cL_law 580 = .ok (.istore 5, 2) := by decide +kernel
theorem dL_law_582 : decode cL_law 582 = .ok (.aload_n 2, 1) := by decide +kernel
theorem dL_law_583 : decode cL_law 583 = .ok (.aload_n 0, 1) := by decide +kernel
theorem dL_law_584 : decode cL_law 584 = .ok (.iload 4, 2) := by decide +kernel
theorem dL_law_586 : decode cL_law 586 = .ok (.iconst 1, 1) := by decide +kernel
theorem dL_law_587 : decode cL_law 587 = .ok (.iadd, 1) := by decide +kernel
theorem dL_law_588 : decode cL_law 588 = .ok (.iaload, 1) := by decide +kernel
theorem dL_law_589 : decode cL_law 589 = .ok (.aload_n 0, 1) := by decide +kernel
theorem dL_law_590 : decode cL_law 590 = .ok (.iload 4, 2) := by decide +kernel
theorem dL_law_592 : decode cL_law 592 = .ok (.iconst 2, 1) := by decide +kernel
theorem dL_law_593 : decode cL_law 593 = .ok (.iadd, 1) := by decide +kernel
theorem dL_law_594 : decode cL_law 594 = .ok (.iaload, 1) := by decide +kernel
theorem dL_law_595 : decode cL_law 595 = .ok (.invokevirtual 111, 3) := by decide +kernel
theorem dL_law_598 : decode cL_law 598 = .ok (.istore 6, 2) := by decide +kernel
theorem dL_law_600 : decode cL_law 600 = .ok (.aload_n 2, 1) := by decide +kernel
theorem dL_law_601 : decode cL_law 601 = .ok (.invokevirtual 92, 3) := by decide +kernel
theorem dL_law_604 : decode cL_law 604 = .ok (.iload 5, 2) := by decide +kernel
theorem dL_law_606 : decode cL_law 606 = .ok (.if_icmp .eq 5, 3) := by decide +kernel
theorem dL_law_609 : decode cL_law 609 = .ok (.iconst 0, 1) := by decide +kernel
theorem dL_law_610 : decode cL_law 610 = .ok (.ireturn, 1) := by decide +kernel
theorem dL_law_611 : decode cL_law 611 = .ok (.iload 5, 2) := by decide +kernel
theorem dL_law_613 : decode cL_law 613 = .ok (.ifCond .ne 15, 3) := by decide +kernel
theorem dL_law_616 : decode cL_law 616 = .ok (.aload_n 3, 1) := by decide +kernel
theorem dL_law_617 : decode cL_law 617 = .ok (.iconst 0, 1) := by decide +kernel
theorem dL_law_618 : decode cL_law 618 = .ok (.laload, 1) := by decide +kernel
theorem dL_law_619 : decode cL_law 619 = .ok (.iload 6, 2) := by decide +kernel
theorem dL_law_621 : decode cL_law 621 = .ok (.i2l, 1) := by decide +kernel
theorem dL_law_622 : decode cL_law 622 = .ok (.lcmp, 1) := by decide +kernel
theorem dL_law_623 : decode cL_law 623 = .ok (.ifCond .eq 5, 3) := by decide +kernel
theorem dL_law_626 : decode cL_law 626 = .ok (.iconst 0, 1) := by decide +kernel
theorem dL_law_627 : decode cL_law 627 = .ok (.ireturn, 1) := by decide +kernel
theorem dL_law_628 : decode cL_law 628 = .ok (.goto 763, 3) := by decide +kernel
theorem dL_law_631 : decode cL_law 631 = .ok (.aload_n 1, 1) := by decide +kernel
theorem dL_law_632 : decode cL_law 632 = .ok (.aload_n 0, 1) := by decide +kernel
theorem dL_law_633 : decode cL_law 633 = .ok (.iload 4, 2) := by decide +kernel
theorem dL_law_635 : decode cL_law 635 = .ok (.iconst 1, 1) := by decide +kernel
theorem dL_law_636 : decode cL_law 636 = .ok (.iadd, 1) := by decide +kernel
theorem dL_law_637 : decode cL_law 637 = .ok (.iaload, 1) := by decide +kernel
theorem dL_law_638 : decode cL_law 638 = .ok (.aload_n 3, 1) := by decide +kernel
theorem dL_law_639 : decode cL_law 639 = .ok (.invokestatic 112, 3) := by decide +kernel
theorem dL_law_642 : decode cL_law 642 = .ok (.istore 5, 2) := by decide +kernel
theorem dL_law_644 : decode cL_law 644 = .ok (.aload_n 2, 1) := by decide +kernel
theorem dL_law_645 : decode cL_law 645 = .ok (.aload_n 0, 1) := by decide +kernel
theorem dL_law_646 : decode cL_law 646 = .ok (.iload 4, 2) := by decide +kernel
theorem dL_law_648 : decode cL_law 648 = .ok (.iconst 1, 1) := by decide +kernel
theorem dL_law_649 : decode cL_law 649 = .ok (.iadd, 1) := by decide +kernel
theorem dL_law_650 : decode cL_law 650 = .ok (.iaload, 1) := by decide +kernel
theorem dL_law_651 : decode cL_law 651 = .ok (.invokevirtual 115, 3) := by decide +kernel
theorem dL_law_654 : decode cL_law 654 = .ok (.istore 6, 2) := by decide +kernel
theorem dL_law_656 : decode cL_law 656 = .ok (.aload_n 2, 1) := by decide +kernel
theorem dL_law_657 : decode cL_law 657 = .ok (.invokevirtual 92, 3) := by decide +kernel
theorem dL_law_660 : decode cL_law 660 = .ok (.iload 5, 2) := by decide +kernel
theorem dL_law_662 : decode cL_law 662 = .ok (.if_icmp .eq 5, 3) := by decide +kernel
theorem dL_law_665 : decode cL_law 665 = .ok (.iconst 0, 1) := by decide +kernel
theorem dL_law_666 : decode cL_law 666 = .ok (.ireturn, 1) := by decide +kernel
theorem dL_law_667 : decode cL_law 667 = .ok (.iload 5, 2) := by decide +kernel
theorem dL_law_669 : decode cL_law 669 = .ok (.ifCond .ne 15, 3) := by decide +kernel
theorem dL_law_672 : decode cL_law 672 = .ok (.aload_n 3, 1) := by decide +kernel
theorem dL_law_673 : decode cL_law 673 = .ok (.iconst 0, 1) := by decide +kernel
theorem dL_law_674 : decode cL_law 674 = .ok (.laload, 1) := by decide +kernel
theorem dL_law_675 : decode cL_law 675 = .ok (.iload 6, 2) := by decide +kernel
theorem dL_law_677 : decode cL_law 677 = .ok (.i2l, 1) := by decide +kernel
theorem dL_law_678 : decode cL_law 678 = .ok (.lcmp, 1) := by decide +kernel
theorem dL_law_679 : decode cL_law 679 = .ok (.ifCond .eq 5, 3) := by decide +kernel
theorem dL_law_682 : decode cL_law 682 = .ok (.iconst 0, 1) := by decide +kernel
theorem dL_law_683 : decode cL_law 683 = .ok (.ireturn, 1) := by decide +kernel
theorem dL_law_684 : decode cL_law 684 = .ok (.goto 707, 3) := by decide +kernel
theorem dL_law_687 : decode cL_law 687 = .ok (.aload_n 1, 1) := by decide +kernel
theorem dL_law_688 : decode cL_law 688 = .ok (.aload_n 0, 1) := by decide +kernel
theorem dL_law_689 : decode cL_law 689 = .ok (.iload 4, 2) := by decide +kernel
theorem dL_law_691 : decode cL_law 691 = .ok (.iconst 1, 1) := by decide +kernel
theorem dL_law_692 : decode cL_law 692 = .ok (.iadd, 1) := by decide +kernel
theorem dL_law_693 : decode cL_law 693 = .ok (.iaload, 1) := by decide +kernel
theorem dL_law_694 : decode cL_law 694 = .ok (.aload_n 0, 1) := by decide +kernel
theorem dL_law_695 : decode cL_law 695 = .ok (.iload 4, 2) := by decide +kernel
theorem dL_law_697 : decode cL_law 697 = .ok (.iconst 2, 1) := by decide +kernel
theorem dL_law_698 : decode cL_law 698 = .ok (.iadd, 1) := by decide +kernel
theorem dL_law_699 : decode cL_law 699 = .ok (.iaload, 1) := by decide +kernel
theorem dL_law_700 : decode cL_law 700 = .ok (.aload_n 3, 1) := by decide +kernel
theorem dL_law_701 : decode cL_law 701 = .ok (.invokestatic 116, 3) := by decide +kernel
theorem dL_law_704 : decode cL_law 704 = .ok (.istore 5, 2) := by decide +kernel
theorem dL_law_706 : decode cL_law 706 = .ok (.aload_n 2, 1) := by decide +kernel
theorem dL_law_707 : decode cL_law 707 = .ok (.aload_n 0, 1) := by decide +kernel
theorem dL_law_708 : decode cL_law 708 = .ok (.iload 4, 2) := by decide +kernel
theorem dL_law_710 : decode cL_law 710 = .ok (.iconst 1, 1) := by decide +kernel
theorem dL_law_711 : decode cL_law 711 = .ok (.iadd, 1) := by decide +kernel
theorem dL_law_712 : decode cL_law 712 = .ok (.iaload, 1) := by decide +kernel
theorem dL_law_713 : decode cL_law 713 = .ok (.aload_n 0, 1) := by decide +kernel
theorem dL_law_714 : decode cL_law 714 = .ok (.iload 4, 2) := by decide +kernel
theorem dL_law_716 : decode cL_law 716 = .ok (.iconst 2, 1) := by decide +kernel
theorem dL_law_717 : decode cL_law 717 = .ok (.iadd, 1) := by decide +kernel
theorem dL_law_718 : decode cL_law 718 = .ok (.iaload, 1) := by decide +kernel
theorem dL_law_719 : decode cL_law 719 = .ok (.invokevirtual 118, 3) := by decide +kernel
theorem dL_law_722 : decode cL_law 722 = .ok (.istore 6, 2) := by decide +kernel
theorem dL_law_724 : decode cL_law 724 = .ok (.aload_n 2, 1) := by decide +kernel
theorem dL_law_725 : decode cL_law 725 = .ok (.invokevirtual 92, 3) := by decide +kernel
theorem dL_law_728 : decode cL_law 728 = .ok (.iload 5, 2) := by decide +kernel
theorem dL_law_730 : decode cL_law 730 = .ok (.if_icmp .eq 5, 3) := by decide +kernel
theorem dL_law_733 : decode cL_law 733 = .ok (.iconst 0, 1) := by decide +kernel
theorem dL_law_734 : decode cL_law 734 = .ok (.ireturn, 1) := by decide +kernel
theorem dL_law_735 : decode cL_law 735 = .ok (.iload 5, 2) := by decide +kernel
theorem dL_law_737 : decode cL_law 737 = .ok (.ifCond .ne 15, 3) := by decide +kernel
theorem dL_law_740 : decode cL_law 740 = .ok (.aload_n 3, 1) := by decide +kernel
theorem dL_law_741 : decode cL_law 741 = .ok (.iconst 0, 1) := by decide +kernel
theorem dL_law_742 : decode cL_law 742 = .ok (.laload, 1) := by decide +kernel
theorem dL_law_743 : decode cL_law 743 = .ok (.iload 6, 2) := by decide +kernel
theorem dL_law_745 : decode cL_law 745 = .ok (.i2l, 1) := by decide +kernel
theorem dL_law_746 : decode cL_law 746 = .ok (.lcmp, 1) := by decide +kernel
theorem dL_law_747 : decode cL_law 747 = .ok (.ifCond .eq 5, 3) := by decide +kernel
theorem dL_law_750 : decode cL_law 750 = .ok (.iconst 0, 1) := by decide +kernel
theorem dL_law_751 : decode cL_law 751 = .ok (.ireturn, 1) := by decide +kernel
theorem dL_law_752 : decode cL_law 752 = .ok (.goto 639, 3) := by decide +kernel
theorem dL_law_755 : decode cL_law 755 = .ok (.aload_n 1, 1) := by decide +kernel
theorem dL_law_756 : decode cL_law 756 = .ok (.aload_n 0, 1) := by decide +kernel
theorem dL_law_757 : decode cL_law 757 = .ok (.iload 4, 2) := by decide +kernel
theorem dL_law_759 : decode cL_law 759 = .ok (.iconst 1, 1) := by decide +kernel
theorem dL_law_760 : decode cL_law 760 = .ok (.iadd, 1) := by decide +kernel
theorem dL_law_761 : decode cL_law 761 = .ok (.iaload, 1) := by decide +kernel
theorem dL_law_762 : decode cL_law 762 = .ok (.aload_n 3, 1) := by decide +kernel
theorem dL_law_763 : decode cL_law 763 = .ok (.invokestatic 119, 3) := by decide +kernel
theorem dL_law_766 : decode cL_law 766 = .ok (.istore 5, 2) := by decide +kernel
theorem dL_law_768 : decode cL_law 768 = .ok (.aload_n 2, 1) := by decide +kernel
theorem dL_law_769 : decode cL_law 769 = .ok (.aload_n 0, 1) := by decide +kernel
theorem dL_law_770 : decode cL_law 770 = .ok (.iload 4, 2) := by decide +kernel
theorem dL_law_772 : decode cL_law 772 = .ok (.iconst 1, 1) := by decide +kernel
theorem dL_law_773 : decode cL_law 773 = .ok (.iadd, 1) := by decide +kernel
theorem dL_law_774 : decode cL_law 774 = .ok (.iaload, 1) := by decide +kernel
theorem dL_law_775 : decode cL_law 775 = .ok (.invokevirtual 121, 3) := by decide +kernel
theorem dL_law_778 : decode cL_law 778 = .ok (.lstore 6, 2) := by decide +kernel
theorem dL_law_780 : decode cL_law 780 = .ok (.aload_n 2, 1) := by decide +kernel
theorem dL_law_781 : decode cL_law 781 = .ok (.invokevirtual 92, 3) := by decide +kernel
theorem dL_law_784 : decode cL_law 784 = .ok (.iload 5, 2) := by decide +kernel
theorem dL_law_786 : decode cL_law 786 = .ok (.if_icmp .eq 5, 3) := by decide +kernel
theorem dL_law_789 : decode cL_law 789 = .ok (.iconst 0, 1) := by decide +kernel
theorem dL_law_790 : decode cL_law 790 = .ok (.ireturn, 1) := by decide +kernel
theorem dL_law_791 : decode cL_law 791 = .ok (.iload 5, 2) := by decide +kernel
theorem dL_law_793 : decode cL_law 793 = .ok (.ifCond .ne 14, 3) := by decide +kernel
theorem dL_law_796 : decode cL_law 796 = .ok (.aload_n 3, 1) := by decide +kernel
theorem dL_law_797 : decode cL_law 797 = .ok (.iconst 0, 1) := by decide +kernel
theorem dL_law_798 : decode cL_law 798 = .ok (.laload, 1) := by decide +kernel
theorem dL_law_799 : decode cL_law 799 = .ok (.lload 6, 2) := by decide +kernel
theorem dL_law_801 : decode cL_law 801 = .ok (.lcmp, 1) := by decide +kernel
theorem dL_law_802 : decode cL_law 802 = .ok (.ifCond .eq 5, 3) := by decide +kernel
theorem dL_law_805 : decode cL_law 805 = .ok (.iconst 0, 1) := by decide +kernel
theorem dL_law_806 : decode cL_law 806 = .ok (.ireturn, 1) := by decide +kernel
theorem dL_law_807 : decode cL_law 807 = .ok (.goto 584, 3) := by decide +kernel
theorem dL_law_810 : decode cL_law 810 = .ok (.aload_n 1, 1) := by decide +kernel
theorem dL_law_811 : decode cL_law 811 = .ok (.aload_n 0, 1) := by decide +kernel
theorem dL_law_812 : decode cL_law 812 = .ok (.iload 4, 2) := by decide +kernel
theorem dL_law_814 : decode cL_law 814 = .ok (.iconst 1, 1) := by decide +kernel
theorem dL_law_815 : decode cL_law 815 = .ok (.iadd, 1) := by decide +kernel
theorem dL_law_816 : decode cL_law 816 = .ok (.iaload, 1) := by decide +kernel
theorem dL_law_817 : decode cL_law 817 = .ok (.aload_n 0, 1) := by decide +kernel
theorem dL_law_818 : decode cL_law 818 = .ok (.iload 4, 2) := by decide +kernel
theorem dL_law_820 : decode cL_law 820 = .ok (.iconst 2, 1) := by decide +kernel
theorem dL_law_821 : decode cL_law 821 = .ok (.iadd, 1) := by decide +kernel
theorem dL_law_822 : decode cL_law 822 = .ok (.iaload, 1) := by decide +kernel
theorem dL_law_823 : decode cL_law 823 = .ok (.aload_n 0, 1) := by decide +kernel
theorem dL_law_824 : decode cL_law 824 = .ok (.iload 4, 2) := by decide +kernel
theorem dL_law_826 : decode cL_law 826 = .ok (.iconst 3, 1) := by decide +kernel
theorem dL_law_827 : decode cL_law 827 = .ok (.iadd, 1) := by decide +kernel
theorem dL_law_828 : decode cL_law 828 = .ok (.iaload, 1) := by decide +kernel
theorem dL_law_829 : decode cL_law 829 = .ok (.aload_n 3, 1) := by decide +kernel
theorem dL_law_830 : decode cL_law 830 = .ok (.invokestatic 122, 3) := by decide +kernel
theorem dL_law_833 : decode cL_law 833 = .ok (.istore 5, 2) := by decide +kernel
theorem dL_law_835 : decode cL_law 835 = .ok (.aload_n 2, 1) := by decide +kernel
theorem dL_law_836 : decode cL_law 836 = .ok (.aload_n 0, 1) := by decide +kernel
theorem dL_law_837 : decode cL_law 837 = .ok (.iload 4, 2) := by decide +kernel
theorem dL_law_839 : decode cL_law 839 = .ok (.iconst 1, 1) := by decide +kernel
theorem dL_law_840 : decode cL_law 840 = .ok (.iadd, 1) := by decide +kernel
theorem dL_law_841 : decode cL_law 841 = .ok (.iaload, 1) := by decide +kernel
theorem dL_law_842 : decode cL_law 842 = .ok (.aload_n 0, 1) := by decide +kernel
theorem dL_law_843 : decode cL_law 843 = .ok (.iload 4, 2) := by decide +kernel
theorem dL_law_845 : decode cL_law 845 = .ok (.iconst 2, 1) := by decide +kernel
theorem dL_law_846 : decode cL_law 846 = .ok (.iadd, 1) := by decide +kernel
theorem dL_law_847 : decode cL_law 847 = .ok (.iaload, 1) := by decide +kernel
theorem dL_law_848 : decode cL_law 848 = .ok (.aload_n 0, 1) := by decide +kernel
theorem dL_law_849 : decode cL_law 849 = .ok (.iload 4, 2) := by decide +kernel
theorem dL_law_851 : decode cL_law 851 = .ok (.iconst 3, 1) := by decide +kernel
theorem dL_law_852 : decode cL_law 852 = .ok (.iadd, 1) := by decide +kernel
theorem dL_law_853 : decode cL_law 853 = .ok (.iaload, 1) := by decide +kernel
theorem dL_law_854 : decode cL_law 854 = .ok (.invokevirtual 125, 3) := by decide +kernel
theorem dL_law_857 : decode cL_law 857 = .ok (.lstore 6, 2) := by decide +kernel
theorem dL_law_859 : decode cL_law 859 = .ok (.aload_n 2, 1) := by decide +kernel
theorem dL_law_860 : decode cL_law 860 = .ok (.invokevirtual 92, 3) := by decide +kernel
theorem dL_law_863 : decode cL_law 863 = .ok (.iload 5, 2) := by decide +kernel
theorem dL_law_865 : decode cL_law 865 = .ok (.if_icmp .eq 5, 3) := by decide +kernel
theorem dL_law_868 : decode cL_law 868 = .ok (.iconst 0, 1) := by decide +kernel
theorem dL_law_869 : decode cL_law 869 = .ok (.ireturn, 1) := by decide +kernel
theorem dL_law_870 : decode cL_law 870 = .ok (.iload 5, 2) := by decide +kernel
theorem dL_law_872 : decode cL_law 872 = .ok (.ifCond .ne 14, 3) := by decide +kernel
theorem dL_law_875 : decode cL_law 875 = .ok (.aload_n 3, 1) := by decide +kernel
theorem dL_law_876 : decode cL_law 876 = .ok (.iconst 0, 1) := by decide +kernel
theorem dL_law_877 : decode cL_law 877 = .ok (.laload, 1) := by decide +kernel
theorem dL_law_878 : decode cL_law 878 = .ok (.lload 6, 2) := by decide +kernel
theorem dL_law_880 : decode cL_law 880 = .ok (.lcmp, 1) := by decide +kernel
theorem dL_law_881 : decode cL_law 881 = .ok (.ifCond .eq 5, 3) := by decide +kernel
theorem dL_law_884 : decode cL_law 884 = .ok (.iconst 0, 1) := by decide +kernel
theorem dL_law_885 : decode cL_law 885 = .ok (.ireturn, 1) := by decide +kernel
theorem dL_law_886 : decode cL_law 886 = .ok (.goto 505, 3) := by decide +kernel
theorem dL_law_889 : decode cL_law 889 = .ok (.aload_n 1, 1) := by decide +kernel
theorem dL_law_890 : decode cL_law 890 = .ok (.aload_n 3, 1) := by decide +kernel
theorem dL_law_891 : decode cL_law 891 = .ok (.invokestatic 126, 3) := by decide +kernel
theorem dL_law_894 : decode cL_law 894 = .ok (.istore 5, 2) := by decide +kernel
theorem dL_law_896 : decode cL_law 896 = .ok (.aload_n 2, 1) := by decide +kernel
theorem dL_law_897 : decode cL_law 897 = .ok (.invokevirtual 129, 3) := by decide +kernel
theorem dL_law_900 : decode cL_law 900 = .ok (.istore 6, 2) := by decide +kernel
theorem dL_law_902 : decode cL_law 902 = .ok (.aload_n 2, 1) := by decide +kernel
theorem dL_law_903 : decode cL_law 903 = .ok (.invokevirtual 92, 3) := by decide +kernel
theorem dL_law_906 : decode cL_law 906 = .ok (.iload 5, 2) := by decide +kernel
theorem dL_law_908 : decode cL_law 908 = .ok (.if_icmp .eq 5, 3) := by decide +kernel
theorem dL_law_911 : decode cL_law 911 = .ok (.iconst 0, 1) := by decide +kernel
theorem dL_law_912 : decode cL_law 912 = .ok (.ireturn, 1) := by decide +kernel
theorem dL_law_913 : decode cL_law 913 = .ok (.iload 5, 2) := by decide +kernel
theorem dL_law_915 : decode cL_law 915 = .ok (.ifCond .ne 15, 3) := by decide +kernel
theorem dL_law_918 : decode cL_law 918 = .ok (.aload_n 3, 1) := by decide +kernel
theorem dL_law_919 : decode cL_law 919 = .ok (.iconst 0, 1) := by decide +kernel
theorem dL_law_920 : decode cL_law 920 = .ok (.laload, 1) := by decide +kernel
theorem dL_law_921 : decode cL_law 921 = .ok (.iload 6, 2) := by decide +kernel
theorem dL_law_923 : decode cL_law 923 = .ok (.i2l, 1) := by decide +kernel
theorem dL_law_924 : decode cL_law 924 = .ok (.lcmp, 1) := by decide +kernel
theorem dL_law_925 : decode cL_law 925 = .ok (.ifCond .eq 5, 3) := by decide +kernel
theorem dL_law_928 : decode cL_law 928 = .ok (.iconst 0, 1) := by decide +kernel
theorem dL_law_929 : decode cL_law 929 = .ok (.ireturn, 1) := by decide +kernel
theorem dL_law_930 : decode cL_law 930 = .ok (.goto 461, 3) := by decide +kernel
theorem dL_law_933 : decode cL_law 933 = .ok (.aload_n 1, 1) := by decide +kernel
theorem dL_law_934 : decode cL_law 934 = .ok (.aload_n 0, 1) := by decide +kernel
theorem dL_law_935 : decode cL_law 935 = .ok (.iload 4, 2) := by decide +kernel
theorem dL_law_937 : decode cL_law 937 = .ok (.iconst 1, 1) := by decide +kernel
theorem dL_law_938 : decode cL_law 938 = .ok (.iadd, 1) := by decide +kernel
theorem dL_law_939 : decode cL_law 939 = .ok (.iaload, 1) := by decide +kernel
theorem dL_law_940 : decode cL_law 940 = .ok (.aload_n 0, 1) := by decide +kernel
theorem dL_law_941 : decode cL_law 941 = .ok (.iload 4, 2) := by decide +kernel
theorem dL_law_943 : decode cL_law 943 = .ok (.iconst 2, 1) := by decide +kernel
theorem dL_law_944 : decode cL_law 944 = .ok (.iadd, 1) := by decide +kernel
theorem dL_law_945 : decode cL_law 945 = .ok (.iaload, 1) := by decide +kernel
theorem dL_law_946 : decode cL_law 946 = .ok (.aload_n 0, 1) := by decide +kernel
theorem dL_law_947 : decode cL_law 947 = .ok (.iload 4, 2) := by decide +kernel
theorem dL_law_949 : decode cL_law 949 = .ok (.iconst 3, 1) := by decide +kernel
theorem dL_law_950 : decode cL_law 950 = .ok (.iadd, 1) := by decide +kernel
theorem dL_law_951 : decode cL_law 951 = .ok (.iaload, 1) := by decide +kernel
theorem dL_law_952 : decode cL_law 952 = .ok (.aload_n 0, 1) := by decide +kernel
theorem dL_law_953 : decode cL_law 953 = .ok (.iload 4, 2) := by decide +kernel
theorem dL_law_955 : decode cL_law 955 = .ok (.iconst 4, 1) := by decide +kernel
theorem dL_law_956 : decode cL_law 956 = .ok (.iadd, 1) := by decide +kernel
theorem dL_law_957 : decode cL_law 957 = .ok (.iaload, 1) := by decide +kernel
theorem dL_law_958 : decode cL_law 958 = .ok (.aload_n 3, 1) := by decide +kernel
theorem dL_law_959 : decode cL_law 959 = .ok (.invokestatic 130, 3) := by decide +kernel
theorem dL_law_962 : decode cL_law 962 = .ok (.istore 5, 2) := by decide +kernel
theorem dL_law_964 : decode cL_law 964 = .ok (.aload_n 2, 1) := by decide +kernel
theorem dL_law_965 : decode cL_law 965 = .ok (.aload_n 0, 1) := by decide +kernel
theorem dL_law_966 : decode cL_law 966 = .ok (.iload 4, 2) := by decide +kernel
theorem dL_law_968 : decode cL_law 968 = .ok (.iconst 1, 1) := by decide +kernel
theorem dL_law_969 : decode cL_law 969 = .ok (.iadd, 1) := by decide +kernel
theorem dL_law_970 : decode cL_law 970 = .ok (.iaload, 1) := by decide +kernel
theorem dL_law_971 : decode cL_law 971 = .ok (.aload_n 0, 1) := by decide +kernel
theorem dL_law_972 : decode cL_law 972 = .ok (.iload 4, 2) := by decide +kernel
theorem dL_law_974 : decode cL_law 974 = .ok (.iconst 2, 1) := by decide +kernel
theorem dL_law_975 : decode cL_law 975 = .ok (.iadd, 1) := by decide +kernel
theorem dL_law_976 : decode cL_law 976 = .ok (.iaload, 1) := by decide +kernel
theorem dL_law_977 : decode cL_law 977 = .ok (.aload_n 0, 1) := by decide +kernel
theorem dL_law_978 : decode cL_law 978 = .ok (.iload 4, 2) := by decide +kernel
theorem dL_law_980 : decode cL_law 980 = .ok (.iconst 3, 1) := by decide +kernel
theorem dL_law_981 : decode cL_law 981 = .ok (.iadd, 1) := by decide +kernel
theorem dL_law_982 : decode cL_law 982 = .ok (.iaload, 1) := by decide +kernel
theorem dL_law_983 : decode cL_law 983 = .ok (.aload_n 0, 1) := by decide +kernel
theorem dL_law_984 : decode cL_law 984 = .ok (.iload 4, 2) := by decide +kernel
theorem dL_law_986 : decode cL_law 986 = .ok (.iconst 4, 1) := by decide +kernel
theorem dL_law_987 : decode cL_law 987 = .ok (.iadd, 1) := by decide +kernel
theorem dL_law_988 : decode cL_law 988 = .ok (.iaload, 1) := by decide +kernel
theorem dL_law_989 : decode cL_law 989 = .ok (.invokevirtual 133, 3) := by decide +kernel
theorem dL_law_992 : decode cL_law 992 = .ok (.istore 6, 2) := by decide +kernel
theorem dL_law_994 : decode cL_law 994 = .ok (.aload_n 2, 1) := by decide +kernel
theorem dL_law_995 : decode cL_law 995 = .ok (.invokevirtual 92, 3) := by decide +kernel
theorem dL_law_998 : decode cL_law 998 = .ok (.iload 5, 2) := by decide +kernel
theorem dL_law_1000 : decode cL_law 1000 = .ok (.if_icmp .eq 5, 3) := by decide +kernel
theorem dL_law_1003 : decode cL_law 1003 = .ok (.iconst 0, 1) := by decide +kernel
theorem dL_law_1004 : decode cL_law 1004 = .ok (.ireturn, 1) := by decide +kernel
theorem dL_law_1005 : decode cL_law 1005 = .ok (.iload 5, 2) := by decide +kernel
theorem dL_law_1007 : decode cL_law 1007 = .ok (.ifCond .ne 15, 3) := by decide +kernel
theorem dL_law_1010 : decode cL_law 1010 = .ok (.aload_n 3, 1) := by decide +kernel
theorem dL_law_1011 : decode cL_law 1011 = .ok (.iconst 0, 1) := by decide +kernel
theorem dL_law_1012 : decode cL_law 1012 = .ok (.laload, 1) := by decide +kernel
theorem dL_law_1013 : decode cL_law 1013 = .ok (.iload 6, 2) := by decide +kernel
theorem dL_law_1015 : decode cL_law 1015 = .ok (.i2l, 1) := by decide +kernel
theorem dL_law_1016 : decode cL_law 1016 = .ok (.lcmp, 1) := by decide +kernel
theorem dL_law_1017 : decode cL_law 1017 = .ok (.ifCond .eq 5, 3) := by decide +kernel
theorem dL_law_1020 : decode cL_law 1020 = .ok (.iconst 0, 1) := by decide +kernel
theorem dL_law_1021 : decode cL_law 1021 = .ok (.ireturn, 1) := by decide +kernel
theorem dL_law_1022 : decode cL_law 1022 = .ok (.goto 369, 3) := by decide +kernel
theorem dL_law_1025 : decode cL_law 1025 = .ok (.aload_n 1, 1) := by decide +kernel
theorem dL_law_1026 : decode cL_law 1026 = .ok (.aload_n 0, 1) := by decide +kernel
theorem dL_law_1027 : decode cL_law 1027 = .ok (.iload 4, 2) := by decide +kernel
theorem dL_law_1029 : decode cL_law 1029 = .ok (.iconst 1, 1) := by decide +kernel
theorem dL_law_1030 : decode cL_law 1030 = .ok (.iadd, 1) := by decide +kernel
theorem dL_law_1031 : decode cL_law 1031 = .ok (.iaload, 1) := by decide +kernel
theorem dL_law_1032 : decode cL_law 1032 = .ok (.aload_n 3, 1) := by decide +kernel
theorem dL_law_1033 : decode cL_law 1033 = .ok (.invokestatic 134, 3) := by decide +kernel
theorem dL_law_1036 : decode cL_law 1036 = .ok (.istore 5, 2) := by decide +kernel
theorem dL_law_1038 : decode cL_law 1038 = .ok (.aload_n 2, 1) := by decide +kernel
theorem dL_law_1039 : decode cL_law 1039 = .ok (.aload_n 0, 1) := by decide +kernel
theorem dL_law_1040 : decode cL_law 1040 = .ok (.iload 4, 2) := by decide +kernel
theorem dL_law_1042 : decode cL_law 1042 = .ok (.iconst 1, 1) := by decide +kernel
theorem dL_law_1043 : decode cL_law 1043 = .ok (.iadd, 1) := by decide +kernel
theorem dL_law_1044 : decode cL_law 1044 = .ok (.iaload, 1) := by decide +kernel
theorem dL_law_1045 : decode cL_law 1045 = .ok (.invokevirtual 136, 3) := by decide +kernel
theorem dL_law_1048 : decode cL_law 1048 = .ok (.istore 6, 2) := by decide +kernel
theorem dL_law_1050 : decode cL_law 1050 = .ok (.aload_n 2, 1) := by decide +kernel
theorem dL_law_1051 : decode cL_law 1051 = .ok (.invokevirtual 92, 3) := by decide +kernel
theorem dL_law_1054 : decode cL_law 1054 = .ok (.iload 5, 2) := by decide +kernel
theorem dL_law_1056 : decode cL_law 1056 = .ok (.if_icmp .eq 5, 3) := by decide +kernel
theorem dL_law_1059 : decode cL_law 1059 = .ok (.iconst 0, 1) := by decide +kernel
theorem dL_law_1060 : decode cL_law 1060 = .ok (.ireturn, 1) := by decide +kernel
theorem dL_law_1061 : decode cL_law 1061 = .ok (.iload 5, 2) := by decide +kernel
theorem dL_law_1063 : decode cL_law 1063 = .ok (.ifCond .ne 15, 3) := by decide +kernel
theorem dL_law_1066 : decode cL_law 1066 = .ok (.aload_n 3, 1) := by decide +kernel
theorem dL_law_1067 : decode cL_law 1067 = .ok (.iconst 0, 1) := by decide +kernel
theorem dL_law_1068 : decode cL_law 1068 = .ok (.laload, 1) := by decide +kernel
theorem dL_law_1069 : decode cL_law 1069 = .ok (.iload 6, 2) := by decide +kernel
theorem dL_law_1071 : decode cL_law 1071 = .ok (.i2l, 1) := by decide +kernel
theorem dL_law_1072 : decode cL_law 1072 = .ok (.lcmp, 1) := by decide +kernel
theorem dL_law_1073 : decode cL_law 1073 = .ok (.ifCond .eq 5, 3) := by decide +kernel
theorem dL_law_1076 : decode cL_law 1076 = .ok (.iconst 0, 1) := by decide +kernel
theorem dL_law_1077 : decode cL_law 1077 = .ok (.ireturn, 1) := by decide +kernel
theorem dL_law_1078 : decode cL_law 1078 = .ok (.goto 313, 3) := by decide +kernel
theorem dL_law_1081 : decode cL_law 1081 = .ok (.aload_n 1, 1) := by decide +kernel
theorem dL_law_1082 : decode cL_law 1082 = .ok (.aload_n 0, 1) := by decide +kernel
theorem dL_law_1083 : decode cL_law 1083 = .ok (.iload 4, 2) := by decide +kernel
theorem dL_law_1085 : decode cL_law 1085 = .ok (.iconst 1, 1) := by decide +kernel
theorem dL_law_1086 : decode cL_law 1086 = .ok (.iadd, 1) := by decide +kernel
theorem dL_law_1087 : decode cL_law 1087 = .ok (.iaload, 1) := by decide +kernel
theorem dL_law_1088 : decode cL_law 1088 = .ok (.aload_n 3, 1) := by decide +kernel
theorem dL_law_1089 : decode cL_law 1089 = .ok (.invokestatic 137, 3) := by decide +kernel
theorem dL_law_1092 : decode cL_law 1092 = .ok (.istore 5, 2) := by decide +kernel
theorem dL_law_1094 : decode cL_law 1094 = .ok (.aload_n 2, 1) := by decide +kernel
theorem dL_law_1095 : decode cL_law 1095 = .ok (.aload_n 0, 1) := by decide +kernel
theorem dL_law_1096 : decode cL_law 1096 = .ok (.iload 4, 2) := by decide +kernel
theorem dL_law_1098 : decode cL_law 1098 = .ok (.iconst 1, 1) := by decide +kernel
theorem dL_law_1099 : decode cL_law 1099 = .ok (.iadd, 1) := by decide +kernel
theorem dL_law_1100 : decode cL_law 1100 = .ok (.iaload, 1) := by decide +kernel
theorem dL_law_1101 : decode cL_law 1101 = .ok (.invokevirtual 139, 3) := by decide +kernel
theorem dL_law_1104 : decode cL_law 1104 = .ok (.istore 6, 2) := by decide +kernel
theorem dL_law_1106 : decode cL_law 1106 = .ok (.aload_n 2, 1) := by decide +kernel
theorem dL_law_1107 : decode cL_law 1107 = .ok (.invokevirtual 92, 3) := by decide +kernel
theorem dL_law_1110 : decode cL_law 1110 = .ok (.iload 5, 2) := by decide +kernel
theorem dL_law_1112 : decode cL_law 1112 = .ok (.if_icmp .eq 5, 3) := by decide +kernel
theorem dL_law_1115 : decode cL_law 1115 = .ok (.iconst 0, 1) := by decide +kernel
theorem dL_law_1116 : decode cL_law 1116 = .ok (.ireturn, 1) := by decide +kernel
theorem dL_law_1117 : decode cL_law 1117 = .ok (.iload 5, 2) := by decide +kernel
theorem dL_law_1119 : decode cL_law 1119 = .ok (.ifCond .ne 15, 3) := by decide +kernel
theorem dL_law_1122 : decode cL_law 1122 = .ok (.aload_n 3, 1) := by decide +kernel
theorem dL_law_1123 : decode cL_law 1123 = .ok (.iconst 0, 1) := by decide +kernel
theorem dL_law_1124 : decode cL_law 1124 = .ok (.laload, 1) := by decide +kernel
theorem dL_law_1125 : decode cL_law 1125 = .ok (.iload 6, 2) := by decide +kernel
theorem dL_law_1127 : decode cL_law 1127 = .ok (.i2l, 1) := by decide +kernel
theorem dL_law_1128 : decode cL_law 1128 = .ok (.lcmp, 1) := by decide +kernel
theorem dL_law_1129 : decode cL_law 1129 = .ok (.ifCond .eq 5, 3) := by decide +kernel
theorem dL_law_1132 : decode cL_law 1132 = .ok (.iconst 0, 1) := by decide +kernel
theorem dL_law_1133 : decode cL_law 1133 = .ok (.ireturn, 1) := by decide +kernel
theorem dL_law_1134 : decode cL_law 1134 = .ok (.goto 257, 3) := by decide +kernel
theorem dL_law_1137 : decode cL_law 1137 = .ok (.aload_n 1, 1) := by decide +kernel
theorem dL_law_1138 : decode cL_law 1138 = .ok (.aload_n 0, 1) := by decide +kernel
theorem dL_law_1139 : decode cL_law 1139 = .ok (.iload 4, 2) := by decide +kernel
theorem dL_law_1141 : decode cL_law 1141 = .ok (.iconst 1, 1) := by decide +kernel
theorem dL_law_1142 : decode cL_law 1142 = .ok (.iadd, 1) := by decide +kernel
theorem dL_law_1143 : decode cL_law 1143 = .ok (.iaload, 1) := by decide +kernel
theorem dL_law_1144 : decode cL_law 1144 = .ok (.aload_n 3, 1) := by decide +kernel
theorem dL_law_1145 : decode cL_law 1145 = .ok (.invokestatic 140, 3) := by decide +kernel
theorem dL_law_1148 : decode cL_law 1148 = .ok (.istore 5, 2) := by decide +kernel
theorem dL_law_1150 : decode cL_law 1150 = .ok (.aload_n 2, 1) := by decide +kernel
theorem dL_law_1151 : decode cL_law 1151 = .ok (.aload_n 0, 1) := by decide +kernel
theorem dL_law_1152 : decode cL_law 1152 = .ok (.iload 4, 2) := by decide +kernel
theorem dL_law_1154 : decode cL_law 1154 = .ok (.iconst 1, 1) := by decide +kernel
theorem dL_law_1155 : decode cL_law 1155 = .ok (.iadd, 1) := by decide +kernel
theorem dL_law_1156 : decode cL_law 1156 = .ok (.iaload, 1) := by decide +kernel
theorem dL_law_1157 : decode cL_law 1157 = .ok (.invokevirtual 142, 3) := by decide +kernel
theorem dL_law_1160 : decode cL_law 1160 = .ok (.istore 6, 2) := by decide +kernel
theorem dL_law_1162 : decode cL_law 1162 = .ok (.aload_n 2, 1) := by decide +kernel
theorem dL_law_1163 : decode cL_law 1163 = .ok (.invokevirtual 92, 3) := by decide +kernel
theorem dL_law_1166 : decode cL_law 1166 = .ok (.iload 5, 2) := by decide +kernel
theorem dL_law_1168 : decode cL_law 1168 = .ok (.if_icmp .eq 5, 3) := by decide +kernel
theorem dL_law_1171 : decode cL_law 1171 = .ok (.iconst 0, 1) := by decide +kernel
theorem dL_law_1172 : decode cL_law 1172 = .ok (.ireturn, 1) := by decide +kernel
theorem dL_law_1173 : decode cL_law 1173 = .ok (.iload 5, 2) := by decide +kernel
theorem dL_law_1175 : decode cL_law 1175 = .ok (.ifCond .ne 15, 3) := by decide +kernel
theorem dL_law_1178 : decode cL_law 1178 = .ok (.aload_n 3, 1) := by decide +kernel
theorem dL_law_1179 : decode cL_law 1179 = .ok (.iconst 0, 1) := by decide +kernel
theorem dL_law_1180 : decode cL_law 1180 = .ok (.laload, 1) := by decide +kernel
theorem dL_law_1181 : decode cL_law 1181 = .ok (.iload 6, 2) := by decide +kernel
theorem dL_law_1183 : decode cL_law 1183 = .ok (.i2l, 1) := by decide +kernel
theorem dL_law_1184 : decode cL_law 1184 = .ok (.lcmp, 1) := by decide +kernel
theorem dL_law_1185 : decode cL_law 1185 = .ok (.ifCond .eq 5, 3) := by decide +kernel
theorem dL_law_1188 : decode cL_law 1188 = .ok (.iconst 0, 1) := by decide +kernel
theorem dL_law_1189 : decode cL_law 1189 = .ok (.ireturn, 1) := by decide +kernel
theorem dL_law_1190 : decode cL_law 1190 = .ok (.goto 201, 3) := by decide +kernel
theorem dL_law_1193 : decode cL_law 1193 = .ok (.aload_n 1, 1) := by decide +kernel
theorem dL_law_1194 : decode cL_law 1194 = .ok (.aload_n 0, 1) := by decide +kernel
theorem dL_law_1195 : decode cL_law 1195 = .ok (.iload 4, 2) := by decide +kernel
theorem dL_law_1197 : decode cL_law 1197 = .ok (.iconst 1, 1) := by decide +kernel
theorem dL_law_1198 : decode cL_law 1198 = .ok (.iadd, 1) := by decide +kernel
theorem dL_law_1199 : decode cL_law 1199 = .ok (.iaload, 1) := by decide +kernel
theorem dL_law_1200 : decode cL_law 1200 = .ok (.aload_n 3, 1) := by decide +kernel
theorem dL_law_1201 : decode cL_law 1201 = .ok (.invokestatic 143, 3) := by decide +kernel
theorem dL_law_1204 : decode cL_law 1204 = .ok (.istore 5, 2) := by decide +kernel
theorem dL_law_1206 : decode cL_law 1206 = .ok (.aload_n 2, 1) := by decide +kernel
theorem dL_law_1207 : decode cL_law 1207 = .ok (.aload_n 0, 1) := by decide +kernel
theorem dL_law_1208 : decode cL_law 1208 = .ok (.iload 4, 2) := by decide +kernel
theorem dL_law_1210 : decode cL_law 1210 = .ok (.iconst 1, 1) := by decide +kernel
theorem dL_law_1211 : decode cL_law 1211 = .ok (.iadd, 1) := by decide +kernel
theorem dL_law_1212 : decode cL_law 1212 = .ok (.iaload, 1) := by decide +kernel
theorem dL_law_1213 : decode cL_law 1213 = .ok (.invokevirtual 145, 3) := by decide +kernel
theorem dL_law_1216 : decode cL_law 1216 = .ok (.istore 6, 2) := by decide +kernel
theorem dL_law_1218 : decode cL_law 1218 = .ok (.aload_n 2, 1) := by decide +kernel
theorem dL_law_1219 : decode cL_law 1219 = .ok (.invokevirtual 92, 3) := by decide +kernel
theorem dL_law_1222 : decode cL_law 1222 = .ok (.iload 5, 2) := by decide +kernel
theorem dL_law_1224 : decode cL_law 1224 = .ok (.if_icmp .eq 5, 3) := by decide +kernel
theorem dL_law_1227 : decode cL_law 1227 = .ok (.iconst 0, 1) := by decide +kernel
theorem dL_law_1228 : decode cL_law 1228 = .ok (.ireturn, 1) := by decide +kernel
theorem dL_law_1229 : decode cL_law 1229 = .ok (.iload 5, 2) := by decide +kernel
theorem dL_law_1231 : decode cL_law 1231 = .ok (.ifCond .ne 22, 3) := by decide +kernel
theorem dL_law_1234 : decode cL_law 1234 = .ok (.aload_n 3, 1) := by decide +kernel
theorem dL_law_1235 : decode cL_law 1235 = .ok (.iconst 0, 1) := by decide +kernel
theorem dL_law_1236 : decode cL_law 1236 = .ok (.laload, 1) := by decide +kernel
theorem dL_law_1237 : decode cL_law 1237 = .ok (.iload 6, 2) := by decide +kernel
theorem dL_law_1239 : decode cL_law 1239 = .ok (.ifCond .eq 7, 3) := by decide +kernel
theorem dL_law_1242 : decode cL_law 1242 = .ok (.lconst 1, 1) := by decide +kernel
theorem dL_law_1243 : decode cL_law 1243 = .ok (.goto 4, 3) := by decide +kernel
theorem dL_law_1246 : decode cL_law 1246 = .ok (.lconst 0, 1) := by decide +kernel
theorem dL_law_1247 : decode cL_law 1247 = .ok (.lcmp, 1) := by decide +kernel
theorem dL_law_1248 : decode cL_law 1248 = .ok (.ifCond .eq 5, 3) := by decide +kernel
theorem dL_law_1251 : decode cL_law 1251 = .ok (.iconst 0, 1) := by decide +kernel
theorem dL_law_1252 : decode cL_law 1252 = .ok (.ireturn, 1) := by decide +kernel
theorem dL_law_1253 : decode cL_law 1253 = .ok (.goto 138, 3) := by decide +kernel
theorem dL_law_1256 : decode cL_law 1256 = .ok (.aload_n 1, 1) := by decide +kernel
theorem dL_law_1257 : decode cL_law 1257 = .ok (.aload_n 3, 1) := by decide +kernel
theorem dL_law_1258 : decode cL_law 1258 = .ok (.invokestatic 146, 3) := by decide +kernel
theorem dL_law_1261 : decode cL_law 1261 = .ok (.istore 5, 2) := by decide +kernel
theorem dL_law_1263 : decode cL_law 1263 = .ok (.aload_n 2, 1) := by decide +kernel
theorem dL_law_1264 : decode cL_law 1264 = .ok (.invokevirtual 148, 3) := by decide +kernel
theorem dL_law_1267 : decode cL_law 1267 = .ok (.istore 6, 2) := by decide +kernel
theorem dL_law_1269 : decode cL_law 1269 = .ok (.aload_n 2, 1) := by decide +kernel
theorem dL_law_1270 : decode cL_law 1270 = .ok (.invokevirtual 92, 3) := by decide +kernel
theorem dL_law_1273 : decode cL_law 1273 = .ok (.iload 5, 2) := by decide +kernel
theorem dL_law_1275 : decode cL_law 1275 = .ok (.if_icmp .eq 5, 3) := by decide +kernel
theorem dL_law_1278 : decode cL_law 1278 = .ok (.iconst 0, 1) := by decide +kernel
theorem dL_law_1279 : decode cL_law 1279 = .ok (.ireturn, 1) := by decide +kernel
theorem dL_law_1280 : decode cL_law 1280 = .ok (.iload 5, 2) := by decide +kernel
theorem dL_law_1282 : decode cL_law 1282 = .ok (.ifCond .ne 15, 3) := by decide +kernel
theorem dL_law_1285 : decode cL_law 1285 = .ok (.aload_n 3, 1) := by decide +kernel
theorem dL_law_1286 : decode cL_law 1286 = .ok (.iconst 0, 1) := by decide +kernel
theorem dL_law_1287 : decode cL_law 1287 = .ok (.laload, 1) := by decide +kernel
theorem dL_law_1288 : decode cL_law 1288 = .ok (.iload 6, 2) := by decide +kernel
theorem dL_law_1290 : decode cL_law 1290 = .ok (.i2l, 1) := by decide +kernel
theorem dL_law_1291 : decode cL_law 1291 = .ok (.lcmp, 1) := by decide +kernel
theorem dL_law_1292 : decode cL_law 1292 = .ok (.ifCond .eq 5, 3) := by decide +kernel
theorem dL_law_1295 : decode cL_law 1295 = .ok (.iconst 0, 1) := by decide +kernel
theorem dL_law_1296 : decode cL_law 1296 = .ok (.ireturn, 1) := by decide +kernel
theorem dL_law_1297 : decode cL_law 1297 = .ok (.goto 94, 3) := by decide +kernel
theorem dL_law_1300 : decode cL_law 1300 = .ok (.aload_n 1, 1) := by decide +kernel
theorem dL_law_1301 : decode cL_law 1301 = .ok (.aload_n 0, 1) := by decide +kernel
theorem dL_law_1302 : decode cL_law 1302 = .ok (.iload 4, 2) := by decide +kernel
theorem dL_law_1304 : decode cL_law 1304 = .ok (.iconst 1, 1) := by decide +kernel
theorem dL_law_1305 : decode cL_law 1305 = .ok (.iadd, 1) := by decide +kernel
theorem dL_law_1306 : decode cL_law 1306 = .ok (.iaload, 1) := by decide +kernel
theorem dL_law_1307 : decode cL_law 1307 = .ok (.aload_n 0, 1) := by decide +kernel
theorem dL_law_1308 : decode cL_law 1308 = .ok (.iload 4, 2) := by decide +kernel
theorem dL_law_1310 : decode cL_law 1310 = .ok (.iconst 2, 1) := by decide +kernel
theorem dL_law_1311 : decode cL_law 1311 = .ok (.iadd, 1) := by decide +kernel
theorem dL_law_1312 : decode cL_law 1312 = .ok (.iaload, 1) := by decide +kernel
theorem dL_law_1313 : decode cL_law 1313 = .ok (.aload_n 0, 1) := by decide +kernel
theorem dL_law_1314 : decode cL_law 1314 = .ok (.iload 4, 2) := by decide +kernel
theorem dL_law_1316 : decode cL_law 1316 = .ok (.iconst 3, 1) := by decide +kernel
theorem dL_law_1317 : decode cL_law 1317 = .ok (.iadd, 1) := by decide +kernel
theorem dL_law_1318 : decode cL_law 1318 = .ok (.iaload, 1) := by decide +kernel
theorem dL_law_1319 : decode cL_law 1319 = .ok (.aload_n 0, 1) := by decide +kernel
theorem dL_law_1320 : decode cL_law 1320 = .ok (.iload 4, 2) := by decide +kernel
theorem dL_law_1322 : decode cL_law 1322 = .ok (.iconst 4, 1) := by decide +kernel
theorem dL_law_1323 : decode cL_law 1323 = .ok (.iadd, 1) := by decide +kernel
theorem dL_law_1324 : decode cL_law 1324 = .ok (.iaload, 1) := by decide +kernel
theorem dL_law_1325 : decode cL_law 1325 = .ok (.aload_n 3, 1) := by decide +kernel
theorem dL_law_1326 : decode cL_law 1326 = .ok (.invokestatic 149, 3) := by decide +kernel
theorem dL_law_1329 : decode cL_law 1329 = .ok (.istore 5, 2) := by decide +kernel
theorem dL_law_1331 : decode cL_law 1331 = .ok (.aload_n 2, 1) := by decide +kernel
theorem dL_law_1332 : decode cL_law 1332 = .ok (.aload_n 0, 1) := by decide +kernel
theorem dL_law_1333 : decode cL_law 1333 = .ok (.iload 4, 2) := by decide +kernel
theorem dL_law_1335 : decode cL_law 1335 = .ok (.iconst 1, 1) := by decide +kernel
theorem dL_law_1336 : decode cL_law 1336 = .ok (.iadd, 1) := by decide +kernel
theorem dL_law_1337 : decode cL_law 1337 = .ok (.iaload, 1) := by decide +kernel
theorem dL_law_1338 : decode cL_law 1338 = .ok (.aload_n 0, 1) := by decide +kernel
theorem dL_law_1339 : decode cL_law 1339 = .ok (.iload 4, 2) := by decide +kernel
theorem dL_law_1341 : decode cL_law 1341 = .ok (.iconst 2, 1) := by decide +kernel
theorem dL_law_1342 : decode cL_law 1342 = .ok (.iadd, 1) := by decide +kernel
theorem dL_law_1343 : decode cL_law 1343 = .ok (.iaload, 1) := by decide +kernel
theorem dL_law_1344 : decode cL_law 1344 = .ok (.aload_n 0, 1) := by decide +kernel
theorem dL_law_1345 : decode cL_law 1345 = .ok (.iload 4, 2) := by decide +kernel
theorem dL_law_1347 : decode cL_law 1347 = .ok (.iconst 3, 1) := by decide +kernel
theorem dL_law_1348 : decode cL_law 1348 = .ok (.iadd, 1) := by decide +kernel
theorem dL_law_1349 : decode cL_law 1349 = .ok (.iaload, 1) := by decide +kernel
theorem dL_law_1350 : decode cL_law 1350 = .ok (.aload_n 0, 1) := by decide +kernel
theorem dL_law_1351 : decode cL_law 1351 = .ok (.iload 4, 2) := by decide +kernel
theorem dL_law_1353 : decode cL_law 1353 = .ok (.iconst 4, 1) := by decide +kernel
theorem dL_law_1354 : decode cL_law 1354 = .ok (.iadd, 1) := by decide +kernel
theorem dL_law_1355 : decode cL_law 1355 = .ok (.iaload, 1) := by decide +kernel
theorem dL_law_1356 : decode cL_law 1356 = .ok (.invokevirtual 151, 3) := by decide +kernel
theorem dL_law_1359 : decode cL_law 1359 = .ok (.lstore 6, 2) := by decide +kernel
theorem dL_law_1361 : decode cL_law 1361 = .ok (.aload_n 2, 1) := by decide +kernel
theorem dL_law_1362 : decode cL_law 1362 = .ok (.invokevirtual 92, 3) := by decide +kernel
theorem dL_law_1365 : decode cL_law 1365 = .ok (.iload 5, 2) := by decide +kernel
theorem dL_law_1367 : decode cL_law 1367 = .ok (.if_icmp .eq 5, 3) := by decide +kernel
theorem dL_law_1370 : decode cL_law 1370 = .ok (.iconst 0, 1) := by decide +kernel
theorem dL_law_1371 : decode cL_law 1371 = .ok (.ireturn, 1) := by decide +kernel
theorem dL_law_1372 : decode cL_law 1372 = .ok (.iload 5, 2) := by decide +kernel
theorem dL_law_1374 : decode cL_law 1374 = .ok (.ifCond .ne 14, 3) := by decide +kernel
theorem dL_law_1377 : decode cL_law 1377 = .ok (.aload_n 3, 1) := by decide +kernel
theorem dL_law_1378 : decode cL_law 1378 = .ok (.iconst 0, 1) := by decide +kernel
theorem dL_law_1379 : decode cL_law 1379 = .ok (.laload, 1) := by decide +kernel
theorem dL_law_1380 : decode cL_law 1380 = .ok (.lload 6, 2) := by decide +kernel
theorem dL_law_1382 : decode cL_law 1382 = .ok (.lcmp, 1) := by decide +kernel
theorem dL_law_1383 : decode cL_law 1383 = .ok (.ifCond .eq 5, 3) := by decide +kernel
theorem dL_law_1386 : decode cL_law 1386 = .ok (.iconst 0, 1) := by decide +kernel
theorem dL_law_1387 : decode cL_law 1387 = .ok (.ireturn, 1) := by decide +kernel
theorem dL_law_1388 : decode cL_law 1388 = .ok (.goto 3, 3) := by decide +kernel
theorem dL_law_1391 : decode cL_law 1391 = .ok (.iinc 4 6, 3) := by decide +kernel
theorem dL_law_1394 : decode cL_law 1394 = .ok (.goto (-1371), 3) := by decide +kernel
theorem dL_law_1397 : decode cL_law 1397 = .ok (.iconst 1, 1) := by decide +kernel
theorem dL_law_1398 : decode cL_law 1398 = .ok (.ireturn, 1) := by decide +kernel
end
section
abbrev gv_eI : String := "java/lang/IndexOutOfBoundsException"
abbrev gv_eA : String := "java/lang/IllegalArgumentException"
abbrev gv_eS : String := "java/lang/IllegalStateException"
abbrev gv_nm : List String := ["java/lang/RuntimeException", "java/lang/Exception"]
def gv_F : List (String × Nat × String × String × String × String) := [("Gravimere", 168, "Gravimere$Body", "pulls", "[J", "Gravimere"), ("Gravimere", 109, "Gravimere$Needles", "kinds", "[I", "Gravimere"), ("Gravimere", 118, "Gravimere$Needles", "tiedMonths", "[I", "Gravimere"), ("Gravimere", 99, "Gravimere$Needles", "count", "I", "Gravimere"), ("Gravimere", 154, "Gravimere$Survey", "heights", "[I", "Gravimere"), ("Gravimere", 149, "Gravimere$Survey", "doubts", "[I", "Gravimere"), ("Gravimere", 160, "Gravimere$Survey", "triedDoubts", "[I", "Gravimere"), ("Gravimere", 125, "Gravimere$Survey", "benchmarks", "I", "Gravimere"), ("Gravimere", 139, "Gravimere$Survey", "lines", "I", "Gravimere"), ("Gravimere", 176, "Gravimere$Archive", "months", "[I", "Gravimere"), ("Gravimere", 167, "Gravimere$Archive", "count", "I", "Gravimere")]
def gv_M : List (String × Nat × MethodName × String) := [("Gravimere", 11, yX1_init, "Gravimere"), ("Gravimere", 18, yX2_init, "Gravimere"), ("Gravimere", 25, yX3_init, "Gravimere"), ("Gravimere", 32, yX4_init, "Gravimere"), ("Gravimere", 39, yX0_init, "Gravimere"), ("Gravimere", 61, yX1_putMass, "Gravimere"), ("Gravimere$Body", 21, yX5_cellNumber, "Gravimere"), ("Gravimere", 67, yX1_putWater, "Gravimere"), ("Gravimere", 71, yX1_keptPull, "Gravimere"), ("Gravimere", 75, yX1_summedPull, "Gravimere"), ("Gravimere", 82, yX2_put, "Gravimere"), ("Gravimere", 105, yX3_add, "Gravimere"), ("Gravimere", 115, yX3_offIn, "Gravimere"), ("Gravimere", 121, yX2_tideIn, "Gravimere"), ("Gravimere", 128, yX4_addBenchmark, "Gravimere"), ("Gravimere", 142, yX4_addLine, "Gravimere"), ("Gravimere", 146, yX4_findHeights, "Gravimere"), ("Gravimere", 157, yX4_tryAllLines, "Gravimere"), ("Gravimere", 163, yX4_contradicts, "Gravimere"), ("Gravimere", 172, yX0_keep, "Gravimere"), ("Gravimere", 181, yX0_trendFrom, "Gravimere"), ("Gravimere$Archive", 29, yX5_cellNumber, "Gravimere")]
def gv_Dc : List MethodName := [Bundle.initS "java/lang/RuntimeException", Bundle.initS "java/lang/Exception", Bundle.initS Bundle.tN]
def gv_C : List (String × String) := [(gv_eI, gv_eI), (gv_eA, gv_eA), (gv_eS, gv_eS)]
def gv_N : List (String × String) := [("java/lang/IllegalArgumentException", "java/lang/IllegalStateException"), ("java/lang/IllegalArgumentException", "java/lang/IndexOutOfBoundsException"), ("java/lang/IllegalStateException", "java/lang/IllegalArgumentException"), ("java/lang/IllegalStateException", "java/lang/IndexOutOfBoundsException"), ("java/lang/IndexOutOfBoundsException", "java/lang/IllegalArgumentException"), ("java/lang/IndexOutOfBoundsException", "java/lang/IllegalStateException")]
def gv_S : List (Nat × String) := [(187, "there is no such cell"), (190, "there is none of that number"), (192, "an argument is out of its range"), (90, "the month would be above 3000"), (194, "there are as many as there may be"), (113, "a MIRROR cannot be tied"), (134, "a line goes to another benchmark"), (152, "the benchmark has no height"), (179, "both releases are of one month")]
theorem gv_warmC {a b : String} {s U : State} (hW : s.WarmedH U.vm) (hZ : va_Nw (.castable a b) s) : va_Nw (.castable a b) U := va_tabs rfl (rfl : (s.setVm U.vm).vm = U.vm) (by rw [Cond.castable_setVm hW.alike]; exact hZ)
/-- what the contracts carry of the tables beside their word lists: links in the nest, what throws and handlers ask, the texts -/
def GW (U : State) : Prop := (∀ q ∈ gv_F, va_Nw (.fieldLinkNest q.1 q.2.1 q.2.2.1 q.2.2.2.1 q.2.2.2.2.1 q.2.2.2.2.2) U) ∧ (∀ q ∈ gv_M, va_Nw (.methodLinkNest q.1 q.2.1 q.2.2.1 q.2.2.2) U) ∧ (∀ x ∈ gv_Dc, va_Nw (.declares x) U) ∧ (∀ q ∈ gv_C, va_Nw (.castable q.1 q.2) U) ∧ (∀ q ∈ gv_N, va_Nc q.1 q.2 U) ∧ (∀ q ∈ gv_S, ∃ sa : Nat, vk_R "Gravimere" q.1 q.2 sa U)
theorem GW.warm {s U : State} (hW : s.WarmedH U.vm) (h : GW s) : GW U := by
  obtain ⟨h1, h2, h3, h4, h5, h6⟩ := h
  refine ⟨fun q hq => va_Nw.warmF hW (h1 q hq), fun q hq => va_Nw.warmM hW (h2 q hq), fun x hx => va_Nw.warmD hW (h3 x hx), fun q hq => gv_warmC hW (h4 q hq), fun q hq => va_Nc.moved hW.alike (h5 q hq), fun q hq => ?_⟩
  obtain ⟨sa, h⟩ := h6 q hq
  exact ⟨sa, vk_R.warm hW h⟩
theorem gv_nf_168 {U : State} (h : GW U) : va_Nw (.fieldLinkNest "Gravimere" 168 "Gravimere$Body" "pulls" "[J" "Gravimere") U := h.1 ("Gravimere", 168, "Gravimere$Body", "pulls", "[J", "Gravimere") (List.mem_of_getElem? (i := 0) rfl)
theorem gv_nf_109 {U : State} (h : GW U) : va_Nw (.fieldLinkNest "Gravimere" 109 "Gravimere$Needles" "kinds" "[I" "Gravimere") U := h.1 ("Gravimere", 109, "Gravimere$Needles", "kinds", "[I", "Gravimere") (List.mem_of_getElem? (i := 1) rfl)
theorem gv_nf_118 {U : State} (h : GW U) : va_Nw (.fieldLinkNest "Gravimere" 118 "Gravimere$Needles" "tiedMonths" "[I" "Gravimere") U := h.1 ("Gravimere", 118, "Gravimere$Needles", "tiedMonths", "[I", "Gravimere") (List.mem_of_getElem? (i := 2) rfl)
theorem gv_nf_99 {U : State} (h : GW U) : va_Nw (.fieldLinkNest "Gravimere" 99 "Gravimere$Needles" "count" "I" "Gravimere") U := h.1 ("Gravimere", 99, "Gravimere$Needles", "count", "I", "Gravimere") (List.mem_of_getElem? (i := 3) rfl)
theorem gv_nf_154 {U : State} (h : GW U) : va_Nw (.fieldLinkNest "Gravimere" 154 "Gravimere$Survey" "heights" "[I" "Gravimere") U := h.1 ("Gravimere", 154, "Gravimere$Survey", "heights", "[I", "Gravimere") (List.mem_of_getElem? (i := 4) rfl)
theorem gv_nf_149 {U : State} (h : GW U) : va_Nw (.fieldLinkNest "Gravimere" 149 "Gravimere$Survey" "doubts" "[I" "Gravimere") U := h.1 ("Gravimere", 149, "Gravimere$Survey", "doubts", "[I", "Gravimere") (List.mem_of_getElem? (i := 5) rfl)
theorem gv_nf_160 {U : State} (h : GW U) : va_Nw (.fieldLinkNest "Gravimere" 160 "Gravimere$Survey" "triedDoubts" "[I" "Gravimere") U := h.1 ("Gravimere", 160, "Gravimere$Survey", "triedDoubts", "[I", "Gravimere") (List.mem_of_getElem? (i := 6) rfl)
theorem gv_nf_125 {U : State} (h : GW U) : va_Nw (.fieldLinkNest "Gravimere" 125 "Gravimere$Survey" "benchmarks" "I" "Gravimere") U := h.1 ("Gravimere", 125, "Gravimere$Survey", "benchmarks", "I", "Gravimere") (List.mem_of_getElem? (i := 7) rfl)
theorem gv_nf_139 {U : State} (h : GW U) : va_Nw (.fieldLinkNest "Gravimere" 139 "Gravimere$Survey" "lines" "I" "Gravimere") U := h.1 ("Gravimere", 139, "Gravimere$Survey", "lines", "I", "Gravimere") (List.mem_of_getElem? (i := 8) rfl)
theorem gv_nf_176 {U : State} (h : GW U) : va_Nw (.fieldLinkNest "Gravimere" 176 "Gravimere$Archive" "months" "[I" "Gravimere") U := h.1 ("Gravimere", 176, "Gravimere$Archive", "months", "[I", "Gravimere") (List.mem_of_getElem? (i := 9) rfl)
theorem gv_nf_167 {U : State} (h : GW U) : va_Nw (.fieldLinkNest "Gravimere" 167 "Gravimere$Archive" "count" "I" "Gravimere") U := h.1 ("Gravimere", 167, "Gravimere$Archive", "count", "I", "Gravimere") (List.mem_of_getElem? (i := 10) rfl)
theorem gv_nm_X5_11 {U : State} (h : GW U) : va_Nw (.methodLinkNest "Gravimere" 11 yX1_init "Gravimere") U := h.2.1 ("Gravimere", 11, yX1_init, "Gravimere") (List.mem_of_getElem? (i := 0) rfl)
theorem gv_nm_X5_18 {U : State} (h : GW U) : va_Nw (.methodLinkNest "Gravimere" 18 yX2_init "Gravimere") U := h.2.1 ("Gravimere", 18, yX2_init, "Gravimere") (List.mem_of_getElem? (i := 1) rfl)
theorem gv_nm_X5_25 {U : State} (h : GW U) : va_Nw (.methodLinkNest "Gravimere" 25 yX3_init "Gravimere") U := h.2.1 ("Gravimere", 25, yX3_init, "Gravimere") (List.mem_of_getElem? (i := 2) rfl)
theorem gv_nm_X5_32 {U : State} (h : GW U) : va_Nw (.methodLinkNest "Gravimere" 32 yX4_init "Gravimere") U := h.2.1 ("Gravimere", 32, yX4_init, "Gravimere") (List.mem_of_getElem? (i := 3) rfl)
theorem gv_nm_X5_39 {U : State} (h : GW U) : va_Nw (.methodLinkNest "Gravimere" 39 yX0_init "Gravimere") U := h.2.1 ("Gravimere", 39, yX0_init, "Gravimere") (List.mem_of_getElem? (i := 4) rfl)
theorem gv_nm_X5_61 {U : State} (h : GW U) : va_Nw (.methodLinkNest "Gravimere" 61 yX1_putMass "Gravimere") U := h.2.1 ("Gravimere", 61, yX1_putMass, "Gravimere") (List.mem_of_getElem? (i := 5) rfl)
theorem gv_nm_X1_21 {U : State} (h : GW U) : va_Nw (.methodLinkNest "Gravimere$Body" 21 yX5_cellNumber "Gravimere") U := h.2.1 ("Gravimere$Body", 21, yX5_cellNumber, "Gravimere") (List.mem_of_getElem? (i := 6) rfl)
theorem gv_nm_X5_67 {U : State} (h : GW U) : va_Nw (.methodLinkNest "Gravimere" 67 yX1_putWater "Gravimere") U := h.2.1 ("Gravimere", 67, yX1_putWater, "Gravimere") (List.mem_of_getElem? (i := 7) rfl)
theorem gv_nm_X5_71 {U : State} (h : GW U) : va_Nw (.methodLinkNest "Gravimere" 71 yX1_keptPull "Gravimere") U := h.2.1 ("Gravimere", 71, yX1_keptPull, "Gravimere") (List.mem_of_getElem? (i := 8) rfl)
theorem gv_nm_X5_75 {U : State} (h : GW U) : va_Nw (.methodLinkNest "Gravimere" 75 yX1_summedPull "Gravimere") U := h.2.1 ("Gravimere", 75, yX1_summedPull, "Gravimere") (List.mem_of_getElem? (i := 9) rfl)
theorem gv_nm_X5_82 {U : State} (h : GW U) : va_Nw (.methodLinkNest "Gravimere" 82 yX2_put "Gravimere") U := h.2.1 ("Gravimere", 82, yX2_put, "Gravimere") (List.mem_of_getElem? (i := 10) rfl)
theorem gv_nm_X5_105 {U : State} (h : GW U) : va_Nw (.methodLinkNest "Gravimere" 105 yX3_add "Gravimere") U := h.2.1 ("Gravimere", 105, yX3_add, "Gravimere") (List.mem_of_getElem? (i := 11) rfl)
theorem gv_nm_X5_115 {U : State} (h : GW U) : va_Nw (.methodLinkNest "Gravimere" 115 yX3_offIn "Gravimere") U := h.2.1 ("Gravimere", 115, yX3_offIn, "Gravimere") (List.mem_of_getElem? (i := 12) rfl)
theorem gv_nm_X5_121 {U : State} (h : GW U) : va_Nw (.methodLinkNest "Gravimere" 121 yX2_tideIn "Gravimere") U := h.2.1 ("Gravimere", 121, yX2_tideIn, "Gravimere") (List.mem_of_getElem? (i := 13) rfl)
theorem gv_nm_X5_128 {U : State} (h : GW U) : va_Nw (.methodLinkNest "Gravimere" 128 yX4_addBenchmark "Gravimere") U := h.2.1 ("Gravimere", 128, yX4_addBenchmark, "Gravimere") (List.mem_of_getElem? (i := 14) rfl)
theorem gv_nm_X5_142 {U : State} (h : GW U) : va_Nw (.methodLinkNest "Gravimere" 142 yX4_addLine "Gravimere") U := h.2.1 ("Gravimere", 142, yX4_addLine, "Gravimere") (List.mem_of_getElem? (i := 15) rfl)
theorem gv_nm_X5_146 {U : State} (h : GW U) : va_Nw (.methodLinkNest "Gravimere" 146 yX4_findHeights "Gravimere") U := h.2.1 ("Gravimere", 146, yX4_findHeights, "Gravimere") (List.mem_of_getElem? (i := 16) rfl)
theorem gv_nm_X5_157 {U : State} (h : GW U) : va_Nw (.methodLinkNest "Gravimere" 157 yX4_tryAllLines "Gravimere") U := h.2.1 ("Gravimere", 157, yX4_tryAllLines, "Gravimere") (List.mem_of_getElem? (i := 17) rfl)
theorem gv_nm_X5_163 {U : State} (h : GW U) : va_Nw (.methodLinkNest "Gravimere" 163 yX4_contradicts "Gravimere") U := h.2.1 ("Gravimere", 163, yX4_contradicts, "Gravimere") (List.mem_of_getElem? (i := 18) rfl)
theorem gv_nm_X5_172 {U : State} (h : GW U) : va_Nw (.methodLinkNest "Gravimere" 172 yX0_keep "Gravimere") U := h.2.1 ("Gravimere", 172, yX0_keep, "Gravimere") (List.mem_of_getElem? (i := 19) rfl)
theorem gv_nm_X5_181 {U : State} (h : GW U) : va_Nw (.methodLinkNest "Gravimere" 181 yX0_trendFrom "Gravimere") U := h.2.1 ("Gravimere", 181, yX0_trendFrom, "Gravimere") (List.mem_of_getElem? (i := 20) rfl)
theorem gv_nm_X0_29 {U : State} (h : GW U) : va_Nw (.methodLinkNest "Gravimere$Archive" 29 yX5_cellNumber "Gravimere") U := h.2.1 ("Gravimere$Archive", 29, yX5_cellNumber, "Gravimere") (List.mem_of_getElem? (i := 21) rfl)
theorem gv_st_187 {U : State} (h : GW U) : ∃ sa : Nat, vk_R "Gravimere" 187 "there is no such cell" sa U := h.2.2.2.2.2 (187, "there is no such cell") (List.mem_of_getElem? (i := 0) rfl)
theorem gv_st_190 {U : State} (h : GW U) : ∃ sa : Nat, vk_R "Gravimere" 190 "there is none of that number" sa U := h.2.2.2.2.2 (190, "there is none of that number") (List.mem_of_getElem? (i := 1) rfl)
theorem gv_st_192 {U : State} (h : GW U) : ∃ sa : Nat, vk_R "Gravimere" 192 "an argument is out of its range" sa U := h.2.2.2.2.2 (192, "an argument is out of its range") (List.mem_of_getElem? (i := 2) rfl)
theorem gv_st_90 {U : State} (h : GW U) : ∃ sa : Nat, vk_R "Gravimere" 90 "the month would be above 3000" sa U := h.2.2.2.2.2 (90, "the month would be above 3000") (List.mem_of_getElem? (i := 3) rfl)
theorem gv_st_194 {U : State} (h : GW U) : ∃ sa : Nat, vk_R "Gravimere" 194 "there are as many as there may be" sa U := h.2.2.2.2.2 (194, "there are as many as there may be") (List.mem_of_getElem? (i := 4) rfl)
theorem gv_st_113 {U : State} (h : GW U) : ∃ sa : Nat, vk_R "Gravimere" 113 "a MIRROR cannot be tied" sa U := h.2.2.2.2.2 (113, "a MIRROR cannot be tied") (List.mem_of_getElem? (i := 5) rfl)
theorem gv_st_134 {U : State} (h : GW U) : ∃ sa : Nat, vk_R "Gravimere" 134 "a line goes to another benchmark" sa U := h.2.2.2.2.2 (134, "a line goes to another benchmark") (List.mem_of_getElem? (i := 6) rfl)
theorem gv_st_152 {U : State} (h : GW U) : ∃ sa : Nat, vk_R "Gravimere" 152 "the benchmark has no height" sa U := h.2.2.2.2.2 (152, "the benchmark has no height") (List.mem_of_getElem? (i := 7) rfl)
theorem gv_st_179 {U : State} (h : GW U) : ∃ sa : Nat, vk_R "Gravimere" 179 "both releases are of one month" sa U := h.2.2.2.2.2 (179, "both releases are of one month") (List.mem_of_getElem? (i := 8) rfl)
theorem gv_nc_AS {U : State} (h : GW U) : va_Nc gv_eA gv_eS U := h.2.2.2.2.1 ("java/lang/IllegalArgumentException", "java/lang/IllegalStateException") (List.mem_of_getElem? (i := 0) rfl)
theorem gv_nc_AI {U : State} (h : GW U) : va_Nc gv_eA gv_eI U := h.2.2.2.2.1 ("java/lang/IllegalArgumentException", "java/lang/IndexOutOfBoundsException") (List.mem_of_getElem? (i := 1) rfl)
theorem gv_nc_SA {U : State} (h : GW U) : va_Nc gv_eS gv_eA U := h.2.2.2.2.1 ("java/lang/IllegalStateException", "java/lang/IllegalArgumentException") (List.mem_of_getElem? (i := 2) rfl)
theorem gv_nc_SI {U : State} (h : GW U) : va_Nc gv_eS gv_eI U := h.2.2.2.2.1 ("java/lang/IllegalStateException", "java/lang/IndexOutOfBoundsException") (List.mem_of_getElem? (i := 3) rfl)
theorem gv_nc_IA {U : State} (h : GW U) : va_Nc gv_eI gv_eA U := h.2.2.2.2.1 ("java/lang/IndexOutOfBoundsException", "java/lang/IllegalArgumentException") (List.mem_of_getElem? (i := 4) rfl)
theorem gv_nc_IS {U : State} (h : GW U) : va_Nc gv_eI gv_eS U := h.2.2.2.2.1 ("java/lang/IndexOutOfBoundsException", "java/lang/IllegalStateException") (List.mem_of_getElem? (i := 5) rfl)
theorem gv_ca_I {U : State} (h : GW U) : va_Nw (.castable gv_eI gv_eI) U := h.2.2.2.1 (gv_eI, gv_eI) (List.mem_of_getElem? (i := 0) rfl)
def gv_badI : List Cond := [.declares (Bundle.initS "java/lang/RuntimeException"), .declares (Bundle.initS "java/lang/Exception"), .declares (Bundle.initS Bundle.tN), .castable gv_eI gv_eI]
theorem gv_bI : ∀ w ∈ (vx_atS RX5 189 gv_eI gv_nm).filter (fun w => !goodWord w), w ∈ gv_badI := by decide +kernel
theorem gv_bwI {args : Array Value} {s : State} (h : GW s) : ∀ w ∈ gv_badI, w.before args s = true :=
  vx_c ((h.2.2.1 _ (List.mem_of_getElem? (i := 0) rfl)).use rfl) (vx_c ((h.2.2.1 _ (List.mem_of_getElem? (i := 1) rfl)).use rfl) (vx_c ((h.2.2.1 _ (List.mem_of_getElem? (i := 2) rfl)).use rfl) (vx_c ((gv_ca_I h).use rfl) vx_n)))
theorem gv_otI : ∀ w ∈ Cond.classLink RX5 185 gv_eI :: Cond.initialized gv_eI :: vx_atS RX5 189 gv_eI gv_nm, vx_ot w = true := by decide +kernel
theorem gv_ca_A {U : State} (h : GW U) : va_Nw (.castable gv_eA gv_eA) U := h.2.2.2.1 (gv_eA, gv_eA) (List.mem_of_getElem? (i := 1) rfl)
def gv_badA : List Cond := [.declares (Bundle.initS "java/lang/RuntimeException"), .declares (Bundle.initS "java/lang/Exception"), .declares (Bundle.initS Bundle.tN), .castable gv_eA gv_eA]
theorem gv_bA : ∀ w ∈ (vx_atS RX5 136 gv_eA gv_nm).filter (fun w => !goodWord w), w ∈ gv_badA := by decide +kernel
theorem gv_bwA {args : Array Value} {s : State} (h : GW s) : ∀ w ∈ gv_badA, w.before args s = true :=
  vx_c ((h.2.2.1 _ (List.mem_of_getElem? (i := 0) rfl)).use rfl) (vx_c ((h.2.2.1 _ (List.mem_of_getElem? (i := 1) rfl)).use rfl) (vx_c ((h.2.2.1 _ (List.mem_of_getElem? (i := 2) rfl)).use rfl) (vx_c ((gv_ca_A h).use rfl) vx_n)))
theorem gv_otA : ∀ w ∈ Cond.classLink RX5 132 gv_eA :: Cond.initialized gv_eA :: vx_atS RX5 136 gv_eA gv_nm, vx_ot w = true := by decide +kernel
theorem gv_ca_S {U : State} (h : GW U) : va_Nw (.castable gv_eS gv_eS) U := h.2.2.2.1 (gv_eS, gv_eS) (List.mem_of_getElem? (i := 2) rfl)
def gv_badS : List Cond := [.declares (Bundle.initS "java/lang/RuntimeException"), .declares (Bundle.initS "java/lang/Exception"), .declares (Bundle.initS Bundle.tN), .castable gv_eS gv_eS]
theorem gv_bS : ∀ w ∈ (vx_atS RX5 92 gv_eS gv_nm).filter (fun w => !goodWord w), w ∈ gv_badS := by decide +kernel
theorem gv_bwS {args : Array Value} {s : State} (h : GW s) : ∀ w ∈ gv_badS, w.before args s = true :=
  vx_c ((h.2.2.1 _ (List.mem_of_getElem? (i := 0) rfl)).use rfl) (vx_c ((h.2.2.1 _ (List.mem_of_getElem? (i := 1) rfl)).use rfl) (vx_c ((h.2.2.1 _ (List.mem_of_getElem? (i := 2) rfl)).use rfl) (vx_c ((gv_ca_S h).use rfl) vx_n)))
theorem gv_otS : ∀ w ∈ Cond.classLink RX5 88 gv_eS :: Cond.initialized gv_eS :: vx_atS RX5 92 gv_eS gv_nm, vx_ot w = true := by decide +kernel
/-- the two statics that a throw reads -/
def GZ (A : Nat → Prop) (U : State) (H : Heap) : Prop := vx_Zq Bundle.tN "UNASSIGNED_STACK" Bundle.steD A U H ∧ vx_Zq Bundle.tN "SUPPRESSED_SENTINEL" Bundle.listD A U H
theorem GZ.moved {A : Nat → Prop} {u U : State} {H : Heap} (hvm : u.vm.Alike U.vm) (h : GZ A u H) : GZ A U H := ⟨h.1.moved hvm, h.2.moved hvm⟩
theorem GZ.kept {A : Nat → Prop} {U : State} {H H1 : Heap} (h : GZ A U H) (hq : ∀ a : Nat, a < H.size → ¬ A a → H1[a]? = H[a]?) : GZ A U H1 := ⟨h.1.kept hq, h.2.kept hq⟩
theorem GZ.narrow {A B : Nat → Prop} {U : State} {H : Heap} (h : GZ A U H) (hAB : ∀ q, B q → A q) : GZ B U H := ⟨h.1.narrow hAB, h.2.narrow hAB⟩
/-- a contract's start: the world ws in a heap of sz cells -/
def gv_B (D : va_G) (cI cJ : ClassId) (ws : va_W) (sz : Nat) (U : State) : Prop := U.heap.size = sz ∧ va_P D vwCl ws U.heap ∧ va_K D vwCl [(cI, .int), (cJ, .long)] U ∧ va_D (fun _ => True) ws ∧ GW U
def gv_Z (D : va_G) (cI cJ : ClassId) (ws : va_W) (sz : Nat) (U : State) : Prop := gv_B D cI cJ ws sz U ∧ GZ (va_A ws sz) U U.heap
/-- the world behind a method -/
def gv_W (D : va_G) (A : Nat → Prop) (ws : va_W) (t : State) : Prop := va_P D vwCl ws t.heap ∧ va_D A ws
/-- void, nothing changed -/
def gv_Sv (post : Prop) : Array Value → State → Outcome → State → Prop := fun _ st o t => o = .returned none ∧ post ∧ t.heap = st.heap
/-- thrown, nothing old changed -/
def gv_X (BX : String → Prop) : String → State → State → Prop := fun E st t => BX E ∧ st.heap.size ≤ t.heap.size ∧ ∀ q : Nat, q < st.heap.size → t.heap[q]? = st.heap[q]?
theorem gv_fm {α β : Type} {f : α → Option β} : ∀ {is : List α} {w : List β}, is.map f = w.map some → is.filterMap f = w
  | [], [], _ => rfl
  | [], _ :: _, h => by simp at h
  | _ :: _, [], h => by simp at h
  | a :: is, b :: w, h => by
    simp only [List.map_cons, List.cons.injEq] at h
    rw [List.filterMap_cons, h.1]
    exact congrArg (b :: ·) (gv_fm h.2)
theorem gv_Psub {D : va_G} {ws ws' : va_W} {H : Heap} (h : va_P D vwCl ws H) (is : List Nat) (hs : is.map (fun i => ws[i]?) = ws'.map some) : va_P D vwCl ws' H := h.sub is (gv_fm hs)
theorem gv_bB {D : va_G} {cI cJ : ClassId} {ws : va_W} {sz : Nat} {As : List Value} : FrameBlind (va_Pc As (gv_B D cI cJ ws sz)) := fun a U g mk q => by
  obtain ⟨q0, q1, qP, qK, qD, qG⟩ := q
  exact ⟨q0, q1, qP, va_K.moved (u := U) (U := U.calling g mk a) (Vm.Alike.refl U.vm) qK, qD, GW.warm (s := U) (U := U.calling g mk a) (State.WarmedH.refl U) qG⟩
theorem gv_bZ {D : va_G} {cI cJ : ClassId} {ws : va_W} {sz : Nat} {As : List Value} : FrameBlind (va_Pc As (gv_Z D cI cJ ws sz)) := fun a U g mk q => by
  obtain ⟨q0, ⟨q1, qP, qK, qD, qG⟩, qZ⟩ := q
  exact ⟨q0, ⟨q1, qP, va_K.moved (u := U) (U := U.calling g mk a) (Vm.Alike.refl U.vm) qK, qD, GW.warm (s := U) (U := U.calling g mk a) (State.WarmedH.refl U) qG⟩, GZ.moved (u := U) (U := U.calling g mk a) (Vm.Alike.refl U.vm) qZ⟩
section GVP
variable {s : State} {H : Heap} {D : va_G} {cI cJ : ClassId} {ws wc : va_W} {A0 A : Nat → Prop} {As : List Value} {C : String} {b : Addr} {locs : List Loc}
/-- the start of a call: of a function of its arguments; of a world; of a world, where it may throw -/
theorem gv_p0 : PreS s H (va_Pc As (fun _ => True)) As := ⟨fun _ _ _ _ q => ⟨q.1, trivial⟩, fun _ _ _ => ⟨rfl, trivial⟩⟩
theorem gv_pB (hP : va_P D vwCl ws H) (hK : va_K D vwCl [(cI, .int), (cJ, .long)] s) (hD : va_D A ws) (hG : GW s) (isC : List Nat) (hC : isC.map (fun i => ws[i]?) = wc.map some) (hn : va_nd isC = true) {U : State} (hU : U.heap = H) (hW : s.WarmedH U.vm) : gv_B D cI cJ wc H.size U :=
  ⟨by rw [hU], by rw [hU]; exact gv_Psub hP isC hC, va_K.moved hW.alike hK, (hD.sub isC hn hC).weaken (fun _ _ _ _ => trivial), GW.warm hW hG⟩
theorem gv_pS (hP : va_P D vwCl ws H) (hK : va_K D vwCl [(cI, .int), (cJ, .long)] s) (hD : va_D A ws) (hG : GW s) (isC : List Nat) (hC : isC.map (fun i => ws[i]?) = wc.map some) (hn : va_nd isC = true) : PreS s H (va_Pc As (gv_B D cI cJ wc H.size)) As :=
  ⟨gv_bB, fun U hU hW => ⟨rfl, gv_pB hP hK hD hG isC hC hn hU hW⟩⟩
theorem gv_pV (hP : va_P D vwCl ws H) (hK : va_K D vwCl [(cI, .int), (cJ, .long)] s) (hD : va_D A ws) (hG : GW s) (isC : List Nat) (hC : isC.map (fun i => ws[i]?) = wc.map some) (hn : va_nd isC = true) (q0 : Nat) {ci : Nat} {fs : List Value} {r : vw_C} (he : wc[q0]? = some (b, .inr (ci, fs))) (hc : vwCl[ci]? = some r) (hr : r.1 = C) : PreV s H C b (va_Pc (.ref b :: As) (gv_B D cI cJ wc H.size)) As :=
  ⟨gv_bB, by rw [← hr]; exact va_recv hK (gv_Psub hP isC hC) hc he, fun U hU hW => ⟨rfl, gv_pB hP hK hD hG isC hC hn hU hW⟩⟩
theorem gv_pZ (hP : va_P D vwCl ws H) (hK : va_K D vwCl [(cI, .int), (cJ, .long)] s) (hD : va_D A ws) (hG : GW s) (hZ : GZ A0 s H) (hA : ∀ q, va_A wc H.size q → A0 q) (isC : List Nat) (hC : isC.map (fun i => ws[i]?) = wc.map some) (hn : va_nd isC = true) {U : State} (hU : U.heap = H) (hW : s.WarmedH U.vm) : gv_Z D cI cJ wc H.size U :=
  ⟨gv_pB hP hK hD hG isC hC hn hU hW, by rw [hU]; exact (hZ.narrow hA).moved hW.alike⟩
theorem gv_pSZ (hP : va_P D vwCl ws H) (hK : va_K D vwCl [(cI, .int), (cJ, .long)] s) (hD : va_D A ws) (hG : GW s) (hZ : GZ A0 s H) (hA : ∀ q, va_A wc H.size q → A0 q) (isC : List Nat) (hC : isC.map (fun i => ws[i]?) = wc.map some) (hn : va_nd isC = true) : PreS s H (va_Pc As (gv_Z D cI cJ wc H.size)) As :=
  ⟨gv_bZ, fun U hU hW => ⟨rfl, gv_pZ hP hK hD hG hZ hA isC hC hn hU hW⟩⟩
theorem gv_pVZ (hP : va_P D vwCl ws H) (hK : va_K D vwCl [(cI, .int), (cJ, .long)] s) (hD : va_D A ws) (hG : GW s) (hZ : GZ A0 s H) (hA : ∀ q, va_A wc H.size q → A0 q) (isC : List Nat) (hC : isC.map (fun i => ws[i]?) = wc.map some) (hn : va_nd isC = true) (q0 : Nat) {ci : Nat} {fs : List Value} {r : vw_C} (he : wc[q0]? = some (b, .inr (ci, fs))) (hc : vwCl[ci]? = some r) (hr : r.1 = C) : PreV s H C b (va_Pc (.ref b :: As) (gv_Z D cI cJ wc H.size)) As :=
  ⟨gv_bZ, by rw [← hr]; exact va_recv hK (gv_Psub hP isC hC) hc he, fun U hU hW => ⟨rfl, gv_pZ hP hK hD hG hZ hA isC hC hn hU hW⟩⟩
theorem gv_A0 {sz : Nat} (h : ∀ q, sz ≤ q → A q) : ∀ q, va_A [] sz q → A q := fun q h9 => by
  rcases h9 with ⟨k, e, h9⟩ | h9
  · simp at h9
  · exact h q h9
theorem gv_Awc {sz : Nat} (isC : List Nat) (hC : isC.map (fun i => ws[i]?) = wc.map some) : ∀ q, va_A wc sz q → va_A ws sz q := fun q h9 => by
  rcases h9 with ⟨k, e, h9⟩ | h9
  · have h1 : (isC.map (fun i => ws[i]?))[k]? = some (some (q, e)) := by rw [hC, List.getElem?_map, h9]; rfl
    rw [List.getElem?_map] at h1
    cases hi : isC[k]? with
    | none => rw [hi] at h1; cases h1
    | some i => rw [hi] at h1; exact Or.inl ⟨i, e, Option.some.inj h1⟩
  · exact Or.inr h9
end GVP
section GVR
variable {p : Program} {l : Launch} {e : Env} {R : Room} {s : State} {m : MethodId} {args : Array Value} {below : List Frame} {meth : Method} {c : Code} {H : Heap} {locs : List Loc} {cells slots : Nat} {Q : State → Prop}
variable {pc mc ms : Nat} {ls : Array Slot} {st0 rest : List Value} {a : Array Value} {cc : ByteArray}
theorem gv_nil {L : List Loc} (h : ∀ z ∈ L, (fun _ : Addr => False) z.base) : L = [] := by
  cases L with
  | nil => rfl
  | cons z L => exact (h z List.mem_cons_self).elim
/-- the top of the stack by another name -/
theorem gv_wi {x y : Int32} (h : x = y) (k : W p l e R s m args below meth c H locs cells slots Q (F0 m pc ls (.int y :: rest))) : W p l e R s m args below meth c H locs cells slots Q (F0 m pc ls (.int x :: rest)) := by rw [h]; exact k
theorem gv_wl {x y : Int64} (h : x = y) (k : W p l e R s m args below meth c H locs cells slots Q (F0 m pc ls (.long y :: rest))) : W p l e R s m args below meth c H locs cells slots Q (F0 m pc ls (.long x :: rest)) := by rw [h]; exact k
/-- branches that meet again at pc2, with an int (or nothing) on the stack -/
theorem gv_mg (P : Int32 → Prop) (pc2 : Nat) (rest2 : List Value) (K : ∀ v : Int32, P v → W p l e R s m args below meth c H locs cells slots Q (F0 m pc2 ls (.int v :: rest2))) (k : (∀ v : Int32, P v → W p l e R s m args below meth c H locs cells slots Q (F0 m pc2 ls (.int v :: rest2))) → W p l e R s m args below meth c H locs cells slots Q (F0 m pc ls st0)) : W p l e R s m args below meth c H locs cells slots Q (F0 m pc ls st0) := k K
/-- a loop that writes nothing; a loop that writes -/
theorem gv_lp {σ : Type} (Inv : σ → Array Slot → Prop) (μ : σ → Nat) (x0 : σ) (h0 : Inv x0 ls) (hs : ∀ (x : σ) (ls : Array Slot), Inv x ls → (∀ (x' : σ) (ls' : Array Slot), Inv x' ls' → μ x' < μ x → W p l e R s m args below meth c H locs cells slots Q (F0 m pc ls' rest)) → W p l e R s m args below meth c H locs cells slots Q (F0 m pc ls rest)) : W p l e R s m args below meth c H locs cells slots Q (F0 m pc ls rest) := by
  have key : ∀ (n : Nat) (x : σ) (ls : Array Slot), μ x < n → Inv x ls → W p l e R s m args below meth c H locs cells slots Q (F0 m pc ls rest) := by
    intro n
    induction n with
    | zero => intro x ls h; exact absurd h (Nat.not_lt_zero _)
    | succ n ih => intro x ls h hI; exact hs x ls hI (fun x' ls' hI' hm => ih x' ls' (by omega) hI')
  exact key _ x0 ls (Nat.lt_succ_self _) h0
theorem gv_lm {σ : Type} (Inv : σ → Heap → List Loc → Array Slot → Prop) (μ : σ → Nat) (x0 : σ) (h0 : Inv x0 H locs ls) (hs : ∀ (x : σ) (H : Heap) (locs : List Loc) (ls : Array Slot), Inv x H locs ls → (∀ (x' : σ) (H' : Heap) (locs' : List Loc) (ls' : Array Slot), Inv x' H' locs' ls' → μ x' < μ x → W p l e R s m args below meth c H' locs' cells slots Q (F0 m pc ls' rest)) → W p l e R s m args below meth c H locs cells slots Q (F0 m pc ls rest)) : W p l e R s m args below meth c H locs cells slots Q (F0 m pc ls rest) := by
  have key : ∀ (n : Nat) (x : σ) (H : Heap) (locs : List Loc) (ls : Array Slot), μ x < n → Inv x H locs ls → W p l e R s m args below meth c H locs cells slots Q (F0 m pc ls rest) := by
    intro n
    induction n with
    | zero => intro x H locs ls h; exact absurd h (Nat.not_lt_zero _)
    | succ n ih => intro x H locs ls h hI; exact hs x H locs ls hI (fun x' H' locs' ls' hI' hm => ih x' H' locs' ls' (by omega) hI')
  exact key _ x0 H locs ls (Nat.lt_succ_self _) h0
/-- calls that change nothing -/
theorem gv_pi {post : Int32 → Prop} (hr : va_Run p l e R s m args below meth c H locs cells slots 0 0 (F0 m pc ls st0) rest (vp_Si post a) (fun _ => False)) (kk : ∀ r : Int32, post r → W p l e R s m args below meth c H locs cells slots Q (F0 m (pc + 3) ls (.int r :: rest))) : W p l e R s m args below meth c H locs cells slots Q (F0 m pc ls st0) := by
  intro T hT X
  obtain ⟨v, st₀, t, T', L, h0, X', hL, e1, e2, ⟨r, hv, hp, hh⟩, st⟩ := hr T hT X
  cases hv
  cases gv_nil hL
  rw [List.append_nil] at X'
  obtain ⟨t2, a1, b1⟩ := kk r hp T' (by rw [e1, hh, h0]) X'
  exact ⟨t2, st t2 a1, b1⟩
theorem gv_pl {post : Int64 → Prop} (hr : va_Run p l e R s m args below meth c H locs cells slots 0 0 (F0 m pc ls st0) rest (vp_Sl post a) (fun _ => False)) (kk : ∀ r : Int64, post r → W p l e R s m args below meth c H locs cells slots Q (F0 m (pc + 3) ls (.long r :: rest))) : W p l e R s m args below meth c H locs cells slots Q (F0 m pc ls st0) := by
  intro T hT X
  obtain ⟨v, st₀, t, T', L, h0, X', hL, e1, e2, ⟨r, hv, hp, hh⟩, st⟩ := hr T hT X
  cases hv
  cases gv_nil hL
  rw [List.append_nil] at X'
  obtain ⟨t2, a1, b1⟩ := kk r hp T' (by rw [e1, hh, h0]) X'
  exact ⟨t2, st t2 a1, b1⟩
theorem gv_tight {T T' : State} {locs' : List Loc} {k n : Nat} (X : Stand p l e R s m args below meth c T locs cells slots) (X' : Stand p l e R s m args below meth c T' locs' k n) (h : T'.heap = T.heap) : Stand p l e R s m args below meth c T' locs cells slots :=
  have hs : s.sameButNew (T'.setVm s.vm) locs cells slots := by
    obtain ⟨a1, a2, a3, a4, a5, a6⟩ := X'.same
    obtain ⟨b1, b2, b3, b4, b5, b6⟩ := X.same
    have hh : (T'.setVm s.vm).heap = (T.setVm s.vm).heap := h
    exact ⟨a1, a2, by rw [hh]; exact b3, a4, by rw [hh]; exact b5, by rw [hh]; exact b6⟩
  ⟨X'.admits, X'.cas, X'.clock, X'.frames, X'.room, X'.hears, X'.method, X'.code, X'.here, X'.tail, X'.warmed, X'.limits, X'.bytes, hs⟩
/-- calls that change nothing, or throw -/
theorem gv_xi {post : Int32 → Prop} {BX : String → Prop} (hr : vx_Run p l e R s m args below meth c H locs cells slots mc ms (F0 m pc ls st0) rest (vp_Si post a) (gv_X BX) (fun _ => False))
    (kx : ∀ (E : String) (ce : Cell) (q9 : Addr) (H1 : Heap), BX E → H.size ≤ H1.size → (∀ q : Nat, q < H.size → H1[q]? = H[q]?) → H1[q9]? = some ce → ce.vm = .none → s.vm.findClass E = some ce.cls → vx_W p l e R s m args below meth c H1 locs (cells + mc) (slots + ms) Q (F0 m pc ls rest) q9)
    (kk : ∀ r : Int32, post r → W p l e R s m args below meth c H locs cells slots Q (F0 m (pc + 3) ls (.int r :: rest))) : W p l e R s m args below meth c H locs cells slots Q (F0 m pc ls st0) := by
  intro T hT X
  rcases hr T hT X with ⟨v, st₀, t, T', L, h0, X', hL, e1, e2, ⟨r, hv, hp, hh⟩, st⟩ | ⟨q, st₀, t, T', L, E, ce, h0, X', hL, e1, e2, ⟨hbx, hz, hk⟩, hce, hcv, hcl, st⟩
  · cases hv
    have hH : T'.heap = H := by rw [e1, hh, h0]
    obtain ⟨t2, a1, b1⟩ := kk r hp T' hH (gv_tight X X' (by rw [hH, hT]))
    exact ⟨t2, st t2 a1, b1⟩
  · cases gv_nil hL
    rw [List.append_nil] at X'
    rw [h0] at hz hk
    obtain ⟨t2, a1, b1⟩ := kx E ce q T'.heap hbx (by rw [e1]; exact hz) (fun z h => by rw [e1]; exact hk z h) (by rw [e1]; exact hce) hcv hcl T' rfl X'
    exact ⟨t2, st.trans a1, b1⟩
theorem gv_xl {post : Int64 → Prop} {BX : String → Prop} (hr : vx_Run p l e R s m args below meth c H locs cells slots mc ms (F0 m pc ls st0) rest (vp_Sl post a) (gv_X BX) (fun _ => False))
    (kx : ∀ (E : String) (ce : Cell) (q9 : Addr) (H1 : Heap), BX E → H.size ≤ H1.size → (∀ q : Nat, q < H.size → H1[q]? = H[q]?) → H1[q9]? = some ce → ce.vm = .none → s.vm.findClass E = some ce.cls → vx_W p l e R s m args below meth c H1 locs (cells + mc) (slots + ms) Q (F0 m pc ls rest) q9)
    (kk : ∀ r : Int64, post r → W p l e R s m args below meth c H locs cells slots Q (F0 m (pc + 3) ls (.long r :: rest))) : W p l e R s m args below meth c H locs cells slots Q (F0 m pc ls st0) := by
  intro T hT X
  rcases hr T hT X with ⟨v, st₀, t, T', L, h0, X', hL, e1, e2, ⟨r, hv, hp, hh⟩, st⟩ | ⟨q, st₀, t, T', L, E, ce, h0, X', hL, e1, e2, ⟨hbx, hz, hk⟩, hce, hcv, hcl, st⟩
  · cases hv
    have hH : T'.heap = H := by rw [e1, hh, h0]
    obtain ⟨t2, a1, b1⟩ := kk r hp T' hH (gv_tight X X' (by rw [hH, hT]))
    exact ⟨t2, st t2 a1, b1⟩
  · cases gv_nil hL
    rw [List.append_nil] at X'
    rw [h0] at hz hk
    obtain ⟨t2, a1, b1⟩ := kx E ce q T'.heap hbx (by rw [e1]; exact hz) (fun z h => by rw [e1]; exact hk z h) (by rw [e1]; exact hce) hcv hcl T' rfl X'
    exact ⟨t2, st.trans a1, b1⟩
theorem gv_xv {post : Prop} {BX : String → Prop} (hr : vx_Run p l e R s m args below meth c H locs cells slots mc ms (F0 m pc ls st0) rest (gv_Sv post a) (gv_X BX) (fun _ => False))
    (kx : ∀ (E : String) (ce : Cell) (q9 : Addr) (H1 : Heap), BX E → H.size ≤ H1.size → (∀ q : Nat, q < H.size → H1[q]? = H[q]?) → H1[q9]? = some ce → ce.vm = .none → s.vm.findClass E = some ce.cls → vx_W p l e R s m args below meth c H1 locs (cells + mc) (slots + ms) Q (F0 m pc ls rest) q9)
    (kk : post → W p l e R s m args below meth c H locs cells slots Q (F0 m (pc + 3) ls rest)) : W p l e R s m args below meth c H locs cells slots Q (F0 m pc ls st0) := by
  intro T hT X
  rcases hr T hT X with ⟨v, st₀, t, T', L, h0, X', hL, e1, e2, ⟨hv, hp, hh⟩, st⟩ | ⟨q, st₀, t, T', L, E, ce, h0, X', hL, e1, e2, ⟨hbx, hz, hk⟩, hce, hcv, hcl, st⟩
  · cases hv
    have hH : T'.heap = H := by rw [e1, hh, h0]
    obtain ⟨t2, a1, b1⟩ := kk hp T' hH (gv_tight X X' (by rw [hH, hT]))
    exact ⟨t2, st t2 a1, b1⟩
  · cases gv_nil hL
    rw [List.append_nil] at X'
    rw [h0] at hz hk
    obtain ⟨t2, a1, b1⟩ := kx E ce q T'.heap hbx (by rw [e1]; exact hz) (fun z h => by rw [e1]; exact hk z h) (by rw [e1]; exact hce) hcv hcl T' rfl X'
    exact ⟨t2, st.trans a1, b1⟩
/-- thrown on: nothing was written before -/
theorem gv_out {Qc : Array Value → State → Outcome → State → Prop} {BX : String → Prop} {free : Addr → Prop} {E : String} {ce : Cell} {q : Addr} {H1 : Heap} (ht : ∀ x ∈ c.exceptionTable.toList, False) (hlocks : meth.locks = false) (hz : s.heap.size ≤ H1.size) (hk : ∀ q : Nat, q < s.heap.size → H1[q]? = s.heap[q]?) (hcell : H1[q]? = some ce) (hv : ce.vm = .none) (hcl : s.vm.findClass E = some ce.cls) (hB : BX E) (hc : cells ≤ mc) (hs : slots ≤ ms) :
    vx_W p l e R s m args below meth c H1 [] cells slots (vx_MQ below Qc (gv_X BX) args s mc ms free) (F0 m pc ls rest) q :=
  vx_out (fun x hx => (ht x hx).elim) hlocks hcell hv hcl (fun t ht _ => ⟨hB, by rw [ht]; exact hz, fun z h => by rw [ht]; exact hk z h⟩) (fun _ h => absurd h List.not_mem_nil) hc hs
variable {D : va_G} {cI cJ : ClassId} {ws wc wr : va_W} {A : Nat → Prop}
/-- calls that change their world -/
theorem gv_mi {S : Type} {post : Int32 → S → Prop} {w1 w2 : S → va_W} (hr : va_Run p l e R s m args below meth c H locs cells slots mc ms (F0 m pc ls st0) rest (va_Qi post (fun u t => gv_W D (va_A wc H.size) (w1 u) t) (va_A wc H.size) a) (va_A wc H.size)) (hP : va_P D vwCl ws H) (hD : va_D A ws) (hS : va_S A s.heap H locs) (hA : ∀ q, s.heap.size ≤ q → A q)
    (isC isR isO : List Nat) (hC : isC.map (fun i => ws[i]?) = wc.map some) (hR : isR.map (fun i => ws[i]?) = wr.map some) (hn : va_nd isR = true) (hdis : ∀ i ∈ isR, i ∉ isC) (hO : ∀ u, isO.map (fun i => (wr ++ w1 u)[i]?) = (w2 u).map some) (hnO : va_nd isO = true)
    (kk : ∀ (r : Int32) (u : S) (H1 : Heap) (locs1 : List Loc), post r u → va_P D vwCl (w2 u) H1 → va_D A (w2 u) → va_S A s.heap H1 locs1 → W p l e R s m args below meth c H1 locs1 (cells + mc) (slots + ms) Q (F0 m (pc + 3) ls (.int r :: rest))) : W p l e R s m args below meth c H locs cells slots Q (F0 m pc ls st0) := by
  have hFc := va_free hD hS hA isC hC
  refine va_calli hr hS (fun q _ h => hFc q h) hFc (fun r u t H1 locs1 ht hvm hw hB hz hk hS1 => ?_)
  obtain ⟨hP1, hD1⟩ := hB
  rw [ht] at hP1
  obtain ⟨hP2, hD2⟩ := va_join hP hD isC isR hC hR hn hdis hk hFc hP1 hD1
  exact kk r u H1 locs1 hw (gv_Psub hP2 isO (hO u)) (hD2.sub isO hnO (hO u)) hS1
theorem gv_ml {S : Type} {post : Int64 → S → Prop} {w1 w2 : S → va_W} (hr : va_Run p l e R s m args below meth c H locs cells slots mc ms (F0 m pc ls st0) rest (va_Ql post (fun u t => gv_W D (va_A wc H.size) (w1 u) t) (va_A wc H.size) a) (va_A wc H.size)) (hP : va_P D vwCl ws H) (hD : va_D A ws) (hS : va_S A s.heap H locs) (hA : ∀ q, s.heap.size ≤ q → A q)
    (isC isR isO : List Nat) (hC : isC.map (fun i => ws[i]?) = wc.map some) (hR : isR.map (fun i => ws[i]?) = wr.map some) (hn : va_nd isR = true) (hdis : ∀ i ∈ isR, i ∉ isC) (hO : ∀ u, isO.map (fun i => (wr ++ w1 u)[i]?) = (w2 u).map some) (hnO : va_nd isO = true)
    (kk : ∀ (r : Int64) (u : S) (H1 : Heap) (locs1 : List Loc), post r u → va_P D vwCl (w2 u) H1 → va_D A (w2 u) → va_S A s.heap H1 locs1 → W p l e R s m args below meth c H1 locs1 (cells + mc) (slots + ms) Q (F0 m (pc + 3) ls (.long r :: rest))) : W p l e R s m args below meth c H locs cells slots Q (F0 m pc ls st0) := by
  have hFc := va_free hD hS hA isC hC
  refine va_calll hr hS (fun q _ h => hFc q h) hFc (fun r u t H1 locs1 ht hvm hw hB hz hk hS1 => ?_)
  obtain ⟨hP1, hD1⟩ := hB
  rw [ht] at hP1
  obtain ⟨hP2, hD2⟩ := va_join hP hD isC isR hC hR hn hdis hk hFc hP1 hD1
  exact kk r u H1 locs1 hw (gv_Psub hP2 isO (hO u)) (hD2.sub isO hnO (hO u)) hS1
theorem gv_mv {S : Type} {post : S → Prop} {w1 w2 : S → va_W} (hr : va_Run p l e R s m args below meth c H locs cells slots mc ms (F0 m pc ls st0) rest (va_Qv post (fun u t => gv_W D (va_A wc H.size) (w1 u) t) (va_A wc H.size) a) (va_A wc H.size)) (hP : va_P D vwCl ws H) (hD : va_D A ws) (hS : va_S A s.heap H locs) (hA : ∀ q, s.heap.size ≤ q → A q)
    (isC isR isO : List Nat) (hC : isC.map (fun i => ws[i]?) = wc.map some) (hR : isR.map (fun i => ws[i]?) = wr.map some) (hn : va_nd isR = true) (hdis : ∀ i ∈ isR, i ∉ isC) (hO : ∀ u, isO.map (fun i => (wr ++ w1 u)[i]?) = (w2 u).map some) (hnO : va_nd isO = true)
    (kk : ∀ (u : S) (H1 : Heap) (locs1 : List Loc), post u → va_P D vwCl (w2 u) H1 → va_D A (w2 u) → va_S A s.heap H1 locs1 → W p l e R s m args below meth c H1 locs1 (cells + mc) (slots + ms) Q (F0 m (pc + 3) ls rest)) : W p l e R s m args below meth c H locs cells slots Q (F0 m pc ls st0) := by
  have hFc := va_free hD hS hA isC hC
  refine va_callv hr hS (fun q _ h => hFc q h) hFc (fun u t H1 locs1 ht hvm hw hB hz hk hS1 => ?_)
  obtain ⟨hP1, hD1⟩ := hB
  rw [ht] at hP1
  obtain ⟨hP2, hD2⟩ := va_join hP hD isC isR hC hR hn hdis hk hFc hP1 hD1
  exact kk u H1 locs1 hw (gv_Psub hP2 isO (hO u)) (hD2.sub isO hnO (hO u)) hS1
/-- .. or throw, the world as it was -/
theorem gv_Pk {H1 : Heap} (hP : va_P D vwCl ws H) (hk : ∀ q : Nat, q < H.size → H1[q]? = H[q]?) : va_P D vwCl ws H1 := hP.kept (fun k q h => hk q.1 ((hP k q h).lt))
theorem gv_Sk {H1 : Heap} (hS : va_S A s.heap H locs) (hz : H.size ≤ H1.size) (hk : ∀ q : Nat, q < H.size → H1[q]? = H[q]?) : va_S A s.heap H1 locs :=
  ⟨Nat.le_trans hS.1 hz, fun q h1 h2 => by rw [hk q (Nat.lt_of_lt_of_le h1 hS.1)]; exact hS.2.1 q h1 h2, hS.2.2⟩
theorem gv_keepX {BX : String → Prop} {E : String} {st₀ t T' : State} (h0 : st₀.heap = H) (e1 : T'.heap = t.heap) (h : gv_X BX E st₀ t) : BX E ∧ H.size ≤ T'.heap.size ∧ ∀ q : Nat, q < H.size → T'.heap[q]? = H[q]? := by
  obtain ⟨hb, hz, hk⟩ := h
  rw [h0] at hz hk
  exact ⟨hb, by rw [e1]; exact hz, fun q h => by rw [e1]; exact hk q h⟩
theorem gv_SL {H1 : Heap} {L : List Loc} (hS : va_S A s.heap H locs) (hf : ∀ q, va_A wc H.size q → A q) (hL : ∀ z ∈ L, va_A wc H.size z.base) (hz : H.size ≤ H1.size) (hk : ∀ q : Nat, q < H.size → H1[q]? = H[q]?) : va_S A s.heap H1 (locs ++ L) := by
  obtain ⟨a1, a2, a3⟩ := gv_Sk hS hz hk
  refine ⟨a1, a2, fun q hq => ?_⟩
  rcases List.mem_append.mp hq with h | h
  · exact a3 q h
  · exact hf _ (hL q h)
theorem gv_tl {S : Type} {post : Int64 → S → Prop} {w1 w2 : S → va_W} {BX : String → Prop} (hr : vx_Run p l e R s m args below meth c H locs cells slots mc ms (F0 m pc ls st0) rest (va_Ql post (fun u t => gv_W D (va_A wc H.size) (w1 u) t) (va_A wc H.size) a) (gv_X BX) (va_A wc H.size)) (hP : va_P D vwCl ws H) (hD : va_D A ws) (hS : va_S A s.heap H locs) (hA : ∀ q, s.heap.size ≤ q → A q)
    (isC isR isO : List Nat) (hC : isC.map (fun i => ws[i]?) = wc.map some) (hR : isR.map (fun i => ws[i]?) = wr.map some) (hn : va_nd isR = true) (hdis : ∀ i ∈ isR, i ∉ isC) (hO : ∀ u, isO.map (fun i => (wr ++ w1 u)[i]?) = (w2 u).map some) (hnO : va_nd isO = true)
    (kx : ∀ (E : String) (ce : Cell) (q9 : Addr) (H1 : Heap) (locs1 : List Loc), BX E → va_P D vwCl ws H1 → va_S A s.heap H1 locs1 → H1[q9]? = some ce → ce.vm = .none → s.vm.findClass E = some ce.cls → vx_W p l e R s m args below meth c H1 locs1 (cells + mc) (slots + ms) Q (F0 m pc ls rest) q9)
    (kk : ∀ (r : Int64) (u : S) (H1 : Heap) (locs1 : List Loc), post r u → va_P D vwCl (w2 u) H1 → va_D A (w2 u) → va_S A s.heap H1 locs1 → W p l e R s m args below meth c H1 locs1 (cells + mc) (slots + ms) Q (F0 m (pc + 3) ls (.long r :: rest))) : W p l e R s m args below meth c H locs cells slots Q (F0 m pc ls st0) := by
  have hFc := va_free hD hS hA isC hC
  intro T hT X
  rcases hr T hT X with ⟨v, st₀, t, T', L, h0, X', hL, e1, e2, ⟨⟨r, u, hv, hp, hB⟩, hF⟩, st⟩ | ⟨q, st₀, t, T', L, E, ce, h0, X', hL, e1, e2, hx, hce, hcv, hcl, st⟩
  · cases hv
    obtain ⟨k1, k2, k3⟩ := vx_keep h0 e1 hS (fun q _ h => hFc q h) hFc hL hF
    obtain ⟨hP1, hD1⟩ := hB
    rw [← e1] at hP1
    obtain ⟨hP2, hD2⟩ := va_join hP hD isC isR hC hR hn hdis k2 hFc hP1 hD1
    obtain ⟨t2, a1, b1⟩ := kk r u T'.heap (locs ++ L) hp (gv_Psub hP2 isO (hO u)) (hD2.sub isO hnO (hO u)) k3 T' rfl X'
    exact ⟨t2, st t2 a1, b1⟩
  · obtain ⟨hb, hz, hk⟩ := gv_keepX h0 e1 hx
    obtain ⟨t2, a1, b1⟩ := kx E ce q T'.heap (locs ++ L) hb (gv_Pk hP hk) (gv_SL hS hFc hL hz hk) (by rw [e1]; exact hce) hcv hcl T' rfl X'
    exact ⟨t2, st.trans a1, b1⟩
theorem gv_ti {S : Type} {post : Int32 → S → Prop} {w1 w2 : S → va_W} {BX : String → Prop} (hr : vx_Run p l e R s m args below meth c H locs cells slots mc ms (F0 m pc ls st0) rest (va_Qi post (fun u t => gv_W D (va_A wc H.size) (w1 u) t) (va_A wc H.size) a) (gv_X BX) (va_A wc H.size)) (hP : va_P D vwCl ws H) (hD : va_D A ws) (hS : va_S A s.heap H locs) (hA : ∀ q, s.heap.size ≤ q → A q)
    (isC isR isO : List Nat) (hC : isC.map (fun i => ws[i]?) = wc.map some) (hR : isR.map (fun i => ws[i]?) = wr.map some) (hn : va_nd isR = true) (hdis : ∀ i ∈ isR, i ∉ isC) (hO : ∀ u, isO.map (fun i => (wr ++ w1 u)[i]?) = (w2 u).map some) (hnO : va_nd isO = true)
    (kx : ∀ (E : String) (ce : Cell) (q9 : Addr) (H1 : Heap) (locs1 : List Loc), BX E → va_P D vwCl ws H1 → va_S A s.heap H1 locs1 → H1[q9]? = some ce → ce.vm = .none → s.vm.findClass E = some ce.cls → vx_W p l e R s m args below meth c H1 locs1 (cells + mc) (slots + ms) Q (F0 m pc ls rest) q9)
    (kk : ∀ (r : Int32) (u : S) (H1 : Heap) (locs1 : List Loc), post r u → va_P D vwCl (w2 u) H1 → va_D A (w2 u) → va_S A s.heap H1 locs1 → W p l e R s m args below meth c H1 locs1 (cells + mc) (slots + ms) Q (F0 m (pc + 3) ls (.int r :: rest))) : W p l e R s m args below meth c H locs cells slots Q (F0 m pc ls st0) := by
  have hFc := va_free hD hS hA isC hC
  intro T hT X
  rcases hr T hT X with ⟨v, st₀, t, T', L, h0, X', hL, e1, e2, ⟨⟨r, u, hv, hp, hB⟩, hF⟩, st⟩ | ⟨q, st₀, t, T', L, E, ce, h0, X', hL, e1, e2, hx, hce, hcv, hcl, st⟩
  · cases hv
    obtain ⟨k1, k2, k3⟩ := vx_keep h0 e1 hS (fun q _ h => hFc q h) hFc hL hF
    obtain ⟨hP1, hD1⟩ := hB
    rw [← e1] at hP1
    obtain ⟨hP2, hD2⟩ := va_join hP hD isC isR hC hR hn hdis k2 hFc hP1 hD1
    obtain ⟨t2, a1, b1⟩ := kk r u T'.heap (locs ++ L) hp (gv_Psub hP2 isO (hO u)) (hD2.sub isO hnO (hO u)) k3 T' rfl X'
    exact ⟨t2, st t2 a1, b1⟩
  · obtain ⟨hb, hz, hk⟩ := gv_keepX h0 e1 hx
    obtain ⟨t2, a1, b1⟩ := kx E ce q T'.heap (locs ++ L) hb (gv_Pk hP hk) (gv_SL hS hFc hL hz hk) (by rw [e1]; exact hce) hcv hcl T' rfl X'
    exact ⟨t2, st.trans a1, b1⟩
variable {A9 : Nat → Prop} {ws9 : va_W} {H0 : Heap}
/-- arrays at places that are numbers -/
theorem gv_il (hexec : p.tables.exec = Jvm.exec) (hb : c.code = cc) (hK : va_K D vwCl [(cI, .int), (cJ, .long)] s) (hP : va_P D vwCl ws H) (q0 : Nat) {q : Nat} {n k : Nat} {f : Nat → Int32} (ha : ws[q0]? = some (q, .inl (cI, n, .inl f))) (hk : k < n) (hn : n < 2 ^ 31) (hdg : decode cc pc = .ok (.iaload, 1)) (kk : W p l e R s m args below meth c H locs cells slots Q (F0 m (pc + 1) ls (.int (f k) :: rest))) : W p l e R s m args below meth c H locs cells slots Q (F0 m pc ls (.int (nI k) :: .ref q :: rest)) := by
  refine va_iald hexec hb hK hP q0 0 ha rfl (vp_in_nI hk hn) hdg ?_
  rw [nI_clamp (Nat.lt_trans hk hn)]
  exact kk
theorem gv_ll (hexec : p.tables.exec = Jvm.exec) (hb : c.code = cc) (hK : va_K D vwCl [(cI, .int), (cJ, .long)] s) (hP : va_P D vwCl ws H) (q0 : Nat) {q : Nat} {n k : Nat} {f : Nat → Int64} (ha : ws[q0]? = some (q, .inl (cJ, n, .inr (.inl f)))) (hk : k < n) (hn : n < 2 ^ 31) (hdg : decode cc pc = .ok (.laload, 1)) (kk : W p l e R s m args below meth c H locs cells slots Q (F0 m (pc + 1) ls (.long (f k) :: rest))) : W p l e R s m args below meth c H locs cells slots Q (F0 m pc ls (.int (nI k) :: .ref q :: rest)) := by
  refine va_lald hexec hb hK hP q0 1 ha rfl (vp_in_nI hk hn) hdg ?_
  rw [nI_clamp (Nat.lt_trans hk hn)]
  exact kk
theorem gv_is (hexec : p.tables.exec = Jvm.exec) (hb : c.code = cc) (hK : va_K D vwCl [(cI, .int), (cJ, .long)] s) (hP : va_P D vwCl ws H) (hD : va_D A ws) (hS : va_S A H0 H locs) (q0 : Nat) {q : Nat} {n k : Nat} {f : Nat → Int32} {x : Int32} (ha : ws[q0]? = some (q, .inl (cI, n, .inl f))) (hk : k < n) (hn : n < 2 ^ 31) (hdg : decode cc pc = .ok (.iastore, 1)) (kk : ∀ (H1 : Heap) (locs1 : List Loc), va_P D vwCl (ws.set q0 (q, .inl (cI, n, .inl (upd f k x)))) H1 → va_D A (ws.set q0 (q, .inl (cI, n, .inl (upd f k x)))) → va_S A H0 H1 locs1 → W p l e R s m args below meth c H1 locs1 cells slots Q (F0 m (pc + 1) ls rest)) : W p l e R s m args below meth c H locs cells slots Q (F0 m pc ls (.int x :: .int (nI k) :: .ref q :: rest)) := by
  refine va_iast hexec hb hK hP hD hS q0 0 ha rfl (vp_in_nI hk hn) hdg ?_
  rw [nI_clamp (Nat.lt_trans hk hn)]
  exact kk
theorem gv_ls (hexec : p.tables.exec = Jvm.exec) (hb : c.code = cc) (hK : va_K D vwCl [(cI, .int), (cJ, .long)] s) (hP : va_P D vwCl ws H) (hD : va_D A ws) (hS : va_S A H0 H locs) (q0 : Nat) {q : Nat} {n k : Nat} {f : Nat → Int64} {x : Int64} (ha : ws[q0]? = some (q, .inl (cJ, n, .inr (.inl f)))) (hk : k < n) (hn : n < 2 ^ 31) (hdg : decode cc pc = .ok (.lastore, 1)) (kk : ∀ (H1 : Heap) (locs1 : List Loc), va_P D vwCl (ws.set q0 (q, .inl (cJ, n, .inr (.inl (vp_updL f k x))))) H1 → va_D A (ws.set q0 (q, .inl (cJ, n, .inr (.inl (vp_updL f k x))))) → va_S A H0 H1 locs1 → W p l e R s m args below meth c H1 locs1 cells slots Q (F0 m (pc + 1) ls rest)) : W p l e R s m args below meth c H locs cells slots Q (F0 m pc ls (.long x :: .int (nI k) :: .ref q :: rest)) := by
  refine va_last hexec hb hK hP hD hS q0 1 ha rfl (vp_in_nI hk hn) hdg ?_
  rw [nI_clamp (Nat.lt_trans hk hn)]
  exact kk
theorem gv_nz {v : Int32} (h : v = 0 ∨ v = 1) : narrow .boolean (.int v) = .int v := by rcases h with rfl | rfl <;> rfl
end GVR
end
section
theorem gv_nlt {a b : Int64} (h : ¬ a < b) : b ≤ a := by rw [Int64.lt_iff_toInt_lt] at h; rw [Int64.le_iff_toInt_le]; omega
theorem gv_nle {a b : Int64} (h : ¬ a ≤ b) : b < a := by rw [Int64.le_iff_toInt_le] at h; rw [Int64.lt_iff_toInt_lt]; omega
theorem gv_ltn {a b : Int64} (h : a < b) : ¬ b ≤ a := by rw [Int64.lt_iff_toInt_lt] at h; rw [Int64.le_iff_toInt_le]; omega
theorem gv_len {a b : Int64} (h : a ≤ b) : ¬ b < a := by rw [Int64.le_iff_toInt_le] at h; rw [Int64.lt_iff_toInt_lt]; omega
theorem gv_ofWF {l : Launch} {y : MethodName} {ws ws' : List Cond} {rm : Room} {Pc : Array Value → State → Prop} {Qc : Array Value → State → Outcome → State → Prop} {mc ms : Nat} {free : Addr → Prop} {cc : ByteArray} {maxL : Nat} {ret : Option FieldType}
    (hy : plainFor y = true) (hw : ws = Cond.code y cc maxL ret :: ws')
    (body : ∀ p e s m args below meth c s₁, BodyLoose p l y (headSpec ws rm) cc maxL ret e s m args below meth c s₁ → c.maxLocals = maxL → Pc args s →
      W p l e (headSpec ws rm).room s m args below meth c s.heap [] 0 0 (MQ below Qc args s mc ms free) (entryFrame m args maxL)) : Met l y ws rm Pc Qc mc ms free := by
  refine MetFree.of_bodySF (code := cc) (maxLocals := maxL) (ret := ret) hy ?_ ?_
  · intro args s m h hn
    obtain ⟨meth, c, h1, h2, h3, h4, h5, h6, -, -⟩ := Cond.code_spec hn (atoms_spec (ws := ws) h _ (by rw [hw]; exact List.mem_cons_self))
    exact ⟨meth, c, h1, h2, h3, h4, h5, h6⟩
  · intro p e s m args below meth c s₁ B hml hP _
    have hh0 : s₁.heap = s.heap := by rw [B.state]; rfl
    obtain ⟨t, a1, o, b1, b2, b3⟩ := body p e s m args below meth c s₁ B hml hP s₁ hh0 (Stand.of_body B)
    exact ⟨t, o, a1, b1, b2, ⟨b3.1, b3.2⟩⟩
def gv_plo (m q : Int64) : Int64 := if q < 1 then 0 else m * 1000000 / q
theorem gv_cAI {D : va_G} {cl : List vw_C} {cI cJ cA : ClassId} {s : State} (h : va_K D cl ([(cI, .int), (cJ, .long)] ++ [(cA, .int)]) s) : cI = cA := Option.some.inj ((h.2 0 (cI, .int) rfl).2.symm.trans (h.2 2 (cA, .int) rfl).2)
theorem gv_cAJ {D : va_G} {cl : List vw_C} {cI cJ cA : ClassId} {s : State} (h : va_K D cl ([(cI, .int), (cJ, .long)] ++ [(cA, .long)]) s) : cJ = cA := Option.some.inj ((h.2 1 (cJ, .long) rfl).2.symm.trans (h.2 2 (cA, .long) rfl).2)
set_option maxHeartbeats 4000000 in
set_option maxRecDepth 100000 in
theorem ct_X5_cellNumber (l : Launch) (a b : Nat)  : Met l yX5_cellNumber wsX5_cellNumber ({ frames := 0, cells := 0, slots := 0, locals := 0 }) (va_Pc [.int (nI a), .int (nI b)] (fun _ => True)) (vp_Si (fun r9 : Int32 => r9 = nI (b * 8 + a))) 0 0 (fun _ => False) := by
  refine Met.ofW (cc := cX5_cellNumber) (maxL := 2) (ret := (some .int)) (by decide) rfl ?_
  intro p e s m args below meth c s₁ B hml hv
  obtain ⟨rfl, -⟩ := hv
  have hx := B.exec
  have hb := B.bytes
  have hr := B.returns
  have hts := atoms_spec (ws := wsX5_cellNumber) B.pre
  have hown : s.vm.findClass RX5 = some m.cls := findClass_of_methodNamed B.named
  have hlocks := B.notSynchronized
  have hl := lv_entry ([.int (nI a), .int (nI b)]) (n := 2) (Nat.le_of_ble_eq_true rfl)
  rw [lg_entry_eq]
  generalize (lg_sl ([.int (nI a), .int (nI b)]) ++ List.replicate (2 - (lg_sl ([.int (nI a), .int (nI b)])).length) Slot.unset).toArray = ls at hl ⊢
  have hl : lv_has ls 2 [(0, .int (nI a)), (1, .int (nI b))] := hl
  refine lv_iload_n hx hb dX5_cellNumber_0 rfl (lv_at hl 1 rfl) ?_
  refine lv_bipush (v := nI 8) hx hb dX5_cellNumber_1 (by decide) ?_
  refine lv_imul hx hb dX5_cellNumber_3 ?_
  refine gv_wi (pk_mul b 8) ?_
  refine lv_iload_n hx hb dX5_cellNumber_4 rfl (lv_at hl 0 rfl) ?_
  refine lv_iadd hx hb dX5_cellNumber_5 ?_
  refine gv_wi (nI_add (b * 8) a) ?_
  have hpo : (nI (b * 8 + a)) = nI (b * 8 + a) := by
    rfl
  exact W.iret (v := nI (b * 8 + a)) hx hb hr (fun t9 ht9 hW9 => ⟨(nI (b * 8 + a)), rfl, hpo, ht9⟩) t_nil dX5_cellNumber_6
set_option maxHeartbeats 4000000 in
set_option maxRecDepth 100000 in
theorem ct_X1_squareOf (l : Launch) (dx dy : Int32) (la : Nat)  : Met l yX1_squareOf wsX1_squareOf ({ frames := 0, cells := 0, slots := 0, locals := 0 }) (va_Pc [.int dx, .int dy, .int (nI la)] (fun _ => True)) (vp_Sl (fun r9 : Int64 => r9 = (dx * dx + dy * dy + nI ((la + 1) * (la + 1))).toInt64)) 0 0 (fun _ => False) := by
  refine Met.ofW (cc := cX1_squareOf) (maxL := 3) (ret := (some .long)) (by decide) rfl ?_
  intro p e s m args below meth c s₁ B hml hv
  obtain ⟨rfl, -⟩ := hv
  have hx := B.exec
  have hb := B.bytes
  have hr := B.returns
  have hts := atoms_spec (ws := wsX1_squareOf) B.pre
  have hown : s.vm.findClass RX1 = some m.cls := findClass_of_methodNamed B.named
  have hlocks := B.notSynchronized
  have hl := lv_entry ([.int dx, .int dy, .int (nI la)]) (n := 3) (Nat.le_of_ble_eq_true rfl)
  rw [lg_entry_eq]
  generalize (lg_sl ([.int dx, .int dy, .int (nI la)]) ++ List.replicate (3 - (lg_sl ([.int dx, .int dy, .int (nI la)])).length) Slot.unset).toArray = ls at hl ⊢
  have hl : lv_has ls 3 [(0, .int dx), (1, .int dy), (2, .int (nI la))] := hl
  refine lv_iload_n hx hb dX1_squareOf_0 rfl (lv_at hl 0 rfl) ?_
  refine lv_iload_n hx hb dX1_squareOf_1 rfl (lv_at hl 0 rfl) ?_
  refine lv_imul hx hb dX1_squareOf_2 ?_
  refine lv_iload_n hx hb dX1_squareOf_3 rfl (lv_at hl 1 rfl) ?_
  refine lv_iload_n hx hb dX1_squareOf_4 rfl (lv_at hl 1 rfl) ?_
  refine lv_imul hx hb dX1_squareOf_5 ?_
  refine lv_iadd hx hb dX1_squareOf_6 ?_
  refine lv_iload_n hx hb dX1_squareOf_7 rfl (lv_at hl 2 rfl) ?_
  refine lv_iconst (v := nI 1) hx hb dX1_squareOf_8 (by decide) ?_
  refine lv_iadd hx hb dX1_squareOf_9 ?_
  refine gv_wi (nI_add la 1) ?_
  refine lv_iload_n hx hb dX1_squareOf_10 rfl (lv_at hl 2 rfl) ?_
  refine lv_iconst (v := nI 1) hx hb dX1_squareOf_11 (by decide) ?_
  refine lv_iadd hx hb dX1_squareOf_12 ?_
  refine gv_wi (nI_add la 1) ?_
  refine lv_imul hx hb dX1_squareOf_13 ?_
  refine gv_wi (pk_mul (la + 1) (la + 1)) ?_
  refine lv_iadd hx hb dX1_squareOf_14 ?_
  refine lv_i2l (v := (((dx * dx) + (dy * dy)) + (nI ((la + 1) * (la + 1)))).toInt64) hx hb dX1_squareOf_15 rfl ?_
  have hpo : ((((dx * dx) + (dy * dy)) + (nI ((la + 1) * (la + 1)))).toInt64) = (dx * dx + dy * dy + nI ((la + 1) * (la + 1))).toInt64 := by
    rfl
  exact W.lret (v := (((dx * dx) + (dy * dy)) + (nI ((la + 1) * (la + 1)))).toInt64) hx hb hr (fun t9 ht9 hW9 => ⟨((((dx * dx) + (dy * dy)) + (nI ((la + 1) * (la + 1)))).toInt64), rfl, hpo, ht9⟩) t_nil dX1_squareOf_16
set_option maxHeartbeats 4000000 in
set_option maxRecDepth 100000 in
theorem ct_X1_pullOf (l : Launch) (ms sq : Int64)  : Met l yX1_pullOf wsX1_pullOf ({ frames := 0, cells := 0, slots := 0, locals := 0 }) (va_Pc [.long ms, .long sq] (fun _ => True)) (vp_Sl (fun r9 : Int64 => r9 = gv_plo ms sq)) 0 0 (fun _ => False) := by
  refine Met.ofW (cc := cX1_pullOf) (maxL := 4) (ret := (some .long)) (by decide) rfl ?_
  intro p e s m args below meth c s₁ B hml hv
  obtain ⟨rfl, -⟩ := hv
  have hx := B.exec
  have hb := B.bytes
  have hr := B.returns
  have hts := atoms_spec (ws := wsX1_pullOf) B.pre
  have hown : s.vm.findClass RX1 = some m.cls := findClass_of_methodNamed B.named
  have hlocks := B.notSynchronized
  have hl := lv_entry ([.long ms, .long sq]) (n := 4) (Nat.le_of_ble_eq_true rfl)
  rw [lg_entry_eq]
  generalize (lg_sl ([.long ms, .long sq]) ++ List.replicate (4 - (lg_sl ([.long ms, .long sq])).length) Slot.unset).toArray = ls at hl ⊢
  have hl : lv_has ls 4 [(0, .long ms), (2, .long sq)] := hl
  refine lv_lload_n hx hb dX1_pullOf_0 rfl (lv_at hl 1 rfl) ?_
  refine lv_lconst (v := 1) hx hb dX1_pullOf_1 (by decide) ?_
  refine W.lcmp hx hb dX1_pullOf_2 ?_
  refine lv_if_ge (tgt := 10) hx hb dX1_pullOf_3 (by decide) (fun c_3 => ?_) (fun c_3 => ?_)
  · skip
    have c_3 := (lg_cmp_ge _ _).mp c_3
    have hne : ¬ sq = 0 := fun h => by rw [h] at c_3; exact absurd c_3 (by decide)
    refine lv_lload_n hx hb dX1_pullOf_10 rfl (lv_at hl 0 rfl) ?_
    refine lv_ldc2 hx hb hown (hts (.constantLong RX1 37 (1000000)) (by decide +kernel)) dX1_pullOf_11 ?_
    refine lv_lmul hx hb dX1_pullOf_14 ?_
    refine lv_lload_n hx hb dX1_pullOf_15 rfl (lv_at hl 1 rfl) ?_
    refine lv_ldiv hx hb dX1_pullOf_16 (hne) ?_
    have hpo : ((ms * 1000000) / sq) = gv_plo ms sq := by
      exact (if_neg (gv_len c_3)).symm
    exact W.lret (v := (ms * 1000000) / sq) hx hb hr (fun t9 ht9 hW9 => ⟨((ms * 1000000) / sq), rfl, hpo, ht9⟩) t_nil dX1_pullOf_17
  · skip
    have c_3 := (not_congr (lg_cmp_ge _ _)).mp c_3
    refine lv_lconst (v := 0) hx hb dX1_pullOf_6 (by decide) ?_
    refine lv_goto (tgt := 17) hx hb dX1_pullOf_7 (by decide) ?_
    have hpo : 0 = gv_plo ms sq := by
      exact (if_pos (gv_nle c_3)).symm
    exact W.lret (v := 0) hx hb hr (fun t9 ht9 hW9 => ⟨0, rfl, hpo, ht9⟩) t_nil dX1_pullOf_17
set_option maxHeartbeats 4000000 in
set_option maxRecDepth 100000 in
theorem ct_X6_isIn (l : Launch) (v lo hi : Int64)  : Met l yX6_isIn wsX6_isIn ({ frames := 0, cells := 0, slots := 0, locals := 0 }) (va_Pc [.long v, .long lo, .long hi] (fun _ => True)) (vp_Si (fun r9 : Int32 => r9 = if lo ≤ v ∧ v ≤ hi then nI 1 else nI 0)) 0 0 (fun _ => False) := by
  refine Met.ofW (cc := cX6_isIn) (maxL := 6) (ret := (some .boolean)) (by decide) rfl ?_
  intro p e s m args below meth c s₁ B hml hv
  obtain ⟨rfl, -⟩ := hv
  have hx := B.exec
  have hb := B.bytes
  have hr := B.returns
  have hts := atoms_spec (ws := wsX6_isIn) B.pre
  have hown : s.vm.findClass RX6 = some m.cls := findClass_of_methodNamed B.named
  have hlocks := B.notSynchronized
  have hl := lv_entry ([.long v, .long lo, .long hi]) (n := 6) (Nat.le_of_ble_eq_true rfl)
  rw [lg_entry_eq]
  generalize (lg_sl ([.long v, .long lo, .long hi]) ++ List.replicate (6 - (lg_sl ([.long v, .long lo, .long hi])).length) Slot.unset).toArray = ls at hl ⊢
  have hl : lv_has ls 6 [(0, .long v), (2, .long lo), (4, .long hi)] := hl
  refine lv_lload_n hx hb dX6_isIn_0 rfl (lv_at hl 0 rfl) ?_
  refine lv_lload_n hx hb dX6_isIn_1 rfl (lv_at hl 1 rfl) ?_
  refine W.lcmp hx hb dX6_isIn_2 ?_
  refine lv_if_lt (tgt := 17) hx hb dX6_isIn_3 (by decide) (fun c_3 => ?_) (fun c_3 => ?_)
  · skip
    have c_3 := (lg_cmp_lt _ _).mp c_3
    refine lv_iconst (v := nI 0) hx hb dX6_isIn_17 (by decide) ?_
    have hpo : (nI 0) = if lo ≤ v ∧ v ≤ hi then nI 1 else nI 0 := by
      exact (if_neg (fun h => by first | exact absurd h.1 (gv_ltn c_3) | exact absurd h.2 (gv_ltn c_10))).symm
    exact W.zret (v := nI 0) (ty := .boolean) hx hb hr rfl (fun t9 ht9 hW9 => ⟨(nI 0), rfl, hpo, ht9⟩) t_nil dX6_isIn_18
  · skip
    have c_3 := (not_congr (lg_cmp_lt _ _)).mp c_3
    refine lv_lload_n hx hb dX6_isIn_6 rfl (lv_at hl 0 rfl) ?_
    refine lv_lload hx hb dX6_isIn_7 (lv_at hl 2 rfl) ?_
    refine W.lcmp hx hb dX6_isIn_9 ?_
    refine lv_if_gt (tgt := 17) hx hb dX6_isIn_10 (by decide) (fun c_10 => ?_) (fun c_10 => ?_)
    · skip
      have c_10 := (lg_cmp_gt _ _).mp c_10
      refine lv_iconst (v := nI 0) hx hb dX6_isIn_17 (by decide) ?_
      have hpo : (nI 0) = if lo ≤ v ∧ v ≤ hi then nI 1 else nI 0 := by
        exact (if_neg (fun h => by first | exact absurd h.1 (gv_ltn c_3) | exact absurd h.2 (gv_ltn c_10))).symm
      exact W.zret (v := nI 0) (ty := .boolean) hx hb hr rfl (fun t9 ht9 hW9 => ⟨(nI 0), rfl, hpo, ht9⟩) t_nil dX6_isIn_18
    · skip
      have c_10 := (not_congr (lg_cmp_gt _ _)).mp c_10
      refine lv_iconst (v := nI 1) hx hb dX6_isIn_13 (by decide) ?_
      refine lv_goto (tgt := 18) hx hb dX6_isIn_14 (by decide) ?_
      have hpo : (nI 1) = if lo ≤ v ∧ v ≤ hi then nI 1 else nI 0 := by
        exact (if_pos ⟨gv_nlt c_3, gv_nlt c_10⟩).symm
      exact W.zret (v := nI 1) (ty := .boolean) hx hb hr rfl (fun t9 ht9 hW9 => ⟨(nI 1), rfl, hpo, ht9⟩) t_nil dX6_isIn_18
set_option maxHeartbeats 4000000 in
set_option maxRecDepth 100000 in
theorem ct_X6_down (l : Launch) (v by_ : Int64) (h0 : ¬ by_ = 0) : Met l yX6_down wsX6_down ({ frames := 0, cells := 0, slots := 0, locals := 0 }) (va_Pc [.long v, .long by_] (fun _ => True)) (vp_Sl (fun r9 : Int64 => r9 = if v - v / by_ * by_ < 0 then v / by_ - 1 else v / by_)) 0 0 (fun _ => False) := by
  refine Met.ofW (cc := cX6_down) (maxL := 6) (ret := (some .long)) (by decide) rfl ?_
  intro p e s m args below meth c s₁ B hml hv
  obtain ⟨rfl, -⟩ := hv
  have hx := B.exec
  have hb := B.bytes
  have hr := B.returns
  have hts := atoms_spec (ws := wsX6_down) B.pre
  have hown : s.vm.findClass RX6 = some m.cls := findClass_of_methodNamed B.named
  have hlocks := B.notSynchronized
  have hl := lv_entry ([.long v, .long by_]) (n := 6) (Nat.le_of_ble_eq_true rfl)
  rw [lg_entry_eq]
  generalize (lg_sl ([.long v, .long by_]) ++ List.replicate (6 - (lg_sl ([.long v, .long by_])).length) Slot.unset).toArray = ls at hl ⊢
  have hl : lv_has ls 6 [(0, .long v), (2, .long by_)] := hl
  refine lv_lload_n hx hb dX6_down_0 rfl (lv_at hl 0 rfl) ?_
  refine lv_lload_n hx hb dX6_down_1 rfl (lv_at hl 1 rfl) ?_
  refine lv_ldiv hx hb dX6_down_2 (h0) ?_
  refine lv_lstore (lv' := [(4, .long (v / by_)), (0, .long v), (2, .long by_)]) hx hb dX6_down_3 hl (by decide) rfl (fun ls hl => ?_)
  refine lv_lload_n hx hb dX6_down_5 rfl (lv_at hl 1 rfl) ?_
  refine lv_lload_n hx hb dX6_down_6 rfl (lv_at hl 2 rfl) ?_
  refine lv_lrem hx hb dX6_down_7 (h0) ?_
  refine lv_lconst (v := 0) hx hb dX6_down_8 (by decide) ?_
  refine W.lcmp hx hb dX6_down_9 ?_
  refine lv_if_ge (tgt := 20) hx hb dX6_down_10 (by decide) (fun c_10 => ?_) (fun c_10 => ?_)
  · skip
    have c_10 := (lg_cmp_ge _ _).mp c_10
    refine lv_lload hx hb dX6_down_20 (lv_at hl 0 rfl) ?_
    have hpo : (v / by_) = if v - v / by_ * by_ < 0 then v / by_ - 1 else v / by_ := by
      exact (if_neg (gv_len c_10)).symm
    exact W.lret (v := v / by_) hx hb hr (fun t9 ht9 hW9 => ⟨(v / by_), rfl, hpo, ht9⟩) t_nil dX6_down_22
  · skip
    have c_10 := (not_congr (lg_cmp_ge _ _)).mp c_10
    refine lv_lload hx hb dX6_down_13 (lv_at hl 0 rfl) ?_
    refine lv_lconst (v := 1) hx hb dX6_down_15 (by decide) ?_
    refine lv_lsub hx hb dX6_down_16 ?_
    refine lv_goto (tgt := 22) hx hb dX6_down_17 (by decide) ?_
    have hpo : ((v / by_) - 1) = if v - v / by_ * by_ < 0 then v / by_ - 1 else v / by_ := by
      exact (if_pos (gv_nle c_10)).symm
    exact W.lret (v := (v / by_) - 1) hx hb hr (fun t9 ht9 hW9 => ⟨((v / by_) - 1), rfl, hpo, ht9⟩) t_nil dX6_down_22
set_option maxHeartbeats 4000000 in
set_option maxRecDepth 100000 in
theorem ct_J9_floorDiv_f86c9 (l : Launch) (v by_ : Int64) (h0 : ¬ by_ = 0) : Met l yJ9_floorDiv_f86c9 wsJ9_floorDiv_f86c9 ({ frames := 0, cells := 0, slots := 0, locals := 0 }) (va_Pc [.long v, .long by_] (fun _ => True)) (vp_Sl (fun r9 : Int64 => r9 = if (v ^^^ by_) < 0 ∧ ¬ v / by_ * by_ = v then v / by_ - 1 else v / by_)) 0 0 (fun _ => False) := by
  refine gv_ofWF (cc := cJ9_floorDiv_f86c9) (maxL := 6) (ret := (some .long)) (by decide +kernel) rfl ?_
  intro p e s m args below meth c s₁ B hml hv
  obtain ⟨rfl, -⟩ := hv
  have hx := B.exec
  have hb := B.bytes
  have hr := B.returns
  have hts := atoms_spec (ws := wsJ9_floorDiv_f86c9) B.pre
  have hown : s.vm.findClass RJ9 = some m.cls := findClass_of_methodNamed B.named
  have hlocks := B.notSynchronized
  have hl := lv_entry ([.long v, .long by_]) (n := 6) (Nat.le_of_ble_eq_true rfl)
  rw [lg_entry_eq]
  generalize (lg_sl ([.long v, .long by_]) ++ List.replicate (6 - (lg_sl ([.long v, .long by_])).length) Slot.unset).toArray = ls at hl ⊢
  have hl : lv_has ls 6 [(0, .long v), (2, .long by_)] := hl
  refine lv_lload_n hx hb dJ9_floorDiv_f86c9_0 rfl (lv_at hl 0 rfl) ?_
  refine lv_lload_n hx hb dJ9_floorDiv_f86c9_1 rfl (lv_at hl 1 rfl) ?_
  refine lv_ldiv hx hb dJ9_floorDiv_f86c9_2 (h0) ?_
  refine lv_lstore (lv' := [(4, .long (v / by_)), (0, .long v), (2, .long by_)]) hx hb dJ9_floorDiv_f86c9_3 hl (by decide) rfl (fun ls hl => ?_)
  refine lv_lload_n hx hb dJ9_floorDiv_f86c9_5 rfl (lv_at hl 1 rfl) ?_
  refine lv_lload_n hx hb dJ9_floorDiv_f86c9_6 rfl (lv_at hl 2 rfl) ?_
  refine lv_lxor hx hb dJ9_floorDiv_f86c9_7 ?_
  refine lv_lconst (v := 0) hx hb dJ9_floorDiv_f86c9_8 (by decide) ?_
  refine W.lcmp hx hb dJ9_floorDiv_f86c9_9 ?_
  refine lv_if_ge (tgt := 27) hx hb dJ9_floorDiv_f86c9_10 (by decide) (fun c_10 => ?_) (fun c_10 => ?_)
  · skip
    have c_10 := (lg_cmp_ge _ _).mp c_10
    refine lv_lload hx hb dJ9_floorDiv_f86c9_27 (lv_at hl 0 rfl) ?_
    have hpo : (v / by_) = if (v ^^^ by_) < 0 ∧ ¬ v / by_ * by_ = v then v / by_ - 1 else v / by_ := by
      exact (if_neg (fun h => by first | exact absurd h.1 (gv_len c_10) | exact h.2 c_19)).symm
    exact W.lret (v := v / by_) hx hb hr (fun t9 ht9 hW9 => ⟨(v / by_), rfl, hpo, ht9⟩) t_nil dJ9_floorDiv_f86c9_29
  · skip
    have c_10 := (not_congr (lg_cmp_ge _ _)).mp c_10
    refine lv_lload hx hb dJ9_floorDiv_f86c9_13 (lv_at hl 0 rfl) ?_
    refine lv_lload_n hx hb dJ9_floorDiv_f86c9_15 rfl (lv_at hl 2 rfl) ?_
    refine lv_lmul hx hb dJ9_floorDiv_f86c9_16 ?_
    refine lv_lload_n hx hb dJ9_floorDiv_f86c9_17 rfl (lv_at hl 1 rfl) ?_
    refine W.lcmp hx hb dJ9_floorDiv_f86c9_18 ?_
    refine lv_if_eq (tgt := 27) hx hb dJ9_floorDiv_f86c9_19 (by decide) (fun c_19 => ?_) (fun c_19 => ?_)
    · skip
      have c_19 := (lg_cmp_eq _ _).mp c_19
      refine lv_lload hx hb dJ9_floorDiv_f86c9_27 (lv_at hl 0 rfl) ?_
      have hpo : (v / by_) = if (v ^^^ by_) < 0 ∧ ¬ v / by_ * by_ = v then v / by_ - 1 else v / by_ := by
        exact (if_neg (fun h => by first | exact absurd h.1 (gv_len c_10) | exact h.2 c_19)).symm
      exact W.lret (v := v / by_) hx hb hr (fun t9 ht9 hW9 => ⟨(v / by_), rfl, hpo, ht9⟩) t_nil dJ9_floorDiv_f86c9_29
    · skip
      have c_19 := (not_congr (lg_cmp_eq _ _)).mp c_19
      refine lv_lload hx hb dJ9_floorDiv_f86c9_22 (lv_at hl 0 rfl) ?_
      refine lv_lconst (v := 1) hx hb dJ9_floorDiv_f86c9_24 (by decide) ?_
      refine lv_lsub hx hb dJ9_floorDiv_f86c9_25 ?_
      have hpo : ((v / by_) - 1) = if (v ^^^ by_) < 0 ∧ ¬ v / by_ * by_ = v then v / by_ - 1 else v / by_ := by
        exact (if_pos ⟨gv_nle c_10, c_19⟩).symm
      exact W.lret (v := (v / by_) - 1) hx hb hr (fun t9 ht9 hW9 => ⟨((v / by_) - 1), rfl, hpo, ht9⟩) t_nil dJ9_floorDiv_f86c9_26
end
section
/-! the functions that the contracts speak of -/
def gv_acc (s : Int64) (g : Nat → Int64) : Nat → Int64
  | 0 => s
  | n + 1 => gv_acc s g n + g n
def gv_sq (x y la j : Nat) : Int64 := ((nI (j % 8) - nI x) * (nI (j % 8) - nI x) + (nI (j / 8) - nI y) * (nI (j / 8) - nI y) + nI ((la + 1) * (la + 1))).toInt64
/-- what a mass of the layer la at (x, y) pulls at the cell j, and the other way about -/
def gv_pt (m : Int64) (x y la j : Nat) : Int64 := gv_plo m (gv_sq x y la j)
def gv_chg (f g : Nat → Int64) (n : Nat) : Nat → Int64 := fun j => if j < n then f j + g j else f j
theorem gv_chg_0 (f g : Nat → Int64) : gv_chg f g 0 = f := by funext j; simp [gv_chg]
theorem gv_chg_s {f g : Nat → Int64} {n k : Nat} {v : Int64} (hk : k = n) (hv : v = g n) : vp_updL (gv_chg f g n) k (gv_chg f g n k + v) = gv_chg f g (n + 1) := by
  subst hk; subst hv
  funext j
  unfold vp_updL gv_chg
  by_cases h : j = k
  · subst h; rw [if_pos rfl, if_neg (Nat.lt_irrefl _), if_pos (Nat.lt_succ_self _)]
  · rw [if_neg h]
    by_cases h2 : j < k
    · rw [if_pos h2, if_pos (Nat.lt_succ_of_lt h2)]
    · rw [if_neg h2, if_neg (by omega)]
theorem gv_sq_eq {x y la a b : Nat} (ha : a < 8) : gv_sq x y la (8 * b + a) = ((nI a - nI x) * (nI a - nI x) + (nI b - nI y) * (nI b - nI y) + nI ((la + 1) * (la + 1))).toInt64 := by
  unfold gv_sq
  rw [show (8 * b + a) % 8 = a by omega, show (8 * b + a) / 8 = b by omega]
def gv_sumC (fM fW : Nat → Int64) (x y : Nat) : Nat → Int64
  | 0 => 0
  | c + 1 => gv_acc (gv_sumC fM fW x y c + gv_pt (fW c) x y 0 c) (fun la => gv_pt (fM (la * 64 + c)) x y la c) 3
theorem gv_in_X1_keptPull_X1 : ∀ w ∈ wsX10, w ∈ wsX1_keptPull := by decide +kernel
theorem gv_in_X1_changePulls_X1 : ∀ w ∈ wsX10, w ∈ wsX1_changePulls := by decide +kernel
theorem gv_in_X1_putMass_X1 : ∀ w ∈ wsX10, w ∈ wsX1_putMass := by decide +kernel
theorem gv_in_X1_putWater_X1 : ∀ w ∈ wsX10, w ∈ wsX1_putWater := by decide +kernel
theorem gv_in_X1_summedPull_X1 : ∀ w ∈ wsX10, w ∈ wsX1_summedPull := by decide +kernel
set_option maxHeartbeats 4000000 in
set_option maxRecDepth 100000 in
theorem ct_X1_keptPull (l : Launch) (D : va_G) (cI cJ : ClassId) (sz : Nat) (b0 b1 b2 b3 : Nat) (fP : Nat → Int64) (x y : Nat) (hx8 : x < 8) (hy8 : y < 8) : Met l yX1_keptPull wsX1_keptPull ({ frames := 1, cells := 0, slots := 0, locals := 21 }) (va_Pc [.ref b0, .int (nI x), .int (nI y)] (gv_B D cI cJ [(b0, .inr (1, [.ref b1, .ref b2, .ref b3])), (b3, .inl (cJ, 64, .inr (.inl fP)))] sz)) (vp_Sl (fun r9 : Int64 => r9 = fP (y * 8 + x))) 0 0 (fun _ => False) := by
  refine Met.ofW (cc := cX1_keptPull) (maxL := 3) (ret := (some .long)) (by decide) rfl ?_
  intro p e s m args below meth c s₁ B hml hv
  obtain ⟨rfl, hsz, hP, hK, hD0, hG⟩ := hv
  have hx := B.exec
  have hb := B.bytes
  have hr := B.returns
  have hts := atoms_spec (ws := wsX1_keptPull) B.pre
  have hown : s.vm.findClass RX1 = some m.cls := findClass_of_methodNamed B.named
  have hlocks := B.notSynchronized
  subst hsz
  have hD := hD0
  have hP : va_P D vwCl [(b0, .inr (1, [.ref b1, .ref b2, .ref b3])), (b3, .inl (cJ, 64, .inr (.inl fP)))] s.heap := hP
  have hl := lv_entry ([.ref b0, .int (nI x), .int (nI y)]) (n := 3) (Nat.le_of_ble_eq_true rfl)
  rw [lg_entry_eq]
  generalize (lg_sl ([.ref b0, .int (nI x), .int (nI y)]) ++ List.replicate (3 - (lg_sl ([.ref b0, .int (nI x), .int (nI y)])).length) Slot.unset).toArray = ls at hl ⊢
  have hl : lv_has ls 3 [(0, .ref b0), (1, .int (nI x)), (2, .int (nI y))] := hl
  refine lv_aload_n hx hb dX1_keptPull_0 rfl (lv_at hl 0 rfl) ?_
  refine va_get (D := D) (ci := 1) (v := .ref b3) (C := RX1) (T := TX1) (N := 3) hx hb hts gv_in_X1_keptPull_X1 hown hK hP 0 rfl rfl 2 (by decide) (hts (.fieldLink RX1 18 "Gravimere$Body" "pulls" "[J") (by decide +kernel)) (fun _ h9 => h9) rfl dX1_keptPull_1 ?_
  refine lv_iload_n hx hb dX1_keptPull_4 rfl (lv_at hl 1 rfl) ?_
  refine lv_iload_n hx hb dX1_keptPull_5 rfl (lv_at hl 2 rfl) ?_
  refine gv_pi (va_runSN (As := [.int (nI x), .int (nI y)]) (rest := [.ref b3]) ⟨hx, hb, hml, hown, hts⟩ (ct_X5_cellNumber l x y) ⟨va_cnB 2 hts gX1_keptPull_X5_cellNumber_n21 rfl rfl rfl (gv_nm_X1_21 hG) (hts (.initialized RX5) (by decide +kernel)) (by decide +kernel) ⟨Nat.le_of_ble_eq_true rfl, Nat.le_of_ble_eq_true rfl⟩, (hts (.static yX5_cellNumber) (by decide +kernel)), trivial⟩ gv_p0 rfl rfl hl.1 rfl (lv_room (Nat.le_of_ble_eq_true rfl)) dX1_keptPull_6 ⟨Nat.le_of_ble_eq_true rfl, Nat.le_of_ble_eq_true rfl⟩) (fun r hr_ => ?_)
  subst hr_
  refine gv_ll hx hb hK hP 1 (k := y * 8 + x) rfl (by omega) (by decide) dX1_keptPull_9 ?_
  have hpo : (fP (y * 8 + x)) = fP (y * 8 + x) := by
    rfl
  exact W.lret (v := fP (y * 8 + x)) hx hb hr (fun t9 ht9 hW9 => ⟨(fP (y * 8 + x)), rfl, hpo, ht9⟩) t_nil dX1_keptPull_10
set_option maxHeartbeats 4000000 in
set_option maxRecDepth 100000 in
theorem ct_X1_changePulls (l : Launch) (D : va_G) (cI cJ : ClassId) (sz : Nat) (b0 b1 b2 b3 : Nat) (fP : Nat → Int64) (x y la : Nat) (bef now : Int64)  : Met l yX1_changePulls wsX1_changePulls ({ frames := 1, cells := 0, slots := 0, locals := 23 }) (va_Pc [.ref b0, .int (nI x), .int (nI y), .int (nI la), .long bef, .long now] (gv_B D cI cJ [(b0, .inr (1, [.ref b1, .ref b2, .ref b3])), (b3, .inl (cJ, 64, .inr (.inl fP)))] sz)) (va_Qv (fun (u9 : Unit) => True) (fun (u9 : Unit) t9 =>  gv_W D (va_A [(b0, .inr (1, [.ref b1, .ref b2, .ref b3])), (b3, .inl (cJ, 64, .inr (.inl fP)))] sz) [(b0, .inr (1, [.ref b1, .ref b2, .ref b3])), (b3, .inl (cJ, 64, .inr (.inl (gv_chg fP (fun j => gv_pt now x y la j - gv_pt bef x y la j) 64))))] t9) (va_A [(b0, .inr (1, [.ref b1, .ref b2, .ref b3])), (b3, .inl (cJ, 64, .inr (.inl fP)))] sz)) 0 0 (va_A [(b0, .inr (1, [.ref b1, .ref b2, .ref b3])), (b3, .inl (cJ, 64, .inr (.inl fP)))] sz) := by
  refine Met.ofW (cc := cX1_changePulls) (maxL := 12) (ret := none) (by decide) rfl ?_
  intro p e s m args below meth c s₁ B hml hv
  obtain ⟨rfl, hsz, hP, hK, hD0, hG⟩ := hv
  have hx := B.exec
  have hb := B.bytes
  have hr := B.returns
  have hts := atoms_spec (ws := wsX1_changePulls) B.pre
  have hown : s.vm.findClass RX1 = some m.cls := findClass_of_methodNamed B.named
  have hlocks := B.notSynchronized
  subst hsz
  have hD := hD0.self (sz := s.heap.size)
  generalize hAe : va_A [(b0, .inr (1, [.ref b1, .ref b2, .ref b3])), (b3, .inl (cJ, 64, .inr (.inl fP)))] s.heap.size = A at hD ⊢
  have hA : ∀ q : Nat, s.heap.size ≤ q → A q := fun q h => by rw [← hAe]; exact Or.inr h
  have hS : va_S A s.heap s.heap [] := va_S.rf
  have hP : va_P D vwCl [(b0, .inr (1, [.ref b1, .ref b2, .ref b3])), (b3, .inl (cJ, 64, .inr (.inl fP)))] s.heap := hP
  have hl := lv_entry ([.ref b0, .int (nI x), .int (nI y), .int (nI la), .long bef, .long now]) (n := 12) (Nat.le_of_ble_eq_true rfl)
  rw [lg_entry_eq]
  generalize (lg_sl ([.ref b0, .int (nI x), .int (nI y), .int (nI la), .long bef, .long now]) ++ List.replicate (12 - (lg_sl ([.ref b0, .int (nI x), .int (nI y), .int (nI la), .long bef, .long now])).length) Slot.unset).toArray = ls at hl ⊢
  have hl : lv_has ls 12 [(0, .ref b0), (1, .int (nI x)), (2, .int (nI y)), (3, .int (nI la)), (4, .long bef), (6, .long now)] := hl
  refine lv_iconst (v := nI 0) hx hb dX1_changePulls_0 (by decide) ?_
  refine lv_istore (lv' := [(8, .int (nI 0)), (0, .ref b0), (1, .int (nI x)), (2, .int (nI y)), (3, .int (nI la)), (4, .long bef), (6, .long now)]) hx hb dX1_changePulls_1 hl (by decide) rfl (fun ls hl => ?_)
  rw [← gv_chg_0 fP (fun j => gv_pt now x y la j - gv_pt bef x y la j)] at hP hD
  have hP : va_P D vwCl [(b0, .inr (1, [.ref b1, .ref b2, .ref b3])), (b3, .inl (cJ, 64, .inr (.inl (gv_chg fP (fun j => gv_pt now x y la j - gv_pt bef x y la j) (8 * 0)))))] s.heap := hP
  have hD : va_D A [(b0, .inr (1, [.ref b1, .ref b2, .ref b3])), (b3, .inl (cJ, 64, .inr (.inl (gv_chg fP (fun j => gv_pt now x y la j - gv_pt bef x y la j) (8 * 0)))))] := hD
  refine gv_lm (σ := Nat) (fun zq H locs ls => match zq with | b => b ≤ 8 ∧ va_P D vwCl [(b0, .inr (1, [.ref b1, .ref b2, .ref b3])), (b3, .inl (cJ, 64, .inr (.inl (gv_chg fP (fun j => gv_pt now x y la j - gv_pt bef x y la j) (8 * b)))))] H ∧ va_D A [(b0, .inr (1, [.ref b1, .ref b2, .ref b3])), (b3, .inl (cJ, 64, .inr (.inl (gv_chg fP (fun j => gv_pt now x y la j - gv_pt bef x y la j) (8 * b)))))] ∧ va_S A s.heap H locs ∧ lv_has ls 12 [(0, .ref b0), (1, .int (nI x)), (2, .int (nI y)), (3, .int (nI la)), (4, .long bef), (6, .long now), (8, .int (nI b))]) (fun zq => match zq with | b => 8 - b) 0 ⟨by omega, hP, hD, hS, lv_sub hl [1, 2, 3, 4, 5, 6, 0] rfl⟩ (fun b H locs ls hI ih_3 => ?_)
  obtain ⟨hb8, hP, hD, hS, hl⟩ := hI
  refine lv_iload hx hb dX1_changePulls_3 (lv_at hl 6 rfl) ?_
  refine lv_bipush (v := nI 8) hx hb dX1_changePulls_5 (by decide) ?_
  refine lv_icmp_ge (tgt := 76) hx hb dX1_changePulls_7 (by decide) (fun c_7 => ?_) (fun c_7 => ?_)
  · skip
    have c_7 := (nI_leI (a := 8) (b := b) (by omega) (by omega)).mp c_7
    have hpo : True := by
      trivial
    have hP9 : va_P D vwCl [(b0, .inr (1, [.ref b1, .ref b2, .ref b3])), (b3, .inl (cJ, 64, .inr (.inl (gv_chg fP (fun j => gv_pt now x y la j - gv_pt bef x y la j) 64))))] H := by rw [show 8 * b = 64 by omega] at hP; exact hP
    have hD9 : va_D A [(b0, .inr (1, [.ref b1, .ref b2, .ref b3])), (b3, .inl (cJ, 64, .inr (.inl (gv_chg fP (fun j => gv_pt now x y la j - gv_pt bef x y la j) 64))))] := by rw [show 8 * b = 64 by omega] at hD; exact hD
    exact W.vret hx hb hr (fun t9 ht9 hW9 => ⟨⟨(), rfl, hpo, by rw [ht9]; exact hP9, hD9⟩, hS.F ht9⟩) hS.2.2 dX1_changePulls_76
  · skip
    have c_7 := (not_congr (nI_leI (a := 8) (b := b) (by omega) (by omega))).mp c_7
    refine lv_iconst (v := nI 0) hx hb dX1_changePulls_10 (by decide) ?_
    refine lv_istore (lv' := [(9, .int (nI 0)), (0, .ref b0), (1, .int (nI x)), (2, .int (nI y)), (3, .int (nI la)), (4, .long bef), (6, .long now), (8, .int (nI b))]) hx hb dX1_changePulls_11 hl (by decide) rfl (fun ls hl => ?_)
    refine gv_lm (σ := Nat) (fun zq H locs ls => match zq with | a => a ≤ 8 ∧ va_P D vwCl [(b0, .inr (1, [.ref b1, .ref b2, .ref b3])), (b3, .inl (cJ, 64, .inr (.inl (gv_chg fP (fun j => gv_pt now x y la j - gv_pt bef x y la j) (8 * b + a)))))] H ∧ va_D A [(b0, .inr (1, [.ref b1, .ref b2, .ref b3])), (b3, .inl (cJ, 64, .inr (.inl (gv_chg fP (fun j => gv_pt now x y la j - gv_pt bef x y la j) (8 * b + a)))))] ∧ va_S A s.heap H locs ∧ lv_has ls 12 [(0, .ref b0), (1, .int (nI x)), (2, .int (nI y)), (3, .int (nI la)), (4, .long bef), (6, .long now), (8, .int (nI b)), (9, .int (nI a))]) (fun zq => match zq with | a => 8 - a) 0 ⟨by omega, hP, hD, hS, lv_sub hl [1, 2, 3, 4, 5, 6, 7, 0] rfl⟩ (fun a H locs ls hI ih_13 => ?_)
    obtain ⟨ha8, hP, hD, hS, hl⟩ := hI
    refine lv_iload hx hb dX1_changePulls_13 (lv_at hl 7 rfl) ?_
    refine lv_bipush (v := nI 8) hx hb dX1_changePulls_15 (by decide) ?_
    refine lv_icmp_ge (tgt := 70) hx hb dX1_changePulls_17 (by decide) (fun c_17 => ?_) (fun c_17 => ?_)
    · skip
      have c_17 := (nI_leI (a := 8) (b := a) (by omega) (by omega)).mp c_17
      refine lv_iinc (v := nI (b + 1)) (lv' := [(8, .int (nI (b + 1))), (0, .ref b0), (1, .int (nI x)), (2, .int (nI y)), (3, .int (nI la)), (4, .long bef), (6, .long now), (9, .int (nI a))]) hx hb dX1_changePulls_70 hl (k := 6) rfl (nI_add b 1) (by decide) rfl (fun ls hl => ?_)
      refine lv_goto (tgt := 3) hx hb dX1_changePulls_73 (by decide) ?_
      have hRW : gv_chg fP (fun j => gv_pt now x y la j - gv_pt bef x y la j) (8 * b + a) = gv_chg fP (fun j => gv_pt now x y la j - gv_pt bef x y la j) (8 * (b + 1)) := by rw [show 8 * b + a = 8 * (b + 1) by omega]
      rw [hRW] at hP hD
      have hP : va_P D vwCl [(b0, .inr (1, [.ref b1, .ref b2, .ref b3])), (b3, .inl (cJ, 64, .inr (.inl (gv_chg fP (fun j => gv_pt now x y la j - gv_pt bef x y la j) (8 * (b + 1))))))] H := hP
      have hD : va_D A [(b0, .inr (1, [.ref b1, .ref b2, .ref b3])), (b3, .inl (cJ, 64, .inr (.inl (gv_chg fP (fun j => gv_pt now x y la j - gv_pt bef x y la j) (8 * (b + 1))))))] := hD
      exact ih_3 (b + 1) _ _ _ ⟨by omega, hP, hD, hS, lv_sub hl [1, 2, 3, 4, 5, 6, 0] rfl⟩ (by simp only; omega)
    · skip
      have c_17 := (not_congr (nI_leI (a := 8) (b := a) (by omega) (by omega))).mp c_17
      refine lv_iload hx hb dX1_changePulls_20 (lv_at hl 7 rfl) ?_
      refine lv_iload_n hx hb dX1_changePulls_22 rfl (lv_at hl 1 rfl) ?_
      refine lv_isub hx hb dX1_changePulls_23 ?_
      refine lv_iload hx hb dX1_changePulls_24 (lv_at hl 6 rfl) ?_
      refine lv_iload_n hx hb dX1_changePulls_26 rfl (lv_at hl 2 rfl) ?_
      refine lv_isub hx hb dX1_changePulls_27 ?_
      refine lv_iload_n hx hb dX1_changePulls_28 rfl (lv_at hl 3 rfl) ?_
      refine gv_pl (va_runS (As := [.int ((nI a) - (nI x)), .int ((nI b) - (nI y)), .int (nI la)]) (rest := []) ⟨hx, hb, hml, hown, hts⟩ (ct_X1_squareOf l (nI a - nI x) (nI b - nI y) la) (va_cwS 3 hts gX1_changePulls_X1_squareOf rfl rfl rfl (by decide +kernel) ⟨Nat.le_of_ble_eq_true rfl, Nat.le_of_ble_eq_true rfl⟩) gv_p0 rfl rfl hl.1 rfl (lv_room (Nat.le_of_ble_eq_true rfl)) dX1_changePulls_29 ⟨Nat.le_of_ble_eq_true rfl, Nat.le_of_ble_eq_true rfl⟩) (fun r1 hr1 => ?_)
      refine lv_lstore (lv' := [(10, .long r1), (0, .ref b0), (1, .int (nI x)), (2, .int (nI y)), (3, .int (nI la)), (4, .long bef), (6, .long now), (8, .int (nI b)), (9, .int (nI a))]) hx hb dX1_changePulls_32 hl (by decide) rfl (fun ls hl => ?_)
      refine lv_aload_n hx hb dX1_changePulls_34 rfl (lv_at hl 1 rfl) ?_
      refine va_get (D := D) (ci := 1) (v := .ref b3) (C := RX1) (T := TX1) (N := 3) hx hb hts gv_in_X1_changePulls_X1 hown hK hP 0 rfl rfl 2 (by decide) (hts (.fieldLink RX1 18 "Gravimere$Body" "pulls" "[J") (by decide +kernel)) (fun _ h9 => h9) rfl dX1_changePulls_35 ?_
      refine lv_iload hx hb dX1_changePulls_38 (lv_at hl 8 rfl) ?_
      refine lv_iload hx hb dX1_changePulls_40 (lv_at hl 7 rfl) ?_
      refine gv_pi (va_runSN (As := [.int (nI a), .int (nI b)]) (rest := [.ref b3]) ⟨hx, hb, hml, hown, hts⟩ (ct_X5_cellNumber l a b) ⟨va_cnB 2 hts gX1_changePulls_X5_cellNumber_n21 rfl rfl rfl (gv_nm_X1_21 hG) (hts (.initialized RX5) (by decide +kernel)) (by decide +kernel) ⟨Nat.le_of_ble_eq_true rfl, Nat.le_of_ble_eq_true rfl⟩, (hts (.static yX5_cellNumber) (by decide +kernel)), trivial⟩ gv_p0 rfl rfl hl.1 rfl (lv_room (Nat.le_of_ble_eq_true rfl)) dX1_changePulls_42 ⟨Nat.le_of_ble_eq_true rfl, Nat.le_of_ble_eq_true rfl⟩) (fun r4 hr4 => ?_)
      subst hr4
      refine lv_dup2_11 hx hb dX1_changePulls_45 rfl rfl ?_
      refine gv_ll hx hb hK hP 1 (k := b * 8 + a) rfl (by omega) (by decide) dX1_changePulls_46 ?_
      refine lv_lload hx hb dX1_changePulls_47 (lv_at hl 6 rfl) ?_
      refine lv_lload hx hb dX1_changePulls_49 (lv_at hl 0 rfl) ?_
      refine gv_pl (va_runS (As := [.long now, .long r1]) (rest := [.long ((gv_chg fP (fun j => gv_pt now x y la j - gv_pt bef x y la j) (8 * b + a)) (b * 8 + a)), .int (nI (b * 8 + a)), .ref b3]) ⟨hx, hb, hml, hown, hts⟩ (ct_X1_pullOf l now r1) (va_cwS 2 hts gX1_changePulls_X1_pullOf rfl rfl rfl (by decide +kernel) ⟨Nat.le_of_ble_eq_true rfl, Nat.le_of_ble_eq_true rfl⟩) gv_p0 rfl rfl hl.1 rfl (lv_room (Nat.le_of_ble_eq_true rfl)) dX1_changePulls_51 ⟨Nat.le_of_ble_eq_true rfl, Nat.le_of_ble_eq_true rfl⟩) (fun r2 hr2 => ?_)
      refine lv_lload hx hb dX1_changePulls_54 (lv_at hl 5 rfl) ?_
      refine lv_lload hx hb dX1_changePulls_56 (lv_at hl 0 rfl) ?_
      refine gv_pl (va_runS (As := [.long bef, .long r1]) (rest := [.long r2, .long ((gv_chg fP (fun j => gv_pt now x y la j - gv_pt bef x y la j) (8 * b + a)) (b * 8 + a)), .int (nI (b * 8 + a)), .ref b3]) ⟨hx, hb, hml, hown, hts⟩ (ct_X1_pullOf l bef r1) (va_cwS 2 hts gX1_changePulls_X1_pullOf rfl rfl rfl (by decide +kernel) ⟨Nat.le_of_ble_eq_true rfl, Nat.le_of_ble_eq_true rfl⟩) gv_p0 rfl rfl hl.1 rfl (lv_room (Nat.le_of_ble_eq_true rfl)) dX1_changePulls_58 ⟨Nat.le_of_ble_eq_true rfl, Nat.le_of_ble_eq_true rfl⟩) (fun r3 hr3 => ?_)
      refine lv_lsub hx hb dX1_changePulls_61 ?_
      refine lv_ladd hx hb dX1_changePulls_62 ?_
      refine gv_ls hx hb hK hP hD hS 1 (k := b * 8 + a) rfl (by omega) (by decide) dX1_changePulls_63 (fun H locs hP hD hS => ?_)
      have hP : va_P D vwCl [(b0, .inr (1, [.ref b1, .ref b2, .ref b3])), (b3, .inl (cJ, 64, .inr (.inl (vp_updL (gv_chg fP (fun j => gv_pt now x y la j - gv_pt bef x y la j) (8 * b + a)) (b * 8 + a) (((gv_chg fP (fun j => gv_pt now x y la j - gv_pt bef x y la j) (8 * b + a)) (b * 8 + a)) + (r2 - r3))))))] H := hP
      have hD : va_D A [(b0, .inr (1, [.ref b1, .ref b2, .ref b3])), (b3, .inl (cJ, 64, .inr (.inl (vp_updL (gv_chg fP (fun j => gv_pt now x y la j - gv_pt bef x y la j) (8 * b + a)) (b * 8 + a) (((gv_chg fP (fun j => gv_pt now x y la j - gv_pt bef x y la j) (8 * b + a)) (b * 8 + a)) + (r2 - r3))))))] := hD
      refine lv_iinc (v := nI (a + 1)) (lv' := [(9, .int (nI (a + 1))), (10, .long r1), (0, .ref b0), (1, .int (nI x)), (2, .int (nI y)), (3, .int (nI la)), (4, .long bef), (6, .long now), (8, .int (nI b))]) hx hb dX1_changePulls_64 hl (k := 8) rfl (nI_add a 1) (by decide) rfl (fun ls hl => ?_)
      refine lv_goto (tgt := 13) hx hb dX1_changePulls_67 (by decide) ?_
      have hRW : vp_updL (gv_chg fP (fun j => gv_pt now x y la j - gv_pt bef x y la j) (8 * b + a)) (b * 8 + a) (((gv_chg fP (fun j => gv_pt now x y la j - gv_pt bef x y la j) (8 * b + a)) (b * 8 + a)) + (r2 - r3)) = gv_chg fP (fun j => gv_pt now x y la j - gv_pt bef x y la j) (8 * b + a + 1) := gv_chg_s (by omega) (by rw [hr2, hr3, hr1]; unfold gv_pt; rw [gv_sq_eq (by omega)])
      rw [hRW] at hP hD
      have hP : va_P D vwCl [(b0, .inr (1, [.ref b1, .ref b2, .ref b3])), (b3, .inl (cJ, 64, .inr (.inl (gv_chg fP (fun j => gv_pt now x y la j - gv_pt bef x y la j) (8 * b + a + 1)))))] H := hP
      have hD : va_D A [(b0, .inr (1, [.ref b1, .ref b2, .ref b3])), (b3, .inl (cJ, 64, .inr (.inl (gv_chg fP (fun j => gv_pt now x y la j - gv_pt bef x y la j) (8 * b + a + 1)))))] := hD
      exact ih_13 (a + 1) _ _ _ ⟨by omega, hP, hD, hS, lv_sub hl [2, 3, 4, 5, 6, 7, 8, 0] rfl⟩ (by simp only; omega)
set_option maxHeartbeats 4000000 in
set_option maxRecDepth 100000 in
theorem ct_X1_putMass (l : Launch) (D : va_G) (cI cJ : ClassId) (sz : Nat) (b0 b1 b2 b3 : Nat) (fM fP : Nat → Int64) (x y la : Nat) (ms : Int64) (hx8 : x < 8) (hy8 : y < 8) (hla : la < 3) : Met l yX1_putMass wsX1_putMass ({ frames := 2, cells := 0, slots := 0, locals := 54 }) (va_Pc [.ref b0, .int (nI x), .int (nI y), .int (nI la), .long ms] (gv_B D cI cJ [(b0, .inr (1, [.ref b1, .ref b2, .ref b3])), (b1, .inl (cJ, 192, .inr (.inl fM))), (b3, .inl (cJ, 64, .inr (.inl fP)))] sz)) (va_Ql (fun (r9 : Int64) (u9 : Unit) => r9 = fM (la * 64 + (y * 8 + x))) (fun (u9 : Unit) t9 =>  gv_W D (va_A [(b0, .inr (1, [.ref b1, .ref b2, .ref b3])), (b1, .inl (cJ, 192, .inr (.inl fM))), (b3, .inl (cJ, 64, .inr (.inl fP)))] sz) [(b0, .inr (1, [.ref b1, .ref b2, .ref b3])), (b1, .inl (cJ, 192, .inr (.inl (vp_updL fM (la * 64 + (y * 8 + x)) ms)))), (b3, .inl (cJ, 64, .inr (.inl (gv_chg fP (fun j => gv_pt ms x y la j - gv_pt (fM (la * 64 + (y * 8 + x))) x y la j) 64))))] t9) (va_A [(b0, .inr (1, [.ref b1, .ref b2, .ref b3])), (b1, .inl (cJ, 192, .inr (.inl fM))), (b3, .inl (cJ, 64, .inr (.inl fP)))] sz)) 0 0 (va_A [(b0, .inr (1, [.ref b1, .ref b2, .ref b3])), (b1, .inl (cJ, 192, .inr (.inl fM))), (b3, .inl (cJ, 64, .inr (.inl fP)))] sz) := by
  refine Met.ofW (cc := cX1_putMass) (maxL := 9) (ret := (some .long)) (by decide) rfl ?_
  intro p e s m args below meth c s₁ B hml hv
  obtain ⟨rfl, hsz, hP, hK, hD0, hG⟩ := hv
  have hx := B.exec
  have hb := B.bytes
  have hr := B.returns
  have hts := atoms_spec (ws := wsX1_putMass) B.pre
  have hown : s.vm.findClass RX1 = some m.cls := findClass_of_methodNamed B.named
  have hlocks := B.notSynchronized
  subst hsz
  have hD := hD0.self (sz := s.heap.size)
  generalize hAe : va_A [(b0, .inr (1, [.ref b1, .ref b2, .ref b3])), (b1, .inl (cJ, 192, .inr (.inl fM))), (b3, .inl (cJ, 64, .inr (.inl fP)))] s.heap.size = A at hD ⊢
  have hA : ∀ q : Nat, s.heap.size ≤ q → A q := fun q h => by rw [← hAe]; exact Or.inr h
  have hS : va_S A s.heap s.heap [] := va_S.rf
  have hP : va_P D vwCl [(b0, .inr (1, [.ref b1, .ref b2, .ref b3])), (b1, .inl (cJ, 192, .inr (.inl fM))), (b3, .inl (cJ, 64, .inr (.inl fP)))] s.heap := hP
  have hl := lv_entry ([.ref b0, .int (nI x), .int (nI y), .int (nI la), .long ms]) (n := 9) (Nat.le_of_ble_eq_true rfl)
  rw [lg_entry_eq]
  generalize (lg_sl ([.ref b0, .int (nI x), .int (nI y), .int (nI la), .long ms]) ++ List.replicate (9 - (lg_sl ([.ref b0, .int (nI x), .int (nI y), .int (nI la), .long ms])).length) Slot.unset).toArray = ls at hl ⊢
  have hl : lv_has ls 9 [(0, .ref b0), (1, .int (nI x)), (2, .int (nI y)), (3, .int (nI la)), (4, .long ms)] := hl
  refine lv_iload_n hx hb dX1_putMass_0 rfl (lv_at hl 3 rfl) ?_
  refine lv_bipush (v := nI 64) hx hb dX1_putMass_1 (by decide) ?_
  refine lv_imul hx hb dX1_putMass_3 ?_
  refine gv_wi (pk_mul la 64) ?_
  refine lv_iload_n hx hb dX1_putMass_4 rfl (lv_at hl 1 rfl) ?_
  refine lv_iload_n hx hb dX1_putMass_5 rfl (lv_at hl 2 rfl) ?_
  refine gv_pi (va_runSN (As := [.int (nI x), .int (nI y)]) (rest := [.int (nI (la * 64))]) ⟨hx, hb, hml, hown, hts⟩ (ct_X5_cellNumber l x y) ⟨va_cnB 2 hts gX1_putMass_X5_cellNumber_n21 rfl rfl rfl (gv_nm_X1_21 hG) (hts (.initialized RX5) (by decide +kernel)) (by decide +kernel) ⟨Nat.le_of_ble_eq_true rfl, Nat.le_of_ble_eq_true rfl⟩, (hts (.static yX5_cellNumber) (by decide +kernel)), trivial⟩ gv_p0 rfl rfl hl.1 rfl (lv_room (Nat.le_of_ble_eq_true rfl)) dX1_putMass_6 ⟨Nat.le_of_ble_eq_true rfl, Nat.le_of_ble_eq_true rfl⟩) (fun r hr_ => ?_)
  subst hr_
  refine lv_iadd hx hb dX1_putMass_9 ?_
  refine gv_wi (nI_add (la * 64) (y * 8 + x)) ?_
  refine lv_istore (lv' := [(6, .int (nI (la * 64 + (y * 8 + x)))), (0, .ref b0), (1, .int (nI x)), (2, .int (nI y)), (3, .int (nI la)), (4, .long ms)]) hx hb dX1_putMass_10 hl (by decide) rfl (fun ls hl => ?_)
  refine lv_aload_n hx hb dX1_putMass_12 rfl (lv_at hl 1 rfl) ?_
  refine va_get (D := D) (ci := 1) (v := .ref b1) (C := RX1) (T := TX1) (N := 3) hx hb hts gv_in_X1_putMass_X1 hown hK hP 0 rfl rfl 0 (by decide) (hts (.fieldLink RX1 9 "Gravimere$Body" "masses" "[J") (by decide +kernel)) (fun _ h9 => h9) rfl dX1_putMass_13 ?_
  refine lv_iload hx hb dX1_putMass_16 (lv_at hl 0 rfl) ?_
  refine gv_ll hx hb hK hP 1 (k := la * 64 + (y * 8 + x)) rfl (by omega) (by decide) dX1_putMass_18 ?_
  refine lv_lstore (lv' := [(7, .long (fM (la * 64 + (y * 8 + x)))), (6, .int (nI (la * 64 + (y * 8 + x)))), (0, .ref b0), (1, .int (nI x)), (2, .int (nI y)), (3, .int (nI la)), (4, .long ms)]) hx hb dX1_putMass_19 hl (by decide) rfl (fun ls hl => ?_)
  refine lv_aload_n hx hb dX1_putMass_21 rfl (lv_at hl 2 rfl) ?_
  refine va_get (D := D) (ci := 1) (v := .ref b1) (C := RX1) (T := TX1) (N := 3) hx hb hts gv_in_X1_putMass_X1 hown hK hP 0 rfl rfl 0 (by decide) (hts (.fieldLink RX1 9 "Gravimere$Body" "masses" "[J") (by decide +kernel)) (fun _ h9 => h9) rfl dX1_putMass_22 ?_
  refine lv_iload hx hb dX1_putMass_25 (lv_at hl 1 rfl) ?_
  refine lv_lload hx hb dX1_putMass_27 (lv_at hl 6 rfl) ?_
  refine gv_ls hx hb hK hP hD hS 1 (k := la * 64 + (y * 8 + x)) rfl (by omega) (by decide) dX1_putMass_29 (fun H locs hP hD hS => ?_)
  have hP : va_P D vwCl [(b0, .inr (1, [.ref b1, .ref b2, .ref b3])), (b1, .inl (cJ, 192, .inr (.inl (vp_updL fM (la * 64 + (y * 8 + x)) ms)))), (b3, .inl (cJ, 64, .inr (.inl fP)))] H := hP
  have hD : va_D A [(b0, .inr (1, [.ref b1, .ref b2, .ref b3])), (b1, .inl (cJ, 192, .inr (.inl (vp_updL fM (la * 64 + (y * 8 + x)) ms)))), (b3, .inl (cJ, 64, .inr (.inl fP)))] := hD
  refine lv_aload_n hx hb dX1_putMass_30 rfl (lv_at hl 2 rfl) ?_
  refine lv_iload_n hx hb dX1_putMass_31 rfl (lv_at hl 3 rfl) ?_
  refine lv_iload_n hx hb dX1_putMass_32 rfl (lv_at hl 4 rfl) ?_
  refine lv_iload_n hx hb dX1_putMass_33 rfl (lv_at hl 5 rfl) ?_
  refine lv_lload hx hb dX1_putMass_34 (lv_at hl 0 rfl) ?_
  refine lv_lload hx hb dX1_putMass_36 (lv_at hl 6 rfl) ?_
  refine gv_mv (wc := [(b0, .inr (1, [.ref b1, .ref b2, .ref b3])), (b3, .inl (cJ, 64, .inr (.inl fP)))]) (wr := [(b1, .inl (cJ, 192, .inr (.inl (vp_updL fM (la * 64 + (y * 8 + x)) ms))))]) (w2 := (fun u => [(b0, .inr (1, [.ref b1, .ref b2, .ref b3])), (b1, .inl (cJ, 192, .inr (.inl (vp_updL fM (la * 64 + (y * 8 + x)) ms)))), (b3, .inl (cJ, 64, .inr (.inl (gv_chg fP (fun j => gv_pt ms x y la j - gv_pt (fM (la * 64 + (y * 8 + x))) x y la j) 64))))])) (va_runV (As := [.int (nI x), .int (nI y), .int (nI la), .long (fM (la * 64 + (y * 8 + x))), .long ms]) (rest := []) ⟨hx, hb, hml, hown, hts⟩ (ct_X1_changePulls l D cI cJ H.size b0 b1 b2 b3 fP x y la (fM (la * 64 + (y * 8 + x))) ms) (cwV 5 hts gX1_putMass_X1_changePulls rfl rfl rfl (by decide +kernel) ⟨Nat.le_of_ble_eq_true rfl, Nat.le_of_ble_eq_true rfl⟩) (gv_pV (wc := [(b0, .inr (1, [.ref b1, .ref b2, .ref b3])), (b3, .inl (cJ, 64, .inr (.inl fP)))]) hP hK hD hG [0, 2] rfl (by decide) 0 rfl rfl rfl) rfl rfl hl.1 rfl (lv_room (Nat.le_of_ble_eq_true rfl)) dX1_putMass_38 ⟨Nat.le_of_ble_eq_true rfl, Nat.le_of_ble_eq_true rfl⟩) hP hD hS hA [0, 2] [1] [1, 0, 2] rfl rfl (by decide) (by decide) (fun u => rfl) (by decide) (fun u H locs hr_2 hP hD hS => ?_)
  have hP : va_P D vwCl [(b0, .inr (1, [.ref b1, .ref b2, .ref b3])), (b1, .inl (cJ, 192, .inr (.inl (vp_updL fM (la * 64 + (y * 8 + x)) ms)))), (b3, .inl (cJ, 64, .inr (.inl (gv_chg fP (fun j => gv_pt ms x y la j - gv_pt (fM (la * 64 + (y * 8 + x))) x y la j) 64))))] H := hP
  have hD : va_D A [(b0, .inr (1, [.ref b1, .ref b2, .ref b3])), (b1, .inl (cJ, 192, .inr (.inl (vp_updL fM (la * 64 + (y * 8 + x)) ms)))), (b3, .inl (cJ, 64, .inr (.inl (gv_chg fP (fun j => gv_pt ms x y la j - gv_pt (fM (la * 64 + (y * 8 + x))) x y la j) 64))))] := hD
  refine lv_lload hx hb dX1_putMass_41 (lv_at hl 0 rfl) ?_
  have hpo : (fM (la * 64 + (y * 8 + x))) = fM (la * 64 + (y * 8 + x)) := by
    rfl
  have hP9 : va_P D vwCl [(b0, .inr (1, [.ref b1, .ref b2, .ref b3])), (b1, .inl (cJ, 192, .inr (.inl (vp_updL fM (la * 64 + (y * 8 + x)) ms)))), (b3, .inl (cJ, 64, .inr (.inl (gv_chg fP (fun j => gv_pt ms x y la j - gv_pt (fM (la * 64 + (y * 8 + x))) x y la j) 64))))] H := hP
  have hD9 : va_D A [(b0, .inr (1, [.ref b1, .ref b2, .ref b3])), (b1, .inl (cJ, 192, .inr (.inl (vp_updL fM (la * 64 + (y * 8 + x)) ms)))), (b3, .inl (cJ, 64, .inr (.inl (gv_chg fP (fun j => gv_pt ms x y la j - gv_pt (fM (la * 64 + (y * 8 + x))) x y la j) 64))))] := hD
  exact W.lret (v := fM (la * 64 + (y * 8 + x))) hx hb hr (fun t9 ht9 hW9 => ⟨⟨(fM (la * 64 + (y * 8 + x))), (), rfl, hpo, by rw [ht9]; exact hP9, hD9⟩, hS.F ht9⟩) hS.2.2 dX1_putMass_43
set_option maxHeartbeats 4000000 in
set_option maxRecDepth 100000 in
theorem ct_X1_putWater (l : Launch) (D : va_G) (cI cJ : ClassId) (sz : Nat) (b0 b1 b2 b3 : Nat) (fW fP : Nat → Int64) (x y : Nat) (ms : Int64) (hx8 : x < 8) (hy8 : y < 8) : Met l yX1_putWater wsX1_putWater ({ frames := 2, cells := 0, slots := 0, locals := 54 }) (va_Pc [.ref b0, .int (nI x), .int (nI y), .long ms] (gv_B D cI cJ [(b0, .inr (1, [.ref b1, .ref b2, .ref b3])), (b2, .inl (cJ, 64, .inr (.inl fW))), (b3, .inl (cJ, 64, .inr (.inl fP)))] sz)) (va_Ql (fun (r9 : Int64) (u9 : Unit) => r9 = fW (y * 8 + x)) (fun (u9 : Unit) t9 =>  gv_W D (va_A [(b0, .inr (1, [.ref b1, .ref b2, .ref b3])), (b2, .inl (cJ, 64, .inr (.inl fW))), (b3, .inl (cJ, 64, .inr (.inl fP)))] sz) [(b0, .inr (1, [.ref b1, .ref b2, .ref b3])), (b2, .inl (cJ, 64, .inr (.inl (vp_updL fW (y * 8 + x) ms)))), (b3, .inl (cJ, 64, .inr (.inl (gv_chg fP (fun j => gv_pt ms x y 0 j - gv_pt (fW (y * 8 + x)) x y 0 j) 64))))] t9) (va_A [(b0, .inr (1, [.ref b1, .ref b2, .ref b3])), (b2, .inl (cJ, 64, .inr (.inl fW))), (b3, .inl (cJ, 64, .inr (.inl fP)))] sz)) 0 0 (va_A [(b0, .inr (1, [.ref b1, .ref b2, .ref b3])), (b2, .inl (cJ, 64, .inr (.inl fW))), (b3, .inl (cJ, 64, .inr (.inl fP)))] sz) := by
  refine Met.ofW (cc := cX1_putWater) (maxL := 8) (ret := (some .long)) (by decide) rfl ?_
  intro p e s m args below meth c s₁ B hml hv
  obtain ⟨rfl, hsz, hP, hK, hD0, hG⟩ := hv
  have hx := B.exec
  have hb := B.bytes
  have hr := B.returns
  have hts := atoms_spec (ws := wsX1_putWater) B.pre
  have hown : s.vm.findClass RX1 = some m.cls := findClass_of_methodNamed B.named
  have hlocks := B.notSynchronized
  subst hsz
  have hD := hD0.self (sz := s.heap.size)
  generalize hAe : va_A [(b0, .inr (1, [.ref b1, .ref b2, .ref b3])), (b2, .inl (cJ, 64, .inr (.inl fW))), (b3, .inl (cJ, 64, .inr (.inl fP)))] s.heap.size = A at hD ⊢
  have hA : ∀ q : Nat, s.heap.size ≤ q → A q := fun q h => by rw [← hAe]; exact Or.inr h
  have hS : va_S A s.heap s.heap [] := va_S.rf
  have hP : va_P D vwCl [(b0, .inr (1, [.ref b1, .ref b2, .ref b3])), (b2, .inl (cJ, 64, .inr (.inl fW))), (b3, .inl (cJ, 64, .inr (.inl fP)))] s.heap := hP
  have hl := lv_entry ([.ref b0, .int (nI x), .int (nI y), .long ms]) (n := 8) (Nat.le_of_ble_eq_true rfl)
  rw [lg_entry_eq]
  generalize (lg_sl ([.ref b0, .int (nI x), .int (nI y), .long ms]) ++ List.replicate (8 - (lg_sl ([.ref b0, .int (nI x), .int (nI y), .long ms])).length) Slot.unset).toArray = ls at hl ⊢
  have hl : lv_has ls 8 [(0, .ref b0), (1, .int (nI x)), (2, .int (nI y)), (3, .long ms)] := hl
  refine lv_iload_n hx hb dX1_putWater_0 rfl (lv_at hl 1 rfl) ?_
  refine lv_iload_n hx hb dX1_putWater_1 rfl (lv_at hl 2 rfl) ?_
  refine gv_pi (va_runSN (As := [.int (nI x), .int (nI y)]) (rest := []) ⟨hx, hb, hml, hown, hts⟩ (ct_X5_cellNumber l x y) ⟨va_cnB 2 hts gX1_putWater_X5_cellNumber_n21 rfl rfl rfl (gv_nm_X1_21 hG) (hts (.initialized RX5) (by decide +kernel)) (by decide +kernel) ⟨Nat.le_of_ble_eq_true rfl, Nat.le_of_ble_eq_true rfl⟩, (hts (.static yX5_cellNumber) (by decide +kernel)), trivial⟩ gv_p0 rfl rfl hl.1 rfl (lv_room (Nat.le_of_ble_eq_true rfl)) dX1_putWater_2 ⟨Nat.le_of_ble_eq_true rfl, Nat.le_of_ble_eq_true rfl⟩) (fun r hr_ => ?_)
  subst hr_
  refine lv_istore (lv' := [(5, .int (nI (y * 8 + x))), (0, .ref b0), (1, .int (nI x)), (2, .int (nI y)), (3, .long ms)]) hx hb dX1_putWater_5 hl (by decide) rfl (fun ls hl => ?_)
  refine lv_aload_n hx hb dX1_putWater_7 rfl (lv_at hl 1 rfl) ?_
  refine va_get (D := D) (ci := 1) (v := .ref b2) (C := RX1) (T := TX1) (N := 3) hx hb hts gv_in_X1_putWater_X1 hown hK hP 0 rfl rfl 1 (by decide) (hts (.fieldLink RX1 15 "Gravimere$Body" "waters" "[J") (by decide +kernel)) (fun _ h9 => h9) rfl dX1_putWater_8 ?_
  refine lv_iload hx hb dX1_putWater_11 (lv_at hl 0 rfl) ?_
  refine gv_ll hx hb hK hP 1 (k := y * 8 + x) rfl (by omega) (by decide) dX1_putWater_13 ?_
  refine lv_lstore (lv' := [(6, .long (fW (y * 8 + x))), (5, .int (nI (y * 8 + x))), (0, .ref b0), (1, .int (nI x)), (2, .int (nI y)), (3, .long ms)]) hx hb dX1_putWater_14 hl (by decide) rfl (fun ls hl => ?_)
  refine lv_aload_n hx hb dX1_putWater_16 rfl (lv_at hl 2 rfl) ?_
  refine va_get (D := D) (ci := 1) (v := .ref b2) (C := RX1) (T := TX1) (N := 3) hx hb hts gv_in_X1_putWater_X1 hown hK hP 0 rfl rfl 1 (by decide) (hts (.fieldLink RX1 15 "Gravimere$Body" "waters" "[J") (by decide +kernel)) (fun _ h9 => h9) rfl dX1_putWater_17 ?_
  refine lv_iload hx hb dX1_putWater_20 (lv_at hl 1 rfl) ?_
  refine lv_lload_n hx hb dX1_putWater_22 rfl (lv_at hl 5 rfl) ?_
  refine gv_ls hx hb hK hP hD hS 1 (k := y * 8 + x) rfl (by omega) (by decide) dX1_putWater_23 (fun H locs hP hD hS => ?_)
  have hP : va_P D vwCl [(b0, .inr (1, [.ref b1, .ref b2, .ref b3])), (b2, .inl (cJ, 64, .inr (.inl (vp_updL fW (y * 8 + x) ms)))), (b3, .inl (cJ, 64, .inr (.inl fP)))] H := hP
  have hD : va_D A [(b0, .inr (1, [.ref b1, .ref b2, .ref b3])), (b2, .inl (cJ, 64, .inr (.inl (vp_updL fW (y * 8 + x) ms)))), (b3, .inl (cJ, 64, .inr (.inl fP)))] := hD
  refine lv_aload_n hx hb dX1_putWater_24 rfl (lv_at hl 2 rfl) ?_
  refine lv_iload_n hx hb dX1_putWater_25 rfl (lv_at hl 3 rfl) ?_
  refine lv_iload_n hx hb dX1_putWater_26 rfl (lv_at hl 4 rfl) ?_
  refine lv_iconst (v := nI 0) hx hb dX1_putWater_27 (by decide) ?_
  refine lv_lload hx hb dX1_putWater_28 (lv_at hl 0 rfl) ?_
  refine lv_lload_n hx hb dX1_putWater_30 rfl (lv_at hl 5 rfl) ?_
  refine gv_mv (wc := [(b0, .inr (1, [.ref b1, .ref b2, .ref b3])), (b3, .inl (cJ, 64, .inr (.inl fP)))]) (wr := [(b2, .inl (cJ, 64, .inr (.inl (vp_updL fW (y * 8 + x) ms))))]) (w2 := (fun u => [(b0, .inr (1, [.ref b1, .ref b2, .ref b3])), (b2, .inl (cJ, 64, .inr (.inl (vp_updL fW (y * 8 + x) ms)))), (b3, .inl (cJ, 64, .inr (.inl (gv_chg fP (fun j => gv_pt ms x y 0 j - gv_pt (fW (y * 8 + x)) x y 0 j) 64))))])) (va_runV (As := [.int (nI x), .int (nI y), .int (nI 0), .long (fW (y * 8 + x)), .long ms]) (rest := []) ⟨hx, hb, hml, hown, hts⟩ (ct_X1_changePulls l D cI cJ H.size b0 b1 b2 b3 fP x y 0 (fW (y * 8 + x)) ms) (cwV 5 hts gX1_putWater_X1_changePulls rfl rfl rfl (by decide +kernel) ⟨Nat.le_of_ble_eq_true rfl, Nat.le_of_ble_eq_true rfl⟩) (gv_pV (wc := [(b0, .inr (1, [.ref b1, .ref b2, .ref b3])), (b3, .inl (cJ, 64, .inr (.inl fP)))]) hP hK hD hG [0, 2] rfl (by decide) 0 rfl rfl rfl) rfl rfl hl.1 rfl (lv_room (Nat.le_of_ble_eq_true rfl)) dX1_putWater_31 ⟨Nat.le_of_ble_eq_true rfl, Nat.le_of_ble_eq_true rfl⟩) hP hD hS hA [0, 2] [1] [1, 0, 2] rfl rfl (by decide) (by decide) (fun u => rfl) (by decide) (fun u H locs hr_2 hP hD hS => ?_)
  have hP : va_P D vwCl [(b0, .inr (1, [.ref b1, .ref b2, .ref b3])), (b2, .inl (cJ, 64, .inr (.inl (vp_updL fW (y * 8 + x) ms)))), (b3, .inl (cJ, 64, .inr (.inl (gv_chg fP (fun j => gv_pt ms x y 0 j - gv_pt (fW (y * 8 + x)) x y 0 j) 64))))] H := hP
  have hD : va_D A [(b0, .inr (1, [.ref b1, .ref b2, .ref b3])), (b2, .inl (cJ, 64, .inr (.inl (vp_updL fW (y * 8 + x) ms)))), (b3, .inl (cJ, 64, .inr (.inl (gv_chg fP (fun j => gv_pt ms x y 0 j - gv_pt (fW (y * 8 + x)) x y 0 j) 64))))] := hD
  refine lv_lload hx hb dX1_putWater_34 (lv_at hl 0 rfl) ?_
  have hpo : (fW (y * 8 + x)) = fW (y * 8 + x) := by
    rfl
  have hP9 : va_P D vwCl [(b0, .inr (1, [.ref b1, .ref b2, .ref b3])), (b2, .inl (cJ, 64, .inr (.inl (vp_updL fW (y * 8 + x) ms)))), (b3, .inl (cJ, 64, .inr (.inl (gv_chg fP (fun j => gv_pt ms x y 0 j - gv_pt (fW (y * 8 + x)) x y 0 j) 64))))] H := hP
  have hD9 : va_D A [(b0, .inr (1, [.ref b1, .ref b2, .ref b3])), (b2, .inl (cJ, 64, .inr (.inl (vp_updL fW (y * 8 + x) ms)))), (b3, .inl (cJ, 64, .inr (.inl (gv_chg fP (fun j => gv_pt ms x y 0 j - gv_pt (fW (y * 8 + x)) x y 0 j) 64))))] := hD
  exact W.lret (v := fW (y * 8 + x)) hx hb hr (fun t9 ht9 hW9 => ⟨⟨(fW (y * 8 + x)), (), rfl, hpo, by rw [ht9]; exact hP9, hD9⟩, hS.F ht9⟩) hS.2.2 dX1_putWater_36
set_option maxHeartbeats 4000000 in
set_option maxRecDepth 100000 in
theorem ct_X1_summedPull (l : Launch) (D : va_G) (cI cJ : ClassId) (sz : Nat) (b0 b1 b2 b3 : Nat) (fM fW : Nat → Int64) (x y : Nat)  : Met l yX1_summedPull wsX1_summedPull ({ frames := 1, cells := 0, slots := 0, locals := 23 }) (va_Pc [.ref b0, .int (nI x), .int (nI y)] (gv_B D cI cJ [(b0, .inr (1, [.ref b1, .ref b2, .ref b3])), (b1, .inl (cJ, 192, .inr (.inl fM))), (b2, .inl (cJ, 64, .inr (.inl fW)))] sz)) (vp_Sl (fun r9 : Int64 => r9 = gv_sumC fM fW x y 64)) 0 0 (fun _ => False) := by
  refine Met.ofW (cc := cX1_summedPull) (maxL := 9) (ret := (some .long)) (by decide) rfl ?_
  intro p e s m args below meth c s₁ B hml hv
  obtain ⟨rfl, hsz, hP, hK, hD0, hG⟩ := hv
  have hx := B.exec
  have hb := B.bytes
  have hr := B.returns
  have hts := atoms_spec (ws := wsX1_summedPull) B.pre
  have hown : s.vm.findClass RX1 = some m.cls := findClass_of_methodNamed B.named
  have hlocks := B.notSynchronized
  subst hsz
  have hD := hD0
  have hP : va_P D vwCl [(b0, .inr (1, [.ref b1, .ref b2, .ref b3])), (b1, .inl (cJ, 192, .inr (.inl fM))), (b2, .inl (cJ, 64, .inr (.inl fW)))] s.heap := hP
  have hl := lv_entry ([.ref b0, .int (nI x), .int (nI y)]) (n := 9) (Nat.le_of_ble_eq_true rfl)
  rw [lg_entry_eq]
  generalize (lg_sl ([.ref b0, .int (nI x), .int (nI y)]) ++ List.replicate (9 - (lg_sl ([.ref b0, .int (nI x), .int (nI y)])).length) Slot.unset).toArray = ls at hl ⊢
  have hl : lv_has ls 9 [(0, .ref b0), (1, .int (nI x)), (2, .int (nI y))] := hl
  refine lv_lconst (v := 0) hx hb dX1_summedPull_0 (by decide) ?_
  refine lv_lstore_n (lv' := [(3, .long 0), (0, .ref b0), (1, .int (nI x)), (2, .int (nI y))]) hx hb dX1_summedPull_1 rfl hl (by decide) rfl (fun ls hl => ?_)
  refine lv_iconst (v := nI 0) hx hb dX1_summedPull_2 (by decide) ?_
  refine lv_istore (lv' := [(5, .int (nI 0)), (3, .long 0), (0, .ref b0), (1, .int (nI x)), (2, .int (nI y))]) hx hb dX1_summedPull_3 hl (by decide) rfl (fun ls hl => ?_)
  refine gv_lp (σ := Nat × Int64) (fun zq ls => match zq with | (b, sm) => b ≤ 8 ∧ sm = gv_sumC fM fW x y (8 * b) ∧ lv_has ls 9 [(0, .ref b0), (1, .int (nI x)), (2, .int (nI y)), (3, .long sm), (5, .int (nI b))]) (fun zq => match zq with | (b, sm) => 8 - b) (0, 0) ⟨by omega, rfl, lv_sub hl [2, 3, 4, 1, 0] rfl⟩ (fun zq ls hI ih_5 => ?_)
  obtain ⟨b, sm⟩ := zq
  obtain ⟨hb8, hsm, hl⟩ := hI
  refine lv_iload hx hb dX1_summedPull_5 (lv_at hl 4 rfl) ?_
  refine lv_bipush (v := nI 8) hx hb dX1_summedPull_7 (by decide) ?_
  refine lv_icmp_ge (tgt := 115) hx hb dX1_summedPull_9 (by decide) (fun c_9 => ?_) (fun c_9 => ?_)
  · skip
    have c_9 := (nI_leI (a := 8) (b := b) (by omega) (by omega)).mp c_9
    refine lv_lload_n hx hb dX1_summedPull_115 rfl (lv_at hl 3 rfl) ?_
    have hpo : sm = gv_sumC fM fW x y 64 := by
      rw [hsm, show 8 * b = 64 by omega]
    exact W.lret (v := sm) hx hb hr (fun t9 ht9 hW9 => ⟨sm, rfl, hpo, ht9⟩) t_nil dX1_summedPull_116
  · skip
    have c_9 := (not_congr (nI_leI (a := 8) (b := b) (by omega) (by omega))).mp c_9
    refine lv_iconst (v := nI 0) hx hb dX1_summedPull_12 (by decide) ?_
    refine lv_istore (lv' := [(6, .int (nI 0)), (0, .ref b0), (1, .int (nI x)), (2, .int (nI y)), (3, .long sm), (5, .int (nI b))]) hx hb dX1_summedPull_13 hl (by decide) rfl (fun ls hl => ?_)
    refine gv_lp (σ := Nat × Int64) (fun zq ls => match zq with | (a, sm2) => a ≤ 8 ∧ sm2 = gv_sumC fM fW x y (8 * b + a) ∧ lv_has ls 9 [(0, .ref b0), (1, .int (nI x)), (2, .int (nI y)), (3, .long sm2), (5, .int (nI b)), (6, .int (nI a))]) (fun zq => match zq with | (a, sm2) => 8 - a) (0, sm) ⟨by omega, hsm, lv_sub hl [1, 2, 3, 4, 5, 0] rfl⟩ (fun zq ls hI ih_15 => ?_)
    obtain ⟨a, sm2⟩ := zq
    obtain ⟨ha8, hsm2, hl⟩ := hI
    refine lv_iload hx hb dX1_summedPull_15 (lv_at hl 5 rfl) ?_
    refine lv_bipush (v := nI 8) hx hb dX1_summedPull_17 (by decide) ?_
    refine lv_icmp_ge (tgt := 109) hx hb dX1_summedPull_19 (by decide) (fun c_19 => ?_) (fun c_19 => ?_)
    · skip
      have c_19 := (nI_leI (a := 8) (b := a) (by omega) (by omega)).mp c_19
      refine lv_iinc (v := nI (b + 1)) (lv' := [(5, .int (nI (b + 1))), (0, .ref b0), (1, .int (nI x)), (2, .int (nI y)), (3, .long sm2), (6, .int (nI a))]) hx hb dX1_summedPull_109 hl (k := 4) rfl (nI_add b 1) (by decide) rfl (fun ls hl => ?_)
      refine lv_goto (tgt := 5) hx hb dX1_summedPull_112 (by decide) ?_
      exact ih_5 (b + 1, sm2) _ ⟨by omega, by rw [hsm2, show 8 * b + a = 8 * (b + 1) by omega], lv_sub hl [1, 2, 3, 4, 0] rfl⟩ (by simp only; omega)
    · skip
      have c_19 := (not_congr (nI_leI (a := 8) (b := a) (by omega) (by omega))).mp c_19
      refine lv_iload hx hb dX1_summedPull_22 (lv_at hl 5 rfl) ?_
      refine lv_iload hx hb dX1_summedPull_24 (lv_at hl 4 rfl) ?_
      refine gv_pi (va_runSN (As := [.int (nI a), .int (nI b)]) (rest := []) ⟨hx, hb, hml, hown, hts⟩ (ct_X5_cellNumber l a b) ⟨va_cnB 2 hts gX1_summedPull_X5_cellNumber_n21 rfl rfl rfl (gv_nm_X1_21 hG) (hts (.initialized RX5) (by decide +kernel)) (by decide +kernel) ⟨Nat.le_of_ble_eq_true rfl, Nat.le_of_ble_eq_true rfl⟩, (hts (.static yX5_cellNumber) (by decide +kernel)), trivial⟩ gv_p0 rfl rfl hl.1 rfl (lv_room (Nat.le_of_ble_eq_true rfl)) dX1_summedPull_26 ⟨Nat.le_of_ble_eq_true rfl, Nat.le_of_ble_eq_true rfl⟩) (fun r0 hr0 => ?_)
      subst hr0
      refine lv_istore (lv' := [(7, .int (nI (b * 8 + a))), (0, .ref b0), (1, .int (nI x)), (2, .int (nI y)), (3, .long sm2), (5, .int (nI b)), (6, .int (nI a))]) hx hb dX1_summedPull_29 hl (by decide) rfl (fun ls hl => ?_)
      refine lv_lload_n hx hb dX1_summedPull_31 rfl (lv_at hl 4 rfl) ?_
      refine lv_aload_n hx hb dX1_summedPull_32 rfl (lv_at hl 1 rfl) ?_
      refine va_get (D := D) (ci := 1) (v := .ref b2) (C := RX1) (T := TX1) (N := 3) hx hb hts gv_in_X1_summedPull_X1 hown hK hP 0 rfl rfl 1 (by decide) (hts (.fieldLink RX1 15 "Gravimere$Body" "waters" "[J") (by decide +kernel)) (fun _ h9 => h9) rfl dX1_summedPull_33 ?_
      refine lv_iload hx hb dX1_summedPull_36 (lv_at hl 0 rfl) ?_
      refine gv_ll hx hb hK hP 2 (k := b * 8 + a) rfl (by omega) (by decide) dX1_summedPull_38 ?_
      refine lv_iload hx hb dX1_summedPull_39 (lv_at hl 6 rfl) ?_
      refine lv_iload_n hx hb dX1_summedPull_41 rfl (lv_at hl 2 rfl) ?_
      refine lv_isub hx hb dX1_summedPull_42 ?_
      refine lv_iload hx hb dX1_summedPull_43 (lv_at hl 5 rfl) ?_
      refine lv_iload_n hx hb dX1_summedPull_45 rfl (lv_at hl 3 rfl) ?_
      refine lv_isub hx hb dX1_summedPull_46 ?_
      refine lv_iconst (v := nI 0) hx hb dX1_summedPull_47 (by decide) ?_
      refine gv_pl (va_runS (As := [.int ((nI a) - (nI x)), .int ((nI b) - (nI y)), .int (nI 0)]) (rest := [.long (fW (b * 8 + a)), .long sm2]) ⟨hx, hb, hml, hown, hts⟩ (ct_X1_squareOf l (nI a - nI x) (nI b - nI y) 0) (va_cwS 3 hts gX1_summedPull_X1_squareOf rfl rfl rfl (by decide +kernel) ⟨Nat.le_of_ble_eq_true rfl, Nat.le_of_ble_eq_true rfl⟩) gv_p0 rfl rfl hl.1 rfl (lv_room (Nat.le_of_ble_eq_true rfl)) dX1_summedPull_48 ⟨Nat.le_of_ble_eq_true rfl, Nat.le_of_ble_eq_true rfl⟩) (fun w1 hw1 => ?_)
      refine gv_pl (va_runS (As := [.long (fW (b * 8 + a)), .long w1]) (rest := [.long sm2]) ⟨hx, hb, hml, hown, hts⟩ (ct_X1_pullOf l (fW (b * 8 + a)) w1) (va_cwS 2 hts gX1_summedPull_X1_pullOf rfl rfl rfl (by decide +kernel) ⟨Nat.le_of_ble_eq_true rfl, Nat.le_of_ble_eq_true rfl⟩) gv_p0 rfl rfl hl.1 rfl (lv_room (Nat.le_of_ble_eq_true rfl)) dX1_summedPull_51 ⟨Nat.le_of_ble_eq_true rfl, Nat.le_of_ble_eq_true rfl⟩) (fun w2 hw2 => ?_)
      refine lv_ladd hx hb dX1_summedPull_54 ?_
      refine lv_lstore_n (lv' := [(3, .long (sm2 + w2)), (7, .int (nI (b * 8 + a))), (0, .ref b0), (1, .int (nI x)), (2, .int (nI y)), (5, .int (nI b)), (6, .int (nI a))]) hx hb dX1_summedPull_55 rfl hl (by decide) rfl (fun ls hl => ?_)
      refine lv_iconst (v := nI 0) hx hb dX1_summedPull_56 (by decide) ?_
      refine lv_istore (lv' := [(8, .int (nI 0)), (3, .long (sm2 + w2)), (7, .int (nI (b * 8 + a))), (0, .ref b0), (1, .int (nI x)), (2, .int (nI y)), (5, .int (nI b)), (6, .int (nI a))]) hx hb dX1_summedPull_57 hl (by decide) rfl (fun ls hl => ?_)
      refine gv_lp (σ := Nat × Int64) (fun zq ls => match zq with | (la, sm3) => la ≤ 3 ∧ sm3 = gv_acc (gv_sumC fM fW x y (8 * b + a) + gv_pt (fW (8 * b + a)) x y 0 (8 * b + a)) (fun la => gv_pt (fM (la * 64 + (8 * b + a))) x y la (8 * b + a)) la ∧ lv_has ls 9 [(0, .ref b0), (1, .int (nI x)), (2, .int (nI y)), (3, .long sm3), (5, .int (nI b)), (6, .int (nI a)), (7, .int (nI (b * 8 + a))), (8, .int (nI la))]) (fun zq => match zq with | (la, sm3) => 3 - la) (0, sm2 + w2) ⟨by omega, by rw [hw2, hw1, hsm2]; unfold gv_pt; rw [gv_sq_eq (by omega), show b * 8 + a = 8 * b + a by omega]; rfl, lv_sub hl [3, 4, 5, 1, 6, 7, 2, 0] rfl⟩ (fun zq ls hI ih_59 => ?_)
      obtain ⟨la, sm3⟩ := zq
      obtain ⟨hl3, hsm3, hl⟩ := hI
      refine lv_iload hx hb dX1_summedPull_59 (lv_at hl 7 rfl) ?_
      refine lv_iconst (v := nI 3) hx hb dX1_summedPull_61 (by decide) ?_
      refine lv_icmp_ge (tgt := 103) hx hb dX1_summedPull_62 (by decide) (fun c_62 => ?_) (fun c_62 => ?_)
      · skip
        have c_62 := (nI_leI (a := 3) (b := la) (by omega) (by omega)).mp c_62
        have hla3 : la = 3 := by omega
        rw [hla3] at hsm3
        refine lv_iinc (v := nI (a + 1)) (lv' := [(6, .int (nI (a + 1))), (0, .ref b0), (1, .int (nI x)), (2, .int (nI y)), (3, .long sm3), (5, .int (nI b)), (7, .int (nI (b * 8 + a))), (8, .int (nI la))]) hx hb dX1_summedPull_103 hl (k := 5) rfl (nI_add a 1) (by decide) rfl (fun ls hl => ?_)
        refine lv_goto (tgt := 15) hx hb dX1_summedPull_106 (by decide) ?_
        exact ih_15 (a + 1, sm3) _ ⟨by omega, by rw [hsm3, show 8 * b + (a + 1) = (8 * b + a) + 1 by omega, gv_sumC], lv_sub hl [1, 2, 3, 4, 5, 0] rfl⟩ (by simp only; omega)
      · skip
        have c_62 := (not_congr (nI_leI (a := 3) (b := la) (by omega) (by omega))).mp c_62
        refine lv_lload_n hx hb dX1_summedPull_65 rfl (lv_at hl 3 rfl) ?_
        refine lv_aload_n hx hb dX1_summedPull_66 rfl (lv_at hl 0 rfl) ?_
        refine va_get (D := D) (ci := 1) (v := .ref b1) (C := RX1) (T := TX1) (N := 3) hx hb hts gv_in_X1_summedPull_X1 hown hK hP 0 rfl rfl 0 (by decide) (hts (.fieldLink RX1 9 "Gravimere$Body" "masses" "[J") (by decide +kernel)) (fun _ h9 => h9) rfl dX1_summedPull_67 ?_
        refine lv_iload hx hb dX1_summedPull_70 (lv_at hl 7 rfl) ?_
        refine lv_bipush (v := nI 64) hx hb dX1_summedPull_72 (by decide) ?_
        refine lv_imul hx hb dX1_summedPull_74 ?_
        refine gv_wi (pk_mul la 64) ?_
        refine lv_iload hx hb dX1_summedPull_75 (lv_at hl 6 rfl) ?_
        refine lv_iadd hx hb dX1_summedPull_77 ?_
        refine gv_wi (nI_add (la * 64) (b * 8 + a)) ?_
        refine gv_ll hx hb hK hP 1 (k := la * 64 + (b * 8 + a)) rfl (by omega) (by decide) dX1_summedPull_78 ?_
        refine lv_iload hx hb dX1_summedPull_79 (lv_at hl 5 rfl) ?_
        refine lv_iload_n hx hb dX1_summedPull_81 rfl (lv_at hl 1 rfl) ?_
        refine lv_isub hx hb dX1_summedPull_82 ?_
        refine lv_iload hx hb dX1_summedPull_83 (lv_at hl 4 rfl) ?_
        refine lv_iload_n hx hb dX1_summedPull_85 rfl (lv_at hl 2 rfl) ?_
        refine lv_isub hx hb dX1_summedPull_86 ?_
        refine lv_iload hx hb dX1_summedPull_87 (lv_at hl 7 rfl) ?_
        refine gv_pl (va_runS (As := [.int ((nI a) - (nI x)), .int ((nI b) - (nI y)), .int (nI la)]) (rest := [.long (fM (la * 64 + (b * 8 + a))), .long sm3]) ⟨hx, hb, hml, hown, hts⟩ (ct_X1_squareOf l (nI a - nI x) (nI b - nI y) la) (va_cwS 3 hts gX1_summedPull_X1_squareOf rfl rfl rfl (by decide +kernel) ⟨Nat.le_of_ble_eq_true rfl, Nat.le_of_ble_eq_true rfl⟩) gv_p0 rfl rfl hl.1 rfl (lv_room (Nat.le_of_ble_eq_true rfl)) dX1_summedPull_89 ⟨Nat.le_of_ble_eq_true rfl, Nat.le_of_ble_eq_true rfl⟩) (fun m1 hm1 => ?_)
        refine gv_pl (va_runS (As := [.long (fM (la * 64 + (b * 8 + a))), .long m1]) (rest := [.long sm3]) ⟨hx, hb, hml, hown, hts⟩ (ct_X1_pullOf l (fM (la * 64 + (b * 8 + a))) m1) (va_cwS 2 hts gX1_summedPull_X1_pullOf rfl rfl rfl (by decide +kernel) ⟨Nat.le_of_ble_eq_true rfl, Nat.le_of_ble_eq_true rfl⟩) gv_p0 rfl rfl hl.1 rfl (lv_room (Nat.le_of_ble_eq_true rfl)) dX1_summedPull_92 ⟨Nat.le_of_ble_eq_true rfl, Nat.le_of_ble_eq_true rfl⟩) (fun m2 hm2 => ?_)
        refine lv_ladd hx hb dX1_summedPull_95 ?_
        refine lv_lstore_n (lv' := [(3, .long (sm3 + m2)), (0, .ref b0), (1, .int (nI x)), (2, .int (nI y)), (5, .int (nI b)), (6, .int (nI a)), (7, .int (nI (b * 8 + a))), (8, .int (nI la))]) hx hb dX1_summedPull_96 rfl hl (by decide) rfl (fun ls hl => ?_)
        refine lv_iinc (v := nI (la + 1)) (lv' := [(8, .int (nI (la + 1))), (3, .long (sm3 + m2)), (0, .ref b0), (1, .int (nI x)), (2, .int (nI y)), (5, .int (nI b)), (6, .int (nI a)), (7, .int (nI (b * 8 + a)))]) hx hb dX1_summedPull_97 hl (k := 7) rfl (nI_add la 1) (by decide) rfl (fun ls hl => ?_)
        refine lv_goto (tgt := 59) hx hb dX1_summedPull_100 (by decide) ?_
        exact ih_59 (la + 1, sm3 + m2) _ ⟨by omega, by rw [hm2, hm1, hsm3, gv_acc]; rw [show b * 8 + a = 8 * b + a by omega]; unfold gv_pt; rw [gv_sq_eq (x := x) (y := y) (la := la) (b := b) (a := a) (by omega)], lv_sub hl [2, 3, 4, 1, 5, 6, 7, 0] rfl⟩ (by simp only; omega)
end
section
theorem gv_nlt32 {a b : Int32} (h : ¬ a < b) : b ≤ a := by rw [Int32.lt_iff_toInt_lt] at h; rw [Int32.le_iff_toInt_le]; omega
theorem gv_nle32 {a b : Int32} (h : ¬ a ≤ b) : b < a := by rw [Int32.le_iff_toInt_le] at h; rw [Int32.lt_iff_toInt_lt]; omega
theorem gv_ltn32 {a b : Int32} (h : a < b) : ¬ b ≤ a := by rw [Int32.lt_iff_toInt_lt] at h; rw [Int32.le_iff_toInt_le]; omega
theorem gv_len32 {a b : Int32} (h : a ≤ b) : ¬ b < a := by rw [Int32.le_iff_toInt_le] at h; rw [Int32.lt_iff_toInt_lt]; omega
/-! Moon, Needles, Archive, Survey: what they answer and become -/
def gv_off (kd of_ td : Nat → Int32) (mo : Int32) (i : Nat) : Int64 := if kd i = 0 then (of_ i).toInt64 else (of_ i).toInt64 * (mo - td i).toInt64
def gv_fdiv (v b : Int64) : Int64 := if (v ^^^ b) < 0 ∧ ¬ v / b * b = v then v / b - 1 else v / b
def gv_un (f : Nat → Nat) (k v : Nat) : Nat → Nat := fun j => if j = k then v else f j
theorem gv_upd_n (f : Nat → Nat) (k v : Nat) : upd (fun j => nI (f j)) k (nI v) = fun j => nI (gv_un f k v j) := by
  funext j
  unfold gv_un
  by_cases h : j = k
  · subst h; rw [pk_us, if_pos rfl]
  · rw [pk_un h, if_neg h]
theorem gv_i2lne {n : Nat} (h : 0 < n) (h2 : n < 2 ^ 31) : ¬ (nI n).toInt64 = 0 := by
  rw [nI_l h2]
  intro h3
  have h4 := (lN_eq (a := n) (b := 0) h2 (by omega)).mp h3
  omega
def gv_kn (f : Nat → Int32) (n : Nat) : Nat → Int32 := fun j => if j = 0 then nI 0 else if j < n then -1 else f j
def gv_ko (f : Nat → Int32) : Nat → Int32 := gv_kn f 10
theorem gv_kn_1 (f : Nat → Int32) : upd f 0 (nI 0) = gv_kn f 1 := by
  funext j
  unfold gv_kn
  by_cases h : j = 0
  · subst h; rw [pk_us, if_pos rfl]
  · rw [pk_un h, if_neg h, if_neg (by omega)]
theorem gv_kn_s {f : Nat → Int32} {n : Nat} (hn : 1 ≤ n) : upd (gv_kn f n) n (-1) = gv_kn f (n + 1) := by
  funext j
  by_cases h : j = n
  · subst h; rw [pk_us]; unfold gv_kn; rw [if_neg (by omega), if_pos (by omega)]
  · rw [pk_un h]
    unfold gv_kn
    by_cases h0 : j = 0
    · rw [if_pos h0, if_pos h0]
    · rw [if_neg h0, if_neg h0]
      by_cases h2 : j < n
      · rw [if_pos h2, if_pos (by omega)]
      · rw [if_neg h2, if_neg (by omega)]
def gv_db2 (x y u : Int32) : Int32 := if (x = -1 ↔ y = -1) then -1 else (if x = -1 then y else x) + u
def gv_db (sa sb su : Nat → Nat) (d : Nat → Int32) (k : Nat) : Int32 := gv_db2 (d (sa k)) (d (sb k)) (nI (su k))
theorem gv_flag {p : Prop} [Decidable p] {q : Prop} [Decidable q] {v w : Int32} (hv : v = if p then nI 1 else nI 0) (hw : w = if q then nI 1 else nI 0) : v = w ↔ (p ↔ q) := by
  subst hv; subst hw
  by_cases h : p <;> by_cases h2 : q <;> simp only [h, h2, if_true, if_false] <;> decide
theorem gv_db_1 {x y u v w : Int32} (hv : v = if x = -1 then nI 1 else nI 0) (hw : w = if y = -1 then nI 1 else nI 0) (h : v = w) : -1 = gv_db2 x y u := (if_pos ((gv_flag hv hw).mp h)).symm
theorem gv_db_2 {x y u v w : Int32} (hv : v = if x = -1 then nI 1 else nI 0) (hw : w = if y = -1 then nI 1 else nI 0) (h : ¬ v = w) (hx : x = -1) : y + u = gv_db2 x y u := by
  unfold gv_db2
  rw [if_neg (fun z => h ((gv_flag hv hw).mpr z)), if_pos hx]
theorem gv_db_3 {x y u v w : Int32} (hv : v = if x = -1 then nI 1 else nI 0) (hw : w = if y = -1 then nI 1 else nI 0) (h : ¬ v = w) (hx : ¬ x = -1) : x + u = gv_db2 x y u := by
  unfold gv_db2
  rw [if_neg (fun z => h ((gv_flag hv hw).mpr z)), if_neg hx]
/-- the line that goes next, and its sum: among the first n lines -/
def gv_srl (sa sb su : Nat → Nat) (d : Nat → Int32) : Nat → Int32 × Int32
  | 0 => (-1, -1)
  | k + 1 => if ¬ gv_db sa sb su d k = -1 ∧ ((gv_srl sa sb su d k).1 = -1 ∨ gv_db sa sb su d k < (gv_srl sa sb su d k).2) then (nI k, gv_db sa sb su d k) else gv_srl sa sb su d k
theorem gv_srl_n {sa sb su : Nat → Nat} {d : Nat → Int32} : ∀ {n : Nat}, n ≤ 24 → ¬ (gv_srl sa sb su d n).1 = -1 → ∃ j, j < n ∧ gv_srl sa sb su d n = (nI j, gv_db sa sb su d j) ∧ ¬ gv_db sa sb su d j = -1
  | 0, _, h => absurd rfl h
  | k + 1, hk, h => by
    rw [gv_srl] at h ⊢
    by_cases c : ¬ gv_db sa sb su d k = -1 ∧ ((gv_srl sa sb su d k).1 = -1 ∨ gv_db sa sb su d k < (gv_srl sa sb su d k).2)
    · rw [if_pos c]
      exact ⟨k, Nat.lt_succ_self k, rfl, c.1⟩
    · rw [if_neg c] at h ⊢
      obtain ⟨j, hj, e1, e2⟩ := gv_srl_n (by omega) h
      exact ⟨j, by omega, e1, e2⟩
/-- a step by the line k -/
def gv_stp (sa sb su : Nat → Nat) (sr : Nat → Int32) (q : (Nat → Int32) × (Nat → Int32)) (k : Nat) : (Nat → Int32) × (Nat → Int32) :=
  if q.1 (sb k) = -1 then (upd q.1 (sb k) (q.1 (sa k) + nI (su k)), upd q.2 (sb k) (q.2 (sa k) + sr k)) else (upd q.1 (sa k) (q.1 (sb k) + nI (su k)), upd q.2 (sa k) (q.2 (sb k) - sr k))
def gv_itr (sa sb su : Nat → Nat) (sr : Nat → Int32) (n : Nat) : Nat → (Nat → Int32) × (Nat → Int32) → (Nat → Int32) × (Nat → Int32)
  | 0, q => q
  | j + 1, q => if (gv_srl sa sb su q.1 n).1 = -1 then q else gv_itr sa sb su sr n j (gv_stp sa sb su sr q (gv_srl sa sb su q.1 n).1.toNatClampNeg)
theorem gv_itr_no {sa sb su : Nat → Nat} {sr : Nat → Int32} {n : Nat} {q : (Nat → Int32) × (Nat → Int32)} (h : (gv_srl sa sb su q.1 n).1 = -1) : ∀ j, gv_itr sa sb su sr n j q = q
  | 0 => rfl
  | j + 1 => by rw [gv_itr, if_pos h]
theorem gv_itr_go {sa sb su : Nat → Nat} {sr : Nat → Int32} {n i j k : Nat} {q : (Nat → Int32) × (Nat → Int32)} (hi : i = j + 1) (hk : k < 2 ^ 31) (h : ¬ (gv_srl sa sb su q.1 n).1 = -1) (h2 : (gv_srl sa sb su q.1 n).1 = nI k) : gv_itr sa sb su sr n i q = gv_itr sa sb su sr n j (gv_stp sa sb su sr q k) := by
  subst hi
  rw [gv_itr, if_neg h, h2, nI_clamp hk]
def gv_abs (z : Int32) : Int32 := if 0 ≤ z then z else 0 - z
def gv_con (sa sb su : Nat → Nat) (sr d h : Nat → Int32) (k : Nat) : Prop := ¬ d (sa k) = -1 ∧ ¬ d (sb k) = -1 ∧ nI (su k) + d (sa k) + d (sb k) < gv_abs (sr k - (h (sb k) - h (sa k)))
/-- one line, one way: the row of doubts, and whether it became less -/
def gv_mkl (t : Nat → Int32) (f g : Nat) (u : Int32) : (Nat → Int32) × Int32 := if t f = -1 then (t, nI 0) else if ¬ t g = -1 ∧ t g ≤ t f + u then (t, nI 0) else (upd t g (t f + u), nI 1)
def gv_ln1 (sa sb su : Nat → Nat) (q : (Nat → Int32) × Int32) (k : Nat) : (Nat → Int32) × Int32 :=
  if ¬ (gv_mkl q.1 (sa k) (sb k) (nI (su k))).2 = 0 then ((gv_mkl q.1 (sa k) (sb k) (nI (su k))).1, nI 1)
  else if ¬ (gv_mkl (gv_mkl q.1 (sa k) (sb k) (nI (su k))).1 (sb k) (sa k) (nI (su k))).2 = 0 then ((gv_mkl (gv_mkl q.1 (sa k) (sb k) (nI (su k))).1 (sb k) (sa k) (nI (su k))).1, nI 1)
  else ((gv_mkl (gv_mkl q.1 (sa k) (sb k) (nI (su k))).1 (sb k) (sa k) (nI (su k))).1, q.2)
def gv_rnd (sa sb su : Nat → Nat) (t : Nat → Int32) : Nat → (Nat → Int32) × Int32
  | 0 => (t, nI 0)
  | k + 1 => gv_ln1 sa sb su (gv_rnd sa sb su t k) k
def gv_tal (sa sb su : Nat → Nat) (n : Nat) : Nat → (Nat → Int32) × Int32 → (Nat → Int32)
  | 0, q => q.1
  | j + 1, q => if q.2 = 0 then q.1 else gv_tal sa sb su n j (gv_rnd sa sb su q.1 n)
theorem gv_tal_no {sa sb su : Nat → Nat} {n : Nat} {q : (Nat → Int32) × Int32} (h : q.2 = 0) : ∀ j, gv_tal sa sb su n j q = q.1
  | 0 => rfl
  | j + 1 => by rw [gv_tal, if_pos h]
theorem gv_in_X2_put_X2 : ∀ w ∈ wsX20, w ∈ wsX2_put := by decide +kernel
theorem gv_in_X2_tideIn_X2 : ∀ w ∈ wsX20, w ∈ wsX2_tideIn := by decide +kernel
theorem gv_in_X3_add_X3 : ∀ w ∈ wsX30, w ∈ wsX3_add := by decide +kernel
theorem gv_in_X3_offIn_X3 : ∀ w ∈ wsX30, w ∈ wsX3_offIn := by decide +kernel
theorem gv_in_X0_keep_X0 : ∀ w ∈ wsX00, w ∈ wsX0_keep := by decide +kernel
theorem gv_in_X0_trendFrom_X0 : ∀ w ∈ wsX00, w ∈ wsX0_trendFrom := by decide +kernel
set_option maxHeartbeats 4000000 in
set_option maxRecDepth 100000 in
theorem ct_X2_put (l : Launch) (D : va_G) (cI cJ : ClassId) (sz : Nat) (m0 : Nat) (st pe p0 p1 : Int32)  : Met l yX2_put wsX2_put ({ frames := 0, cells := 0, slots := 0, locals := 0 }) (va_Pc [.ref m0, .int p0, .int p1] (gv_B D cI cJ [(m0, .inr (2, [.int st, .int pe]))] sz)) (va_Qi (fun (r9 : Int32) (u9 : Unit) => r9 = st) (fun (u9 : Unit) t9 =>  gv_W D (va_A [(m0, .inr (2, [.int st, .int pe]))] sz) [(m0, .inr (2, [.int p0, .int p1]))] t9) (va_A [(m0, .inr (2, [.int st, .int pe]))] sz)) 0 0 (va_A [(m0, .inr (2, [.int st, .int pe]))] sz) := by
  refine Met.ofW (cc := cX2_put) (maxL := 4) (ret := (some .int)) (by decide) rfl ?_
  intro p e s m args below meth c s₁ B hml hv
  obtain ⟨rfl, hsz, hP, hK, hD0, hG⟩ := hv
  have hx := B.exec
  have hb := B.bytes
  have hr := B.returns
  have hts := atoms_spec (ws := wsX2_put) B.pre
  have hown : s.vm.findClass RX2 = some m.cls := findClass_of_methodNamed B.named
  have hlocks := B.notSynchronized
  subst hsz
  have hD := hD0.self (sz := s.heap.size)
  generalize hAe : va_A [(m0, .inr (2, [.int st, .int pe]))] s.heap.size = A at hD ⊢
  have hA : ∀ q : Nat, s.heap.size ≤ q → A q := fun q h => by rw [← hAe]; exact Or.inr h
  have hS : va_S A s.heap s.heap [] := va_S.rf
  have hP : va_P D vwCl [(m0, .inr (2, [.int st, .int pe]))] s.heap := hP
  have hl := lv_entry ([.ref m0, .int p0, .int p1]) (n := 4) (Nat.le_of_ble_eq_true rfl)
  rw [lg_entry_eq]
  generalize (lg_sl ([.ref m0, .int p0, .int p1]) ++ List.replicate (4 - (lg_sl ([.ref m0, .int p0, .int p1])).length) Slot.unset).toArray = ls at hl ⊢
  have hl : lv_has ls 4 [(0, .ref m0), (1, .int p0), (2, .int p1)] := hl
  refine lv_aload_n hx hb dX2_put_0 rfl (lv_at hl 0 rfl) ?_
  refine va_get (D := D) (ci := 2) (v := .int st) (C := RX2) (T := TX2) (N := 2) hx hb hts gv_in_X2_put_X2 hown hK hP 0 rfl rfl 0 (by decide) (hts (.fieldLink RX2 7 "Gravimere$Moon" "strength" "I") (by decide +kernel)) (fun _ h9 => h9) rfl dX2_put_1 ?_
  refine lv_istore_n (lv' := [(3, .int st), (0, .ref m0), (1, .int p0), (2, .int p1)]) hx hb dX2_put_4 rfl hl (by decide) rfl (fun ls hl => ?_)
  refine lv_aload_n hx hb dX2_put_5 rfl (lv_at hl 1 rfl) ?_
  refine lv_iload_n hx hb dX2_put_6 rfl (lv_at hl 2 rfl) ?_
  refine va_put (D := D) (ci := 2) (v := .int p0) (ty := .int) (C := RX2) (T := TX2) (N := 2) hx hb hts gv_in_X2_put_X2 tyX2 tyX2_ok nmX2 hown hK hP hD hS 0 rfl rfl 0 (by decide) (hts (.fieldLink RX2 7 "Gravimere$Moon" "strength" "I") (by decide +kernel)) (fun _ h9 => h9) rfl (by decide +kernel) rfl rfl (Nat.le_of_ble_eq_true rfl) dX2_put_7 (fun H locs hP hD hS => ?_)
  have hP : va_P D vwCl [(m0, .inr (2, [.int p0, .int pe]))] H := hP
  have hD : va_D A [(m0, .inr (2, [.int p0, .int pe]))] := hD
  refine lv_aload_n hx hb dX2_put_10 rfl (lv_at hl 1 rfl) ?_
  refine lv_iload_n hx hb dX2_put_11 rfl (lv_at hl 3 rfl) ?_
  refine va_put (D := D) (ci := 2) (v := .int p1) (ty := .int) (C := RX2) (T := TX2) (N := 2) hx hb hts gv_in_X2_put_X2 tyX2 tyX2_ok nmX2 hown hK hP hD hS 0 rfl rfl 1 (by decide) (hts (.fieldLink RX2 13 "Gravimere$Moon" "period" "I") (by decide +kernel)) (fun _ h9 => h9) rfl (by decide +kernel) rfl rfl (Nat.le_of_ble_eq_true rfl) dX2_put_12 (fun H locs hP hD hS => ?_)
  have hP : va_P D vwCl [(m0, .inr (2, [.int p0, .int p1]))] H := hP
  have hD : va_D A [(m0, .inr (2, [.int p0, .int p1]))] := hD
  refine lv_iload_n hx hb dX2_put_15 rfl (lv_at hl 0 rfl) ?_
  have hpo : st = st := by
    rfl
  have hP9 : va_P D vwCl [(m0, .inr (2, [.int p0, .int p1]))] H := hP
  have hD9 : va_D A [(m0, .inr (2, [.int p0, .int p1]))] := hD
  exact W.iret (v := st) hx hb hr (fun t9 ht9 hW9 => ⟨⟨st, (), rfl, hpo, by rw [ht9]; exact hP9, hD9⟩, hS.F ht9⟩) hS.2.2 dX2_put_16
set_option maxHeartbeats 4000000 in
set_option maxRecDepth 100000 in
theorem ct_X2_tideIn (l : Launch) (D : va_G) (cI cJ : ClassId) (sz : Nat) (m0 : Nat) (st : Int32) (pe mo : Nat) (h1 : 1 ≤ pe) (h60 : pe ≤ 60) (hmo : mo ≤ 3000) : Met l yX2_tideIn wsX2_tideIn ({ frames := 0, cells := 0, slots := 0, locals := 0 }) (va_Pc [.ref m0, .int (nI mo)] (gv_B D cI cJ [(m0, .inr (2, [.int st, .int (nI pe)]))] sz)) (vp_Sl (fun r9 : Int64 => r9 = (if mo % pe < pe / 2 then st else -st).toInt64)) 0 0 (fun _ => False) := by
  refine Met.ofW (cc := cX2_tideIn) (maxL := 3) (ret := (some .long)) (by decide) rfl ?_
  intro p e s m args below meth c s₁ B hml hv
  obtain ⟨rfl, hsz, hP, hK, hD0, hG⟩ := hv
  have hx := B.exec
  have hb := B.bytes
  have hr := B.returns
  have hts := atoms_spec (ws := wsX2_tideIn) B.pre
  have hown : s.vm.findClass RX2 = some m.cls := findClass_of_methodNamed B.named
  have hlocks := B.notSynchronized
  subst hsz
  have hD := hD0
  have hP : va_P D vwCl [(m0, .inr (2, [.int st, .int (nI pe)]))] s.heap := hP
  have hmm : mo % pe ≤ mo := Nat.mod_le mo pe
  have hl := lv_entry ([.ref m0, .int (nI mo)]) (n := 3) (Nat.le_of_ble_eq_true rfl)
  rw [lg_entry_eq]
  generalize (lg_sl ([.ref m0, .int (nI mo)]) ++ List.replicate (3 - (lg_sl ([.ref m0, .int (nI mo)])).length) Slot.unset).toArray = ls at hl ⊢
  have hl : lv_has ls 3 [(0, .ref m0), (1, .int (nI mo))] := hl
  refine lv_aload_n hx hb dX2_tideIn_0 rfl (lv_at hl 0 rfl) ?_
  refine va_get (D := D) (ci := 2) (v := .int (nI pe)) (C := RX2) (T := TX2) (N := 2) hx hb hts gv_in_X2_tideIn_X2 hown hK hP 0 rfl rfl 1 (by decide) (hts (.fieldLink RX2 13 "Gravimere$Moon" "period" "I") (by decide +kernel)) (fun _ h9 => h9) rfl dX2_tideIn_1 ?_
  refine lv_iconst (v := nI 1) hx hb dX2_tideIn_4 (by decide) ?_
  refine lv_icmp_lt (tgt := 27) hx hb dX2_tideIn_5 (by decide) (fun c_5 => ?_) (fun c_5 => ?_)
  · skip
    have c_5 := (nI_ltI (a := pe) (b := 1) (by omega) (by omega)).mp c_5
    exfalso; omega
  · skip
    have c_5 := (not_congr (nI_ltI (a := pe) (b := 1) (by omega) (by omega))).mp c_5
    refine lv_iload_n hx hb dX2_tideIn_8 rfl (lv_at hl 1 rfl) ?_
    refine lv_aload_n hx hb dX2_tideIn_9 rfl (lv_at hl 0 rfl) ?_
    refine va_get (D := D) (ci := 2) (v := .int (nI pe)) (C := RX2) (T := TX2) (N := 2) hx hb hts gv_in_X2_tideIn_X2 hown hK hP 0 rfl rfl 1 (by decide) (hts (.fieldLink RX2 13 "Gravimere$Moon" "period" "I") (by decide +kernel)) (fun _ h9 => h9) rfl dX2_tideIn_10 ?_
    refine lv_irem hx hb dX2_tideIn_13 (nI_ne0 (by omega) (by omega)) ?_
    refine gv_wi (pk_rem (a := mo) (d := pe) (by omega) (by omega) (by omega)) ?_
    refine lv_aload_n hx hb dX2_tideIn_14 rfl (lv_at hl 0 rfl) ?_
    refine va_get (D := D) (ci := 2) (v := .int (nI pe)) (C := RX2) (T := TX2) (N := 2) hx hb hts gv_in_X2_tideIn_X2 hown hK hP 0 rfl rfl 1 (by decide) (hts (.fieldLink RX2 13 "Gravimere$Moon" "period" "I") (by decide +kernel)) (fun _ h9 => h9) rfl dX2_tideIn_15 ?_
    refine lv_iconst (v := nI 2) hx hb dX2_tideIn_18 (by decide) ?_
    refine lv_idiv hx hb dX2_tideIn_19 (by decide) ?_
    refine gv_wi (pk_div (a := pe) (d := 2) (by omega) (by omega) (by omega)) ?_
    refine lv_icmp_ge (tgt := 27) hx hb dX2_tideIn_20 (by decide) (fun c_20 => ?_) (fun c_20 => ?_)
    · skip
      have c_20 := (nI_leI (a := pe / 2) (b := mo % pe) (by omega) (by omega)).mp c_20
      refine lv_iconst (v := nI 0) hx hb dX2_tideIn_27 (by decide) ?_
      refine lv_istore_n (lv' := [(2, .int (nI 0)), (0, .ref m0), (1, .int (nI mo))]) hx hb dX2_tideIn_28 rfl hl (by decide) rfl (fun ls hl => ?_)
      refine lv_iload_n hx hb dX2_tideIn_29 rfl (lv_at hl 0 rfl) ?_
      refine lv_if_eq (tgt := 41) hx hb dX2_tideIn_30 (by decide) (fun c_30 => ?_) (fun c_30 => ?_)
      · skip
        refine lv_aload_n hx hb dX2_tideIn_41 rfl (lv_at hl 1 rfl) ?_
        refine va_get (D := D) (ci := 2) (v := .int st) (C := RX2) (T := TX2) (N := 2) hx hb hts gv_in_X2_tideIn_X2 hown hK hP 0 rfl rfl 0 (by decide) (hts (.fieldLink RX2 7 "Gravimere$Moon" "strength" "I") (by decide +kernel)) (fun _ h9 => h9) rfl dX2_tideIn_42 ?_
        refine lv_ineg hx hb dX2_tideIn_45 ?_
        refine lv_i2l (v := (-st).toInt64) hx hb dX2_tideIn_46 rfl ?_
        have hpo : ((-st).toInt64) = (if mo % pe < pe / 2 then st else -st).toInt64 := by
          rw [if_neg (by omega)]
        exact W.lret (v := (-st).toInt64) hx hb hr (fun t9 ht9 hW9 => ⟨((-st).toInt64), rfl, hpo, ht9⟩) t_nil dX2_tideIn_47
      · skip
        exact absurd (by decide) c_30
    · skip
      have c_20 := (not_congr (nI_leI (a := pe / 2) (b := mo % pe) (by omega) (by omega))).mp c_20
      refine lv_iconst (v := nI 1) hx hb dX2_tideIn_23 (by decide) ?_
      refine lv_goto (tgt := 28) hx hb dX2_tideIn_24 (by decide) ?_
      refine lv_istore_n (lv' := [(2, .int (nI 1)), (0, .ref m0), (1, .int (nI mo))]) hx hb dX2_tideIn_28 rfl hl (by decide) rfl (fun ls hl => ?_)
      refine lv_iload_n hx hb dX2_tideIn_29 rfl (lv_at hl 0 rfl) ?_
      refine lv_if_eq (tgt := 41) hx hb dX2_tideIn_30 (by decide) (fun c_30 => ?_) (fun c_30 => ?_)
      · skip
        exact absurd c_30 (by decide)
      · skip
        refine lv_aload_n hx hb dX2_tideIn_33 rfl (lv_at hl 1 rfl) ?_
        refine va_get (D := D) (ci := 2) (v := .int st) (C := RX2) (T := TX2) (N := 2) hx hb hts gv_in_X2_tideIn_X2 hown hK hP 0 rfl rfl 0 (by decide) (hts (.fieldLink RX2 7 "Gravimere$Moon" "strength" "I") (by decide +kernel)) (fun _ h9 => h9) rfl dX2_tideIn_34 ?_
        refine lv_i2l (v := st.toInt64) hx hb dX2_tideIn_37 rfl ?_
        refine lv_goto (tgt := 47) hx hb dX2_tideIn_38 (by decide) ?_
        have hpo : st.toInt64 = (if mo % pe < pe / 2 then st else -st).toInt64 := by
          rw [if_pos (by omega)]
        exact W.lret (v := st.toInt64) hx hb hr (fun t9 ht9 hW9 => ⟨st.toInt64, rfl, hpo, ht9⟩) t_nil dX2_tideIn_47
set_option maxHeartbeats 4000000 in
set_option maxRecDepth 100000 in
theorem ct_X3_add (l : Launch) (D : va_G) (cI cJ : ClassId) (sz : Nat) (n0 n1 n2 n3 nc : Nat) (kd of_ td : Nat → Int32) (k o mo : Int32) (hnc : nc < 6) : Met l yX3_add wsX3_add ({ frames := 0, cells := 0, slots := 0, locals := 0 }) (va_Pc [.ref n0, .int k, .int o, .int mo] (gv_B D cI cJ [(n0, .inr (3, [.ref n1, .ref n2, .ref n3, .int (nI nc)])), (n1, .inl (cI, 6, .inl kd)), (n2, .inl (cI, 6, .inl of_)), (n3, .inl (cI, 6, .inl td))] sz)) (va_Qi (fun (r9 : Int32) (u9 : Unit) => r9 = nI nc) (fun (u9 : Unit) t9 =>  gv_W D (va_A [(n0, .inr (3, [.ref n1, .ref n2, .ref n3, .int (nI nc)])), (n1, .inl (cI, 6, .inl kd)), (n2, .inl (cI, 6, .inl of_)), (n3, .inl (cI, 6, .inl td))] sz) [(n0, .inr (3, [.ref n1, .ref n2, .ref n3, .int (nI (nc + 1))])), (n1, .inl (cI, 6, .inl (upd kd nc k))), (n2, .inl (cI, 6, .inl (upd of_ nc o))), (n3, .inl (cI, 6, .inl (upd td nc mo)))] t9) (va_A [(n0, .inr (3, [.ref n1, .ref n2, .ref n3, .int (nI nc)])), (n1, .inl (cI, 6, .inl kd)), (n2, .inl (cI, 6, .inl of_)), (n3, .inl (cI, 6, .inl td))] sz)) 0 0 (va_A [(n0, .inr (3, [.ref n1, .ref n2, .ref n3, .int (nI nc)])), (n1, .inl (cI, 6, .inl kd)), (n2, .inl (cI, 6, .inl of_)), (n3, .inl (cI, 6, .inl td))] sz) := by
  refine Met.ofW (cc := cX3_add) (maxL := 4) (ret := (some .int)) (by decide) rfl ?_
  intro p e s m args below meth c s₁ B hml hv
  obtain ⟨rfl, hsz, hP, hK, hD0, hG⟩ := hv
  have hx := B.exec
  have hb := B.bytes
  have hr := B.returns
  have hts := atoms_spec (ws := wsX3_add) B.pre
  have hown : s.vm.findClass RX3 = some m.cls := findClass_of_methodNamed B.named
  have hlocks := B.notSynchronized
  subst hsz
  have hD := hD0.self (sz := s.heap.size)
  generalize hAe : va_A [(n0, .inr (3, [.ref n1, .ref n2, .ref n3, .int (nI nc)])), (n1, .inl (cI, 6, .inl kd)), (n2, .inl (cI, 6, .inl of_)), (n3, .inl (cI, 6, .inl td))] s.heap.size = A at hD ⊢
  have hA : ∀ q : Nat, s.heap.size ≤ q → A q := fun q h => by rw [← hAe]; exact Or.inr h
  have hS : va_S A s.heap s.heap [] := va_S.rf
  have hP : va_P D vwCl [(n0, .inr (3, [.ref n1, .ref n2, .ref n3, .int (nI nc)])), (n1, .inl (cI, 6, .inl kd)), (n2, .inl (cI, 6, .inl of_)), (n3, .inl (cI, 6, .inl td))] s.heap := hP
  have hl := lv_entry ([.ref n0, .int k, .int o, .int mo]) (n := 4) (Nat.le_of_ble_eq_true rfl)
  rw [lg_entry_eq]
  generalize (lg_sl ([.ref n0, .int k, .int o, .int mo]) ++ List.replicate (4 - (lg_sl ([.ref n0, .int k, .int o, .int mo])).length) Slot.unset).toArray = ls at hl ⊢
  have hl : lv_has ls 4 [(0, .ref n0), (1, .int k), (2, .int o), (3, .int mo)] := hl
  refine lv_aload_n hx hb dX3_add_0 rfl (lv_at hl 0 rfl) ?_
  refine va_get (D := D) (ci := 3) (v := .ref n1) (C := RX3) (T := TX3) (N := 4) hx hb hts gv_in_X3_add_X3 hown hK hP 0 rfl rfl 0 (by decide) (hts (.fieldLink RX3 9 "Gravimere$Needles" "kinds" "[I") (by decide +kernel)) (fun _ h9 => h9) rfl dX3_add_1 ?_
  refine lv_aload_n hx hb dX3_add_4 rfl (lv_at hl 0 rfl) ?_
  refine va_get (D := D) (ci := 3) (v := .int (nI nc)) (C := RX3) (T := TX3) (N := 4) hx hb hts gv_in_X3_add_X3 hown hK hP 0 rfl rfl 3 (by decide) (hts (.fieldLink RX3 21 "Gravimere$Needles" "count" "I") (by decide +kernel)) (fun _ h9 => h9) rfl dX3_add_5 ?_
  refine lv_iload_n hx hb dX3_add_8 rfl (lv_at hl 1 rfl) ?_
  refine gv_is hx hb hK hP hD hS 1 (k := nc) rfl (by omega) (by decide) dX3_add_9 (fun H locs hP hD hS => ?_)
  have hP : va_P D vwCl [(n0, .inr (3, [.ref n1, .ref n2, .ref n3, .int (nI nc)])), (n1, .inl (cI, 6, .inl (upd kd nc k))), (n2, .inl (cI, 6, .inl of_)), (n3, .inl (cI, 6, .inl td))] H := hP
  have hD : va_D A [(n0, .inr (3, [.ref n1, .ref n2, .ref n3, .int (nI nc)])), (n1, .inl (cI, 6, .inl (upd kd nc k))), (n2, .inl (cI, 6, .inl of_)), (n3, .inl (cI, 6, .inl td))] := hD
  refine lv_aload_n hx hb dX3_add_10 rfl (lv_at hl 0 rfl) ?_
  refine va_get (D := D) (ci := 3) (v := .ref n2) (C := RX3) (T := TX3) (N := 4) hx hb hts gv_in_X3_add_X3 hown hK hP 0 rfl rfl 1 (by decide) (hts (.fieldLink RX3 15 "Gravimere$Needles" "offs" "[I") (by decide +kernel)) (fun _ h9 => h9) rfl dX3_add_11 ?_
  refine lv_aload_n hx hb dX3_add_14 rfl (lv_at hl 0 rfl) ?_
  refine va_get (D := D) (ci := 3) (v := .int (nI nc)) (C := RX3) (T := TX3) (N := 4) hx hb hts gv_in_X3_add_X3 hown hK hP 0 rfl rfl 3 (by decide) (hts (.fieldLink RX3 21 "Gravimere$Needles" "count" "I") (by decide +kernel)) (fun _ h9 => h9) rfl dX3_add_15 ?_
  refine lv_iload_n hx hb dX3_add_18 rfl (lv_at hl 2 rfl) ?_
  refine gv_is hx hb hK hP hD hS 2 (k := nc) rfl (by omega) (by decide) dX3_add_19 (fun H locs hP hD hS => ?_)
  have hP : va_P D vwCl [(n0, .inr (3, [.ref n1, .ref n2, .ref n3, .int (nI nc)])), (n1, .inl (cI, 6, .inl (upd kd nc k))), (n2, .inl (cI, 6, .inl (upd of_ nc o))), (n3, .inl (cI, 6, .inl td))] H := hP
  have hD : va_D A [(n0, .inr (3, [.ref n1, .ref n2, .ref n3, .int (nI nc)])), (n1, .inl (cI, 6, .inl (upd kd nc k))), (n2, .inl (cI, 6, .inl (upd of_ nc o))), (n3, .inl (cI, 6, .inl td))] := hD
  refine lv_aload_n hx hb dX3_add_20 rfl (lv_at hl 0 rfl) ?_
  refine va_get (D := D) (ci := 3) (v := .ref n3) (C := RX3) (T := TX3) (N := 4) hx hb hts gv_in_X3_add_X3 hown hK hP 0 rfl rfl 2 (by decide) (hts (.fieldLink RX3 18 "Gravimere$Needles" "tiedMonths" "[I") (by decide +kernel)) (fun _ h9 => h9) rfl dX3_add_21 ?_
  refine lv_aload_n hx hb dX3_add_24 rfl (lv_at hl 0 rfl) ?_
  refine va_get (D := D) (ci := 3) (v := .int (nI nc)) (C := RX3) (T := TX3) (N := 4) hx hb hts gv_in_X3_add_X3 hown hK hP 0 rfl rfl 3 (by decide) (hts (.fieldLink RX3 21 "Gravimere$Needles" "count" "I") (by decide +kernel)) (fun _ h9 => h9) rfl dX3_add_25 ?_
  refine lv_iload_n hx hb dX3_add_28 rfl (lv_at hl 3 rfl) ?_
  refine gv_is hx hb hK hP hD hS 3 (k := nc) rfl (by omega) (by decide) dX3_add_29 (fun H locs hP hD hS => ?_)
  have hP : va_P D vwCl [(n0, .inr (3, [.ref n1, .ref n2, .ref n3, .int (nI nc)])), (n1, .inl (cI, 6, .inl (upd kd nc k))), (n2, .inl (cI, 6, .inl (upd of_ nc o))), (n3, .inl (cI, 6, .inl (upd td nc mo)))] H := hP
  have hD : va_D A [(n0, .inr (3, [.ref n1, .ref n2, .ref n3, .int (nI nc)])), (n1, .inl (cI, 6, .inl (upd kd nc k))), (n2, .inl (cI, 6, .inl (upd of_ nc o))), (n3, .inl (cI, 6, .inl (upd td nc mo)))] := hD
  refine lv_aload_n hx hb dX3_add_30 rfl (lv_at hl 0 rfl) ?_
  refine lv_dup hx hb dX3_add_31 rfl ?_
  refine va_get (D := D) (ci := 3) (v := .int (nI nc)) (C := RX3) (T := TX3) (N := 4) hx hb hts gv_in_X3_add_X3 hown hK hP 0 rfl rfl 3 (by decide) (hts (.fieldLink RX3 21 "Gravimere$Needles" "count" "I") (by decide +kernel)) (fun _ h9 => h9) rfl dX3_add_32 ?_
  refine lv_iconst (v := nI 1) hx hb dX3_add_35 (by decide) ?_
  refine lv_iadd hx hb dX3_add_36 ?_
  refine gv_wi (nI_add nc 1) ?_
  refine va_put (D := D) (ci := 3) (v := .int (nI (nc + 1))) (ty := .int) (C := RX3) (T := TX3) (N := 4) hx hb hts gv_in_X3_add_X3 tyX3 tyX3_ok nmX3 hown hK hP hD hS 0 rfl rfl 3 (by decide) (hts (.fieldLink RX3 21 "Gravimere$Needles" "count" "I") (by decide +kernel)) (fun _ h9 => h9) rfl (by decide +kernel) rfl rfl (Nat.le_of_ble_eq_true rfl) dX3_add_37 (fun H locs hP hD hS => ?_)
  have hP : va_P D vwCl [(n0, .inr (3, [.ref n1, .ref n2, .ref n3, .int (nI (nc + 1))])), (n1, .inl (cI, 6, .inl (upd kd nc k))), (n2, .inl (cI, 6, .inl (upd of_ nc o))), (n3, .inl (cI, 6, .inl (upd td nc mo)))] H := hP
  have hD : va_D A [(n0, .inr (3, [.ref n1, .ref n2, .ref n3, .int (nI (nc + 1))])), (n1, .inl (cI, 6, .inl (upd kd nc k))), (n2, .inl (cI, 6, .inl (upd of_ nc o))), (n3, .inl (cI, 6, .inl (upd td nc mo)))] := hD
  refine lv_aload_n hx hb dX3_add_40 rfl (lv_at hl 0 rfl) ?_
  refine va_get (D := D) (ci := 3) (v := .int (nI (nc + 1))) (C := RX3) (T := TX3) (N := 4) hx hb hts gv_in_X3_add_X3 hown hK hP 0 rfl rfl 3 (by decide) (hts (.fieldLink RX3 21 "Gravimere$Needles" "count" "I") (by decide +kernel)) (fun _ h9 => h9) rfl dX3_add_41 ?_
  refine lv_iconst (v := nI 1) hx hb dX3_add_44 (by decide) ?_
  refine lv_isub hx hb dX3_add_45 ?_
  refine gv_wi (nI_pred nc) ?_
  have hpo : (nI nc) = nI nc := by
    rfl
  have hP9 : va_P D vwCl [(n0, .inr (3, [.ref n1, .ref n2, .ref n3, .int (nI (nc + 1))])), (n1, .inl (cI, 6, .inl (upd kd nc k))), (n2, .inl (cI, 6, .inl (upd of_ nc o))), (n3, .inl (cI, 6, .inl (upd td nc mo)))] H := hP
  have hD9 : va_D A [(n0, .inr (3, [.ref n1, .ref n2, .ref n3, .int (nI (nc + 1))])), (n1, .inl (cI, 6, .inl (upd kd nc k))), (n2, .inl (cI, 6, .inl (upd of_ nc o))), (n3, .inl (cI, 6, .inl (upd td nc mo)))] := hD
  exact W.iret (v := nI nc) hx hb hr (fun t9 ht9 hW9 => ⟨⟨(nI nc), (), rfl, hpo, by rw [ht9]; exact hP9, hD9⟩, hS.F ht9⟩) hS.2.2 dX3_add_46
set_option maxHeartbeats 4000000 in
set_option maxRecDepth 100000 in
theorem ct_X3_offIn (l : Launch) (D : va_G) (cI cJ : ClassId) (sz : Nat) (n0 n1 n2 n3 : Nat) (nc : Nat) (kd of_ td : Nat → Int32) (i : Nat) (mo : Int32) (hi : i < 6) : Met l yX3_offIn wsX3_offIn ({ frames := 0, cells := 0, slots := 0, locals := 0 }) (va_Pc [.ref n0, .int (nI i), .int mo] (gv_B D cI cJ [(n0, .inr (3, [.ref n1, .ref n2, .ref n3, .int (nI nc)])), (n1, .inl (cI, 6, .inl kd)), (n2, .inl (cI, 6, .inl of_)), (n3, .inl (cI, 6, .inl td))] sz)) (vp_Sl (fun r9 : Int64 => r9 = gv_off kd of_ td mo i)) 0 0 (fun _ => False) := by
  refine Met.ofW (cc := cX3_offIn) (maxL := 3) (ret := (some .long)) (by decide) rfl ?_
  intro p e s m args below meth c s₁ B hml hv
  obtain ⟨rfl, hsz, hP, hK, hD0, hG⟩ := hv
  have hx := B.exec
  have hb := B.bytes
  have hr := B.returns
  have hts := atoms_spec (ws := wsX3_offIn) B.pre
  have hown : s.vm.findClass RX3 = some m.cls := findClass_of_methodNamed B.named
  have hlocks := B.notSynchronized
  subst hsz
  have hD := hD0
  have hP : va_P D vwCl [(n0, .inr (3, [.ref n1, .ref n2, .ref n3, .int (nI nc)])), (n1, .inl (cI, 6, .inl kd)), (n2, .inl (cI, 6, .inl of_)), (n3, .inl (cI, 6, .inl td))] s.heap := hP
  have hl := lv_entry ([.ref n0, .int (nI i), .int mo]) (n := 3) (Nat.le_of_ble_eq_true rfl)
  rw [lg_entry_eq]
  generalize (lg_sl ([.ref n0, .int (nI i), .int mo]) ++ List.replicate (3 - (lg_sl ([.ref n0, .int (nI i), .int mo])).length) Slot.unset).toArray = ls at hl ⊢
  have hl : lv_has ls 3 [(0, .ref n0), (1, .int (nI i)), (2, .int mo)] := hl
  refine lv_aload_n hx hb dX3_offIn_0 rfl (lv_at hl 0 rfl) ?_
  refine va_get (D := D) (ci := 3) (v := .ref n1) (C := RX3) (T := TX3) (N := 4) hx hb hts gv_in_X3_offIn_X3 hown hK hP 0 rfl rfl 0 (by decide) (hts (.fieldLink RX3 9 "Gravimere$Needles" "kinds" "[I") (by decide +kernel)) (fun _ h9 => h9) rfl dX3_offIn_1 ?_
  refine lv_iload_n hx hb dX3_offIn_4 rfl (lv_at hl 1 rfl) ?_
  refine gv_il hx hb hK hP 1 (k := i) rfl (by omega) (by decide) dX3_offIn_5 ?_
  refine lv_if_ne (tgt := 19) hx hb dX3_offIn_6 (by decide) (fun c_6 => ?_) (fun c_6 => ?_)
  · skip
    refine lv_aload_n hx hb dX3_offIn_19 rfl (lv_at hl 0 rfl) ?_
    refine va_get (D := D) (ci := 3) (v := .ref n2) (C := RX3) (T := TX3) (N := 4) hx hb hts gv_in_X3_offIn_X3 hown hK hP 0 rfl rfl 1 (by decide) (hts (.fieldLink RX3 15 "Gravimere$Needles" "offs" "[I") (by decide +kernel)) (fun _ h9 => h9) rfl dX3_offIn_20 ?_
    refine lv_iload_n hx hb dX3_offIn_23 rfl (lv_at hl 1 rfl) ?_
    refine gv_il hx hb hK hP 2 (k := i) rfl (by omega) (by decide) dX3_offIn_24 ?_
    refine lv_i2l (v := (of_ i).toInt64) hx hb dX3_offIn_25 rfl ?_
    refine lv_iload_n hx hb dX3_offIn_26 rfl (lv_at hl 2 rfl) ?_
    refine lv_aload_n hx hb dX3_offIn_27 rfl (lv_at hl 0 rfl) ?_
    refine va_get (D := D) (ci := 3) (v := .ref n3) (C := RX3) (T := TX3) (N := 4) hx hb hts gv_in_X3_offIn_X3 hown hK hP 0 rfl rfl 2 (by decide) (hts (.fieldLink RX3 18 "Gravimere$Needles" "tiedMonths" "[I") (by decide +kernel)) (fun _ h9 => h9) rfl dX3_offIn_28 ?_
    refine lv_iload_n hx hb dX3_offIn_31 rfl (lv_at hl 1 rfl) ?_
    refine gv_il hx hb hK hP 3 (k := i) rfl (by omega) (by decide) dX3_offIn_32 ?_
    refine lv_isub hx hb dX3_offIn_33 ?_
    refine lv_i2l (v := (mo - (td i)).toInt64) hx hb dX3_offIn_34 rfl ?_
    refine lv_lmul hx hb dX3_offIn_35 ?_
    have hpo : (((of_ i).toInt64) * ((mo - (td i)).toInt64)) = gv_off kd of_ td mo i := by
      exact (if_neg c_6).symm
    exact W.lret (v := ((of_ i).toInt64) * ((mo - (td i)).toInt64)) hx hb hr (fun t9 ht9 hW9 => ⟨(((of_ i).toInt64) * ((mo - (td i)).toInt64)), rfl, hpo, ht9⟩) t_nil dX3_offIn_36
  · skip
    refine lv_aload_n hx hb dX3_offIn_9 rfl (lv_at hl 0 rfl) ?_
    refine va_get (D := D) (ci := 3) (v := .ref n2) (C := RX3) (T := TX3) (N := 4) hx hb hts gv_in_X3_offIn_X3 hown hK hP 0 rfl rfl 1 (by decide) (hts (.fieldLink RX3 15 "Gravimere$Needles" "offs" "[I") (by decide +kernel)) (fun _ h9 => h9) rfl dX3_offIn_10 ?_
    refine lv_iload_n hx hb dX3_offIn_13 rfl (lv_at hl 1 rfl) ?_
    refine gv_il hx hb hK hP 2 (k := i) rfl (by omega) (by decide) dX3_offIn_14 ?_
    refine lv_i2l (v := (of_ i).toInt64) hx hb dX3_offIn_15 rfl ?_
    refine lv_goto (tgt := 36) hx hb dX3_offIn_16 (by decide) ?_
    have hpo : ((of_ i).toInt64) = gv_off kd of_ td mo i := by
      exact (if_pos c_6).symm
    exact W.lret (v := (of_ i).toInt64) hx hb hr (fun t9 ht9 hW9 => ⟨((of_ i).toInt64), rfl, hpo, ht9⟩) t_nil dX3_offIn_36
set_option maxHeartbeats 4000000 in
set_option maxRecDepth 100000 in
theorem ct_X0_keep (l : Launch) (D : va_G) (cI cJ : ClassId) (sz : Nat) (a0 a1 a2 ac b3 : Nat) (kp fP : Nat → Int64) (am : Nat → Nat) (mo : Nat) (hac : ac < 12) : Met l yX0_keep wsX0_keep ({ frames := 1, cells := 0, slots := 0, locals := 60 }) (va_Pc [.ref a0, .ref b3, .int (nI mo)] (gv_B D cI cJ [(a0, .inr (0, [.ref a1, .ref a2, .int (nI ac)])), (a1, .inl (cJ, 768, .inr (.inl kp))), (a2, .inl (cI, 12, .inl (fun j => nI (am j)))), (b3, .inl (cJ, 64, .inr (.inl fP)))] sz)) (va_Qi (fun (r9 : Int32) (u9 : Unit) => r9 = nI ac) (fun (u9 : Unit) t9 =>  gv_W D (va_A [(a0, .inr (0, [.ref a1, .ref a2, .int (nI ac)])), (a1, .inl (cJ, 768, .inr (.inl kp))), (a2, .inl (cI, 12, .inl (fun j => nI (am j)))), (b3, .inl (cJ, 64, .inr (.inl fP)))] sz) [(a0, .inr (0, [.ref a1, .ref a2, .int (nI (ac + 1))])), (a1, .inl (cJ, 768, .inr (.inl (va_cpy fP kp 0 (ac * 64) 64)))), (a2, .inl (cI, 12, .inl (fun j => nI (gv_un am ac mo j)))), (b3, .inl (cJ, 64, .inr (.inl fP)))] t9) (va_A [(a0, .inr (0, [.ref a1, .ref a2, .int (nI ac)])), (a1, .inl (cJ, 768, .inr (.inl kp))), (a2, .inl (cI, 12, .inl (fun j => nI (am j)))), (b3, .inl (cJ, 64, .inr (.inl fP)))] sz)) 0 0 (va_A [(a0, .inr (0, [.ref a1, .ref a2, .int (nI ac)])), (a1, .inl (cJ, 768, .inr (.inl kp))), (a2, .inl (cI, 12, .inl (fun j => nI (am j)))), (b3, .inl (cJ, 64, .inr (.inl fP)))] sz) := by
  refine Met.ofW (cc := cX0_keep) (maxL := 3) (ret := (some .int)) (by decide) rfl ?_
  intro p e s m args below meth c s₁ B hml hv
  obtain ⟨rfl, hsz, hP, hK, hD0, hG⟩ := hv
  have hx := B.exec
  have hb := B.bytes
  have hr := B.returns
  have hts := atoms_spec (ws := wsX0_keep) B.pre
  have hown : s.vm.findClass RX0 = some m.cls := findClass_of_methodNamed B.named
  have hlocks := B.notSynchronized
  subst hsz
  have hD := hD0.self (sz := s.heap.size)
  generalize hAe : va_A [(a0, .inr (0, [.ref a1, .ref a2, .int (nI ac)])), (a1, .inl (cJ, 768, .inr (.inl kp))), (a2, .inl (cI, 12, .inl (fun j => nI (am j)))), (b3, .inl (cJ, 64, .inr (.inl fP)))] s.heap.size = A at hD ⊢
  have hA : ∀ q : Nat, s.heap.size ≤ q → A q := fun q h => by rw [← hAe]; exact Or.inr h
  have hS : va_S A s.heap s.heap [] := va_S.rf
  have hP : va_P D vwCl [(a0, .inr (0, [.ref a1, .ref a2, .int (nI ac)])), (a1, .inl (cJ, 768, .inr (.inl kp))), (a2, .inl (cI, 12, .inl (fun j => nI (am j)))), (b3, .inl (cJ, 64, .inr (.inl fP)))] s.heap := hP
  have hl := lv_entry ([.ref a0, .ref b3, .int (nI mo)]) (n := 3) (Nat.le_of_ble_eq_true rfl)
  rw [lg_entry_eq]
  generalize (lg_sl ([.ref a0, .ref b3, .int (nI mo)]) ++ List.replicate (3 - (lg_sl ([.ref a0, .ref b3, .int (nI mo)])).length) Slot.unset).toArray = ls at hl ⊢
  have hl : lv_has ls 3 [(0, .ref a0), (1, .ref b3), (2, .int (nI mo))] := hl
  refine lv_aload_n hx hb dX0_keep_0 rfl (lv_at hl 1 rfl) ?_
  refine lv_iconst (v := nI 0) hx hb dX0_keep_1 (by decide) ?_
  refine lv_aload_n hx hb dX0_keep_2 rfl (lv_at hl 0 rfl) ?_
  refine va_get (D := D) (ci := 0) (v := .ref a1) (C := RX0) (T := TX0) (N := 3) hx hb hts gv_in_X0_keep_X0 hown hK hP 0 rfl rfl 0 (by decide) (hts (.fieldLink RX0 9 "Gravimere$Archive" "pulls" "[J") (by decide +kernel)) (fun _ h9 => h9) rfl dX0_keep_3 ?_
  refine lv_aload_n hx hb dX0_keep_6 rfl (lv_at hl 0 rfl) ?_
  refine va_get (D := D) (ci := 0) (v := .int (nI ac)) (C := RX0) (T := TX0) (N := 3) hx hb hts gv_in_X0_keep_X0 hown hK hP 0 rfl rfl 2 (by decide) (hts (.fieldLink RX0 19 "Gravimere$Archive" "count" "I") (by decide +kernel)) (fun _ h9 => h9) rfl dX0_keep_7 ?_
  refine lv_bipush (v := nI 64) hx hb dX0_keep_10 (by decide) ?_
  refine lv_imul hx hb dX0_keep_12 ?_
  refine gv_wi (pk_mul ac 64) ?_
  refine lv_bipush (v := nI 64) hx hb dX0_keep_13 (by decide) ?_
  refine va_copyl hx hb (hml.trans hl.1.symm) hown (hts (.methodLink RX0 23 arraycopyName) (by decide +kernel)) (hts (.native arraycopyName) (by decide +kernel)) (hts (.static arraycopyName) (by decide +kernel)) (hts (.initialized "java/lang/System") (by decide +kernel)) hK hP hD hS 3 1 1 1 rfl rfl rfl rfl rfl (nI_pos (n := 0) (by omega)) (nI_pos (n := ac * 64) (by omega)) (nI_pos (n := 64) (by omega)) (by rw [nI_clamp (n := 0) (by omega), nI_clamp (n := 64) (by omega)]; omega) (by rw [nI_clamp (n := ac * 64) (by omega), nI_clamp (n := 64) (by omega)]; omega) (fun _ _ => rfl) (Nat.le_of_ble_eq_true rfl) (Nat.le_of_ble_eq_true rfl) dX0_keep_15 (fun H locs hP hD hS => ?_)
  rw [nI_clamp (n := 0) (by omega), nI_clamp (n := ac * 64) (by omega), nI_clamp (n := 64) (by omega)] at hP hD
  have hP : va_P D vwCl [(a0, .inr (0, [.ref a1, .ref a2, .int (nI ac)])), (a1, .inl (cJ, 768, .inr (.inl (va_cpy fP kp 0 (ac * 64) 64)))), (a2, .inl (cI, 12, .inl (fun j => nI (am j)))), (b3, .inl (cJ, 64, .inr (.inl fP)))] H := hP
  have hD : va_D A [(a0, .inr (0, [.ref a1, .ref a2, .int (nI ac)])), (a1, .inl (cJ, 768, .inr (.inl (va_cpy fP kp 0 (ac * 64) 64)))), (a2, .inl (cI, 12, .inl (fun j => nI (am j)))), (b3, .inl (cJ, 64, .inr (.inl fP)))] := hD
  refine lv_aload_n hx hb dX0_keep_18 rfl (lv_at hl 0 rfl) ?_
  refine va_get (D := D) (ci := 0) (v := .ref a2) (C := RX0) (T := TX0) (N := 3) hx hb hts gv_in_X0_keep_X0 hown hK hP 0 rfl rfl 1 (by decide) (hts (.fieldLink RX0 15 "Gravimere$Archive" "months" "[I") (by decide +kernel)) (fun _ h9 => h9) rfl dX0_keep_19 ?_
  refine lv_aload_n hx hb dX0_keep_22 rfl (lv_at hl 0 rfl) ?_
  refine va_get (D := D) (ci := 0) (v := .int (nI ac)) (C := RX0) (T := TX0) (N := 3) hx hb hts gv_in_X0_keep_X0 hown hK hP 0 rfl rfl 2 (by decide) (hts (.fieldLink RX0 19 "Gravimere$Archive" "count" "I") (by decide +kernel)) (fun _ h9 => h9) rfl dX0_keep_23 ?_
  refine lv_iload_n hx hb dX0_keep_26 rfl (lv_at hl 2 rfl) ?_
  refine gv_is hx hb hK hP hD hS 2 (k := ac) rfl (by omega) (by decide) dX0_keep_27 (fun H locs hP hD hS => ?_)
  have hP : va_P D vwCl [(a0, .inr (0, [.ref a1, .ref a2, .int (nI ac)])), (a1, .inl (cJ, 768, .inr (.inl (va_cpy fP kp 0 (ac * 64) 64)))), (a2, .inl (cI, 12, .inl (upd (fun j => nI (am j)) ac (nI mo)))), (b3, .inl (cJ, 64, .inr (.inl fP)))] H := hP
  have hD : va_D A [(a0, .inr (0, [.ref a1, .ref a2, .int (nI ac)])), (a1, .inl (cJ, 768, .inr (.inl (va_cpy fP kp 0 (ac * 64) 64)))), (a2, .inl (cI, 12, .inl (upd (fun j => nI (am j)) ac (nI mo)))), (b3, .inl (cJ, 64, .inr (.inl fP)))] := hD
  have hRW : upd (fun j => nI (am j)) ac (nI mo) = fun j => nI (gv_un am ac mo j) := gv_upd_n am ac mo
  rw [hRW] at hP hD
  have hP : va_P D vwCl [(a0, .inr (0, [.ref a1, .ref a2, .int (nI ac)])), (a1, .inl (cJ, 768, .inr (.inl (va_cpy fP kp 0 (ac * 64) 64)))), (a2, .inl (cI, 12, .inl (fun j => nI (gv_un am ac mo j)))), (b3, .inl (cJ, 64, .inr (.inl fP)))] H := hP
  have hD : va_D A [(a0, .inr (0, [.ref a1, .ref a2, .int (nI ac)])), (a1, .inl (cJ, 768, .inr (.inl (va_cpy fP kp 0 (ac * 64) 64)))), (a2, .inl (cI, 12, .inl (fun j => nI (gv_un am ac mo j)))), (b3, .inl (cJ, 64, .inr (.inl fP)))] := hD
  refine lv_aload_n hx hb dX0_keep_28 rfl (lv_at hl 0 rfl) ?_
  refine lv_dup hx hb dX0_keep_29 rfl ?_
  refine va_get (D := D) (ci := 0) (v := .int (nI ac)) (C := RX0) (T := TX0) (N := 3) hx hb hts gv_in_X0_keep_X0 hown hK hP 0 rfl rfl 2 (by decide) (hts (.fieldLink RX0 19 "Gravimere$Archive" "count" "I") (by decide +kernel)) (fun _ h9 => h9) rfl dX0_keep_30 ?_
  refine lv_iconst (v := nI 1) hx hb dX0_keep_33 (by decide) ?_
  refine lv_iadd hx hb dX0_keep_34 ?_
  refine gv_wi (nI_add ac 1) ?_
  refine va_put (D := D) (ci := 0) (v := .int (nI (ac + 1))) (ty := .int) (C := RX0) (T := TX0) (N := 3) hx hb hts gv_in_X0_keep_X0 tyX0 tyX0_ok nmX0 hown hK hP hD hS 0 rfl rfl 2 (by decide) (hts (.fieldLink RX0 19 "Gravimere$Archive" "count" "I") (by decide +kernel)) (fun _ h9 => h9) rfl (by decide +kernel) rfl rfl (Nat.le_of_ble_eq_true rfl) dX0_keep_35 (fun H locs hP hD hS => ?_)
  have hP : va_P D vwCl [(a0, .inr (0, [.ref a1, .ref a2, .int (nI (ac + 1))])), (a1, .inl (cJ, 768, .inr (.inl (va_cpy fP kp 0 (ac * 64) 64)))), (a2, .inl (cI, 12, .inl (fun j => nI (gv_un am ac mo j)))), (b3, .inl (cJ, 64, .inr (.inl fP)))] H := hP
  have hD : va_D A [(a0, .inr (0, [.ref a1, .ref a2, .int (nI (ac + 1))])), (a1, .inl (cJ, 768, .inr (.inl (va_cpy fP kp 0 (ac * 64) 64)))), (a2, .inl (cI, 12, .inl (fun j => nI (gv_un am ac mo j)))), (b3, .inl (cJ, 64, .inr (.inl fP)))] := hD
  refine lv_aload_n hx hb dX0_keep_38 rfl (lv_at hl 0 rfl) ?_
  refine va_get (D := D) (ci := 0) (v := .int (nI (ac + 1))) (C := RX0) (T := TX0) (N := 3) hx hb hts gv_in_X0_keep_X0 hown hK hP 0 rfl rfl 2 (by decide) (hts (.fieldLink RX0 19 "Gravimere$Archive" "count" "I") (by decide +kernel)) (fun _ h9 => h9) rfl dX0_keep_39 ?_
  refine lv_iconst (v := nI 1) hx hb dX0_keep_42 (by decide) ?_
  refine lv_isub hx hb dX0_keep_43 ?_
  refine gv_wi (nI_pred ac) ?_
  have hpo : (nI ac) = nI ac := by
    rfl
  have hP9 : va_P D vwCl [(a0, .inr (0, [.ref a1, .ref a2, .int (nI (ac + 1))])), (a1, .inl (cJ, 768, .inr (.inl (va_cpy fP kp 0 (ac * 64) 64)))), (a2, .inl (cI, 12, .inl (fun j => nI (gv_un am ac mo j)))), (b3, .inl (cJ, 64, .inr (.inl fP)))] H := hP
  have hD9 : va_D A [(a0, .inr (0, [.ref a1, .ref a2, .int (nI (ac + 1))])), (a1, .inl (cJ, 768, .inr (.inl (va_cpy fP kp 0 (ac * 64) 64)))), (a2, .inl (cI, 12, .inl (fun j => nI (gv_un am ac mo j)))), (b3, .inl (cJ, 64, .inr (.inl fP)))] := hD
  exact W.iret (v := nI ac) hx hb hr (fun t9 ht9 hW9 => ⟨⟨(nI ac), (), rfl, hpo, by rw [ht9]; exact hP9, hD9⟩, hS.F ht9⟩) hS.2.2 dX0_keep_44
set_option maxHeartbeats 4000000 in
set_option maxRecDepth 100000 in
theorem ct_X0_trendFrom (l : Launch) (D : va_G) (cI cJ : ClassId) (sz : Nat) (a0 a1 a2 ac : Nat) (kp : Nat → Int64) (am : Nat → Nat) (er lr x y : Nat) (her : er < 12) (hlr : lr < 12) (hx8 : x < 8) (hy8 : y < 8) (hlt2 : am er < am lr) (ham : am lr ≤ 3000) : Met l yX0_trendFrom wsX0_trendFrom ({ frames := 1, cells := 0, slots := 0, locals := 25 }) (va_Pc [.ref a0, .int (nI er), .int (nI lr), .int (nI x), .int (nI y)] (gv_B D cI cJ [(a0, .inr (0, [.ref a1, .ref a2, .int (nI ac)])), (a1, .inl (cJ, 768, .inr (.inl kp))), (a2, .inl (cI, 12, .inl (fun j => nI (am j))))] sz)) (vp_Sl (fun r9 : Int64 => r9 = gv_fdiv (kp (lr * 64 + (y * 8 + x)) - kp (er * 64 + (y * 8 + x))) ((nI (am lr - am er)).toInt64))) 0 0 (fun _ => False) := by
  refine Met.ofW (cc := cX0_trendFrom) (maxL := 9) (ret := (some .long)) (by decide) rfl ?_
  intro p e s m args below meth c s₁ B hml hv
  obtain ⟨rfl, hsz, hP, hK, hD0, hG⟩ := hv
  have hx := B.exec
  have hb := B.bytes
  have hr := B.returns
  have hts := atoms_spec (ws := wsX0_trendFrom) B.pre
  have hown : s.vm.findClass RX0 = some m.cls := findClass_of_methodNamed B.named
  have hlocks := B.notSynchronized
  subst hsz
  have hD := hD0
  have hP : va_P D vwCl [(a0, .inr (0, [.ref a1, .ref a2, .int (nI ac)])), (a1, .inl (cJ, 768, .inr (.inl kp))), (a2, .inl (cI, 12, .inl (fun j => nI (am j))))] s.heap := hP
  have hl := lv_entry ([.ref a0, .int (nI er), .int (nI lr), .int (nI x), .int (nI y)]) (n := 9) (Nat.le_of_ble_eq_true rfl)
  rw [lg_entry_eq]
  generalize (lg_sl ([.ref a0, .int (nI er), .int (nI lr), .int (nI x), .int (nI y)]) ++ List.replicate (9 - (lg_sl ([.ref a0, .int (nI er), .int (nI lr), .int (nI x), .int (nI y)])).length) Slot.unset).toArray = ls at hl ⊢
  have hl : lv_has ls 9 [(0, .ref a0), (1, .int (nI er)), (2, .int (nI lr)), (3, .int (nI x)), (4, .int (nI y))] := hl
  refine lv_aload_n hx hb dX0_trendFrom_0 rfl (lv_at hl 0 rfl) ?_
  refine va_get (D := D) (ci := 0) (v := .ref a2) (C := RX0) (T := TX0) (N := 3) hx hb hts gv_in_X0_trendFrom_X0 hown hK hP 0 rfl rfl 1 (by decide) (hts (.fieldLink RX0 15 "Gravimere$Archive" "months" "[I") (by decide +kernel)) (fun _ h9 => h9) rfl dX0_trendFrom_1 ?_
  refine lv_iload_n hx hb dX0_trendFrom_4 rfl (lv_at hl 2 rfl) ?_
  refine gv_il hx hb hK hP 2 (k := lr) rfl (by omega) (by decide) dX0_trendFrom_5 ?_
  refine gv_wi (rfl) ?_
  refine lv_aload_n hx hb dX0_trendFrom_6 rfl (lv_at hl 0 rfl) ?_
  refine va_get (D := D) (ci := 0) (v := .ref a2) (C := RX0) (T := TX0) (N := 3) hx hb hts gv_in_X0_trendFrom_X0 hown hK hP 0 rfl rfl 1 (by decide) (hts (.fieldLink RX0 15 "Gravimere$Archive" "months" "[I") (by decide +kernel)) (fun _ h9 => h9) rfl dX0_trendFrom_7 ?_
  refine lv_iload_n hx hb dX0_trendFrom_10 rfl (lv_at hl 1 rfl) ?_
  refine gv_il hx hb hK hP 2 (k := er) rfl (by omega) (by decide) dX0_trendFrom_11 ?_
  refine gv_wi (rfl) ?_
  refine lv_isub hx hb dX0_trendFrom_12 ?_
  refine gv_wi (pk_sub (by omega)) ?_
  refine lv_istore (lv' := [(5, .int (nI (am lr - am er))), (0, .ref a0), (1, .int (nI er)), (2, .int (nI lr)), (3, .int (nI x)), (4, .int (nI y))]) hx hb dX0_trendFrom_13 hl (by decide) rfl (fun ls hl => ?_)
  refine lv_iload_n hx hb dX0_trendFrom_15 rfl (lv_at hl 4 rfl) ?_
  refine lv_iload hx hb dX0_trendFrom_16 (lv_at hl 5 rfl) ?_
  refine gv_pi (va_runSN (As := [.int (nI x), .int (nI y)]) (rest := []) ⟨hx, hb, hml, hown, hts⟩ (ct_X5_cellNumber l x y) ⟨va_cnB 2 hts gX0_trendFrom_X5_cellNumber_n29 rfl rfl rfl (gv_nm_X0_29 hG) (hts (.initialized RX5) (by decide +kernel)) (by decide +kernel) ⟨Nat.le_of_ble_eq_true rfl, Nat.le_of_ble_eq_true rfl⟩, (hts (.static yX5_cellNumber) (by decide +kernel)), trivial⟩ gv_p0 rfl rfl hl.1 rfl (lv_room (Nat.le_of_ble_eq_true rfl)) dX0_trendFrom_18 ⟨Nat.le_of_ble_eq_true rfl, Nat.le_of_ble_eq_true rfl⟩) (fun r hr_ => ?_)
  subst hr_
  refine lv_istore (lv' := [(6, .int (nI (y * 8 + x))), (5, .int (nI (am lr - am er))), (0, .ref a0), (1, .int (nI er)), (2, .int (nI lr)), (3, .int (nI x)), (4, .int (nI y))]) hx hb dX0_trendFrom_21 hl (by decide) rfl (fun ls hl => ?_)
  refine lv_aload_n hx hb dX0_trendFrom_23 rfl (lv_at hl 2 rfl) ?_
  refine va_get (D := D) (ci := 0) (v := .ref a1) (C := RX0) (T := TX0) (N := 3) hx hb hts gv_in_X0_trendFrom_X0 hown hK hP 0 rfl rfl 0 (by decide) (hts (.fieldLink RX0 9 "Gravimere$Archive" "pulls" "[J") (by decide +kernel)) (fun _ h9 => h9) rfl dX0_trendFrom_24 ?_
  refine lv_iload_n hx hb dX0_trendFrom_27 rfl (lv_at hl 4 rfl) ?_
  refine lv_bipush (v := nI 64) hx hb dX0_trendFrom_28 (by decide) ?_
  refine lv_imul hx hb dX0_trendFrom_30 ?_
  refine gv_wi (pk_mul lr 64) ?_
  refine lv_iload hx hb dX0_trendFrom_31 (lv_at hl 0 rfl) ?_
  refine lv_iadd hx hb dX0_trendFrom_33 ?_
  refine gv_wi (nI_add (lr * 64) (y * 8 + x)) ?_
  refine gv_ll hx hb hK hP 1 (k := lr * 64 + (y * 8 + x)) rfl (by omega) (by decide) dX0_trendFrom_34 ?_
  refine lv_aload_n hx hb dX0_trendFrom_35 rfl (lv_at hl 2 rfl) ?_
  refine va_get (D := D) (ci := 0) (v := .ref a1) (C := RX0) (T := TX0) (N := 3) hx hb hts gv_in_X0_trendFrom_X0 hown hK hP 0 rfl rfl 0 (by decide) (hts (.fieldLink RX0 9 "Gravimere$Archive" "pulls" "[J") (by decide +kernel)) (fun _ h9 => h9) rfl dX0_trendFrom_36 ?_
  refine lv_iload_n hx hb dX0_trendFrom_39 rfl (lv_at hl 3 rfl) ?_
  refine lv_bipush (v := nI 64) hx hb dX0_trendFrom_40 (by decide) ?_
  refine lv_imul hx hb dX0_trendFrom_42 ?_
  refine gv_wi (pk_mul er 64) ?_
  refine lv_iload hx hb dX0_trendFrom_43 (lv_at hl 0 rfl) ?_
  refine lv_iadd hx hb dX0_trendFrom_45 ?_
  refine gv_wi (nI_add (er * 64) (y * 8 + x)) ?_
  refine gv_ll hx hb hK hP 1 (k := er * 64 + (y * 8 + x)) rfl (by omega) (by decide) dX0_trendFrom_46 ?_
  refine lv_lsub hx hb dX0_trendFrom_47 ?_
  refine lv_lstore (lv' := [(7, .long ((kp (lr * 64 + (y * 8 + x))) - (kp (er * 64 + (y * 8 + x))))), (6, .int (nI (y * 8 + x))), (5, .int (nI (am lr - am er))), (0, .ref a0), (1, .int (nI er)), (2, .int (nI lr)), (3, .int (nI x)), (4, .int (nI y))]) hx hb dX0_trendFrom_48 hl (by decide) rfl (fun ls hl => ?_)
  refine lv_iload hx hb dX0_trendFrom_50 (lv_at hl 2 rfl) ?_
  refine lv_iconst (v := nI 1) hx hb dX0_trendFrom_52 (by decide) ?_
  refine lv_icmp_ge (tgt := 60) hx hb dX0_trendFrom_53 (by decide) (fun c_53 => ?_) (fun c_53 => ?_)
  · skip
    have c_53 := (nI_leI (a := 1) (b := am lr - am er) (by omega) (by omega)).mp c_53
    refine lv_lload hx hb dX0_trendFrom_60 (lv_at hl 0 rfl) ?_
    refine lv_iload hx hb dX0_trendFrom_62 (lv_at hl 2 rfl) ?_
    refine lv_i2l (v := (nI (am lr - am er)).toInt64) hx hb dX0_trendFrom_64 rfl ?_
    refine gv_pl (va_runS (As := [.long ((kp (lr * 64 + (y * 8 + x))) - (kp (er * 64 + (y * 8 + x)))), .long ((nI (am lr - am er)).toInt64)]) (rest := []) ⟨hx, hb, hml, hown, hts⟩ (ct_J9_floorDiv_f86c9 l (kp (lr * 64 + (y * 8 + x)) - kp (er * 64 + (y * 8 + x))) ((nI (am lr - am er)).toInt64) (gv_i2lne (by omega) (by omega))) (va_cwS 2 hts gX0_trendFrom_J9_floorDiv_f86c9 rfl rfl rfl (by decide +kernel) ⟨Nat.le_of_ble_eq_true rfl, Nat.le_of_ble_eq_true rfl⟩) gv_p0 rfl rfl hl.1 rfl (lv_room (Nat.le_of_ble_eq_true rfl)) dX0_trendFrom_65 ⟨Nat.le_of_ble_eq_true rfl, Nat.le_of_ble_eq_true rfl⟩) (fun rr hrr => ?_)
    have hpo : rr = gv_fdiv (kp (lr * 64 + (y * 8 + x)) - kp (er * 64 + (y * 8 + x))) ((nI (am lr - am er)).toInt64) := by
      exact hrr
    exact W.lret (v := rr) hx hb hr (fun t9 ht9 hW9 => ⟨rr, rfl, hpo, ht9⟩) t_nil dX0_trendFrom_68
  · skip
    have c_53 := (not_congr (nI_leI (a := 1) (b := am lr - am er) (by omega) (by omega))).mp c_53
    exfalso; omega
end
section
theorem gv_in_X4_addBenchmark_X4 : ∀ w ∈ wsX40, w ∈ wsX4_addBenchmark := by decide +kernel
theorem gv_in_X4_addLine_X4 : ∀ w ∈ wsX40, w ∈ wsX4_addLine := by decide +kernel
theorem gv_in_X4_doubtBeyond_X4 : ∀ w ∈ wsX40, w ∈ wsX4_doubtBeyond := by decide +kernel
theorem gv_in_X4_surestLine_X4 : ∀ w ∈ wsX40, w ∈ wsX4_surestLine := by decide +kernel
theorem gv_in_X4_goAlong_X4 : ∀ w ∈ wsX40, w ∈ wsX4_goAlong := by decide +kernel
set_option maxHeartbeats 4000000 in
set_option maxRecDepth 100000 in
theorem ct_X4_addBenchmark (l : Launch) (D : va_G) (cI cJ : ClassId) (sz : Nat) (s0 s1 s2 s3 s4 s5 s6 s7 bn ln : Nat)  : Met l yX4_addBenchmark wsX4_addBenchmark ({ frames := 0, cells := 0, slots := 0, locals := 0 }) (va_Pc [.ref s0] (gv_B D cI cJ [(s0, .inr (4, [.ref s1, .ref s2, .ref s3, .ref s4, .ref s5, .ref s6, .ref s7, .int (nI bn), .int (nI ln)]))] sz)) (va_Qi (fun (r9 : Int32) (u9 : Unit) => r9 = nI bn) (fun (u9 : Unit) t9 =>  gv_W D (va_A [(s0, .inr (4, [.ref s1, .ref s2, .ref s3, .ref s4, .ref s5, .ref s6, .ref s7, .int (nI bn), .int (nI ln)]))] sz) [(s0, .inr (4, [.ref s1, .ref s2, .ref s3, .ref s4, .ref s5, .ref s6, .ref s7, .int (nI (bn + 1)), .int (nI ln)]))] t9) (va_A [(s0, .inr (4, [.ref s1, .ref s2, .ref s3, .ref s4, .ref s5, .ref s6, .ref s7, .int (nI bn), .int (nI ln)]))] sz)) 0 0 (va_A [(s0, .inr (4, [.ref s1, .ref s2, .ref s3, .ref s4, .ref s5, .ref s6, .ref s7, .int (nI bn), .int (nI ln)]))] sz) := by
  refine Met.ofW (cc := cX4_addBenchmark) (maxL := 1) (ret := (some .int)) (by decide) rfl ?_
  intro p e s m args below meth c s₁ B hml hv
  obtain ⟨rfl, hsz, hP, hK, hD0, hG⟩ := hv
  have hx := B.exec
  have hb := B.bytes
  have hr := B.returns
  have hts := atoms_spec (ws := wsX4_addBenchmark) B.pre
  have hown : s.vm.findClass RX4 = some m.cls := findClass_of_methodNamed B.named
  have hlocks := B.notSynchronized
  subst hsz
  have hD := hD0.self (sz := s.heap.size)
  generalize hAe : va_A [(s0, .inr (4, [.ref s1, .ref s2, .ref s3, .ref s4, .ref s5, .ref s6, .ref s7, .int (nI bn), .int (nI ln)]))] s.heap.size = A at hD ⊢
  have hA : ∀ q : Nat, s.heap.size ≤ q → A q := fun q h => by rw [← hAe]; exact Or.inr h
  have hS : va_S A s.heap s.heap [] := va_S.rf
  have hP : va_P D vwCl [(s0, .inr (4, [.ref s1, .ref s2, .ref s3, .ref s4, .ref s5, .ref s6, .ref s7, .int (nI bn), .int (nI ln)]))] s.heap := hP
  have hl := lv_entry ([.ref s0]) (n := 1) (Nat.le_of_ble_eq_true rfl)
  rw [lg_entry_eq]
  generalize (lg_sl ([.ref s0]) ++ List.replicate (1 - (lg_sl ([.ref s0])).length) Slot.unset).toArray = ls at hl ⊢
  have hl : lv_has ls 1 [(0, .ref s0)] := hl
  refine lv_aload_n hx hb dX4_addBenchmark_0 rfl (lv_at hl 0 rfl) ?_
  refine lv_dup hx hb dX4_addBenchmark_1 rfl ?_
  refine va_get (D := D) (ci := 4) (v := .int (nI bn)) (C := RX4) (T := TX4) (N := 9) hx hb hts gv_in_X4_addBenchmark_X4 hown hK hP 0 rfl rfl 7 (by decide) (hts (.fieldLink RX4 33 "Gravimere$Survey" "benchmarks" "I") (by decide +kernel)) (fun _ h9 => h9) rfl dX4_addBenchmark_2 ?_
  refine lv_iconst (v := nI 1) hx hb dX4_addBenchmark_5 (by decide) ?_
  refine lv_iadd hx hb dX4_addBenchmark_6 ?_
  refine gv_wi (nI_add bn 1) ?_
  refine va_put (D := D) (ci := 4) (v := .int (nI (bn + 1))) (ty := .int) (C := RX4) (T := TX4) (N := 9) hx hb hts gv_in_X4_addBenchmark_X4 tyX4 tyX4_ok nmX4 hown hK hP hD hS 0 rfl rfl 7 (by decide) (hts (.fieldLink RX4 33 "Gravimere$Survey" "benchmarks" "I") (by decide +kernel)) (fun _ h9 => h9) rfl (by decide +kernel) rfl rfl (Nat.le_of_ble_eq_true rfl) dX4_addBenchmark_7 (fun H locs hP hD hS => ?_)
  have hP : va_P D vwCl [(s0, .inr (4, [.ref s1, .ref s2, .ref s3, .ref s4, .ref s5, .ref s6, .ref s7, .int (nI (bn + 1)), .int (nI ln)]))] H := hP
  have hD : va_D A [(s0, .inr (4, [.ref s1, .ref s2, .ref s3, .ref s4, .ref s5, .ref s6, .ref s7, .int (nI (bn + 1)), .int (nI ln)]))] := hD
  refine lv_aload_n hx hb dX4_addBenchmark_10 rfl (lv_at hl 0 rfl) ?_
  refine va_get (D := D) (ci := 4) (v := .int (nI (bn + 1))) (C := RX4) (T := TX4) (N := 9) hx hb hts gv_in_X4_addBenchmark_X4 hown hK hP 0 rfl rfl 7 (by decide) (hts (.fieldLink RX4 33 "Gravimere$Survey" "benchmarks" "I") (by decide +kernel)) (fun _ h9 => h9) rfl dX4_addBenchmark_11 ?_
  refine lv_iconst (v := nI 1) hx hb dX4_addBenchmark_14 (by decide) ?_
  refine lv_isub hx hb dX4_addBenchmark_15 ?_
  refine gv_wi (nI_pred bn) ?_
  have hpo : (nI bn) = nI bn := by
    rfl
  have hP9 : va_P D vwCl [(s0, .inr (4, [.ref s1, .ref s2, .ref s3, .ref s4, .ref s5, .ref s6, .ref s7, .int (nI (bn + 1)), .int (nI ln)]))] H := hP
  have hD9 : va_D A [(s0, .inr (4, [.ref s1, .ref s2, .ref s3, .ref s4, .ref s5, .ref s6, .ref s7, .int (nI (bn + 1)), .int (nI ln)]))] := hD
  exact W.iret (v := nI bn) hx hb hr (fun t9 ht9 hW9 => ⟨⟨(nI bn), (), rfl, hpo, by rw [ht9]; exact hP9, hD9⟩, hS.F ht9⟩) hS.2.2 dX4_addBenchmark_16
set_option maxHeartbeats 4000000 in
set_option maxRecDepth 100000 in
theorem ct_X4_addLine (l : Launch) (D : va_G) (cI cJ : ClassId) (sz : Nat) (s0 s1 s2 s3 s4 s5 s6 s7 bn ln : Nat) (sa sb su : Nat → Nat) (sr : Nat → Int32) (f t u : Nat) (h : Int32) (hln : ln < 24) : Met l yX4_addLine wsX4_addLine ({ frames := 0, cells := 0, slots := 0, locals := 0 }) (va_Pc [.ref s0, .int (nI f), .int (nI t), .int h, .int (nI u)] (gv_B D cI cJ [(s0, .inr (4, [.ref s1, .ref s2, .ref s3, .ref s4, .ref s5, .ref s6, .ref s7, .int (nI bn), .int (nI ln)])), (s1, .inl (cI, 24, .inl (fun j => nI (sa j)))), (s2, .inl (cI, 24, .inl (fun j => nI (sb j)))), (s3, .inl (cI, 24, .inl sr)), (s4, .inl (cI, 24, .inl (fun j => nI (su j))))] sz)) (va_Qi (fun (r9 : Int32) (u9 : Unit) => r9 = nI ln) (fun (u9 : Unit) t9 =>  gv_W D (va_A [(s0, .inr (4, [.ref s1, .ref s2, .ref s3, .ref s4, .ref s5, .ref s6, .ref s7, .int (nI bn), .int (nI ln)])), (s1, .inl (cI, 24, .inl (fun j => nI (sa j)))), (s2, .inl (cI, 24, .inl (fun j => nI (sb j)))), (s3, .inl (cI, 24, .inl sr)), (s4, .inl (cI, 24, .inl (fun j => nI (su j))))] sz) [(s0, .inr (4, [.ref s1, .ref s2, .ref s3, .ref s4, .ref s5, .ref s6, .ref s7, .int (nI bn), .int (nI (ln + 1))])), (s1, .inl (cI, 24, .inl (fun j => nI (gv_un sa ln f j)))), (s2, .inl (cI, 24, .inl (fun j => nI (gv_un sb ln t j)))), (s3, .inl (cI, 24, .inl (upd sr ln h))), (s4, .inl (cI, 24, .inl (fun j => nI (gv_un su ln u j))))] t9) (va_A [(s0, .inr (4, [.ref s1, .ref s2, .ref s3, .ref s4, .ref s5, .ref s6, .ref s7, .int (nI bn), .int (nI ln)])), (s1, .inl (cI, 24, .inl (fun j => nI (sa j)))), (s2, .inl (cI, 24, .inl (fun j => nI (sb j)))), (s3, .inl (cI, 24, .inl sr)), (s4, .inl (cI, 24, .inl (fun j => nI (su j))))] sz)) 0 0 (va_A [(s0, .inr (4, [.ref s1, .ref s2, .ref s3, .ref s4, .ref s5, .ref s6, .ref s7, .int (nI bn), .int (nI ln)])), (s1, .inl (cI, 24, .inl (fun j => nI (sa j)))), (s2, .inl (cI, 24, .inl (fun j => nI (sb j)))), (s3, .inl (cI, 24, .inl sr)), (s4, .inl (cI, 24, .inl (fun j => nI (su j))))] sz) := by
  refine Met.ofW (cc := cX4_addLine) (maxL := 5) (ret := (some .int)) (by decide) rfl ?_
  intro p e s m args below meth c s₁ B hml hv
  obtain ⟨rfl, hsz, hP, hK, hD0, hG⟩ := hv
  have hx := B.exec
  have hb := B.bytes
  have hr := B.returns
  have hts := atoms_spec (ws := wsX4_addLine) B.pre
  have hown : s.vm.findClass RX4 = some m.cls := findClass_of_methodNamed B.named
  have hlocks := B.notSynchronized
  subst hsz
  have hD := hD0.self (sz := s.heap.size)
  generalize hAe : va_A [(s0, .inr (4, [.ref s1, .ref s2, .ref s3, .ref s4, .ref s5, .ref s6, .ref s7, .int (nI bn), .int (nI ln)])), (s1, .inl (cI, 24, .inl (fun j => nI (sa j)))), (s2, .inl (cI, 24, .inl (fun j => nI (sb j)))), (s3, .inl (cI, 24, .inl sr)), (s4, .inl (cI, 24, .inl (fun j => nI (su j))))] s.heap.size = A at hD ⊢
  have hA : ∀ q : Nat, s.heap.size ≤ q → A q := fun q h => by rw [← hAe]; exact Or.inr h
  have hS : va_S A s.heap s.heap [] := va_S.rf
  have hP : va_P D vwCl [(s0, .inr (4, [.ref s1, .ref s2, .ref s3, .ref s4, .ref s5, .ref s6, .ref s7, .int (nI bn), .int (nI ln)])), (s1, .inl (cI, 24, .inl (fun j => nI (sa j)))), (s2, .inl (cI, 24, .inl (fun j => nI (sb j)))), (s3, .inl (cI, 24, .inl sr)), (s4, .inl (cI, 24, .inl (fun j => nI (su j))))] s.heap := hP
  have hl := lv_entry ([.ref s0, .int (nI f), .int (nI t), .int h, .int (nI u)]) (n := 5) (Nat.le_of_ble_eq_true rfl)
  rw [lg_entry_eq]
  generalize (lg_sl ([.ref s0, .int (nI f), .int (nI t), .int h, .int (nI u)]) ++ List.replicate (5 - (lg_sl ([.ref s0, .int (nI f), .int (nI t), .int h, .int (nI u)])).length) Slot.unset).toArray = ls at hl ⊢
  have hl : lv_has ls 5 [(0, .ref s0), (1, .int (nI f)), (2, .int (nI t)), (3, .int h), (4, .int (nI u))] := hl
  refine lv_aload_n hx hb dX4_addLine_0 rfl (lv_at hl 0 rfl) ?_
  refine va_get (D := D) (ci := 4) (v := .ref s1) (C := RX4) (T := TX4) (N := 9) hx hb hts gv_in_X4_addLine_X4 hown hK hP 0 rfl rfl 0 (by decide) (hts (.fieldLink RX4 9 "Gravimere$Survey" "starts" "[I") (by decide +kernel)) (fun _ h9 => h9) rfl dX4_addLine_1 ?_
  refine lv_aload_n hx hb dX4_addLine_4 rfl (lv_at hl 0 rfl) ?_
  refine va_get (D := D) (ci := 4) (v := .int (nI ln)) (C := RX4) (T := TX4) (N := 9) hx hb hts gv_in_X4_addLine_X4 hown hK hP 0 rfl rfl 8 (by decide) (hts (.fieldLink RX4 37 "Gravimere$Survey" "lines" "I") (by decide +kernel)) (fun _ h9 => h9) rfl dX4_addLine_5 ?_
  refine lv_iload_n hx hb dX4_addLine_8 rfl (lv_at hl 1 rfl) ?_
  refine gv_is hx hb hK hP hD hS 1 (k := ln) rfl (by omega) (by decide) dX4_addLine_9 (fun H locs hP hD hS => ?_)
  have hP : va_P D vwCl [(s0, .inr (4, [.ref s1, .ref s2, .ref s3, .ref s4, .ref s5, .ref s6, .ref s7, .int (nI bn), .int (nI ln)])), (s1, .inl (cI, 24, .inl (upd (fun j => nI (sa j)) ln (nI f)))), (s2, .inl (cI, 24, .inl (fun j => nI (sb j)))), (s3, .inl (cI, 24, .inl sr)), (s4, .inl (cI, 24, .inl (fun j => nI (su j))))] H := hP
  have hD : va_D A [(s0, .inr (4, [.ref s1, .ref s2, .ref s3, .ref s4, .ref s5, .ref s6, .ref s7, .int (nI bn), .int (nI ln)])), (s1, .inl (cI, 24, .inl (upd (fun j => nI (sa j)) ln (nI f)))), (s2, .inl (cI, 24, .inl (fun j => nI (sb j)))), (s3, .inl (cI, 24, .inl sr)), (s4, .inl (cI, 24, .inl (fun j => nI (su j))))] := hD
  have hRW : upd (fun j => nI (sa j)) ln (nI f) = fun j => nI (gv_un sa ln f j) := gv_upd_n sa ln f
  rw [hRW] at hP hD
  have hP : va_P D vwCl [(s0, .inr (4, [.ref s1, .ref s2, .ref s3, .ref s4, .ref s5, .ref s6, .ref s7, .int (nI bn), .int (nI ln)])), (s1, .inl (cI, 24, .inl (fun j => nI (gv_un sa ln f j)))), (s2, .inl (cI, 24, .inl (fun j => nI (sb j)))), (s3, .inl (cI, 24, .inl sr)), (s4, .inl (cI, 24, .inl (fun j => nI (su j))))] H := hP
  have hD : va_D A [(s0, .inr (4, [.ref s1, .ref s2, .ref s3, .ref s4, .ref s5, .ref s6, .ref s7, .int (nI bn), .int (nI ln)])), (s1, .inl (cI, 24, .inl (fun j => nI (gv_un sa ln f j)))), (s2, .inl (cI, 24, .inl (fun j => nI (sb j)))), (s3, .inl (cI, 24, .inl sr)), (s4, .inl (cI, 24, .inl (fun j => nI (su j))))] := hD
  refine lv_aload_n hx hb dX4_addLine_10 rfl (lv_at hl 0 rfl) ?_
  refine va_get (D := D) (ci := 4) (v := .ref s2) (C := RX4) (T := TX4) (N := 9) hx hb hts gv_in_X4_addLine_X4 hown hK hP 0 rfl rfl 1 (by decide) (hts (.fieldLink RX4 15 "Gravimere$Survey" "ends" "[I") (by decide +kernel)) (fun _ h9 => h9) rfl dX4_addLine_11 ?_
  refine lv_aload_n hx hb dX4_addLine_14 rfl (lv_at hl 0 rfl) ?_
  refine va_get (D := D) (ci := 4) (v := .int (nI ln)) (C := RX4) (T := TX4) (N := 9) hx hb hts gv_in_X4_addLine_X4 hown hK hP 0 rfl rfl 8 (by decide) (hts (.fieldLink RX4 37 "Gravimere$Survey" "lines" "I") (by decide +kernel)) (fun _ h9 => h9) rfl dX4_addLine_15 ?_
  refine lv_iload_n hx hb dX4_addLine_18 rfl (lv_at hl 2 rfl) ?_
  refine gv_is hx hb hK hP hD hS 2 (k := ln) rfl (by omega) (by decide) dX4_addLine_19 (fun H locs hP hD hS => ?_)
  have hP : va_P D vwCl [(s0, .inr (4, [.ref s1, .ref s2, .ref s3, .ref s4, .ref s5, .ref s6, .ref s7, .int (nI bn), .int (nI ln)])), (s1, .inl (cI, 24, .inl (fun j => nI (gv_un sa ln f j)))), (s2, .inl (cI, 24, .inl (upd (fun j => nI (sb j)) ln (nI t)))), (s3, .inl (cI, 24, .inl sr)), (s4, .inl (cI, 24, .inl (fun j => nI (su j))))] H := hP
  have hD : va_D A [(s0, .inr (4, [.ref s1, .ref s2, .ref s3, .ref s4, .ref s5, .ref s6, .ref s7, .int (nI bn), .int (nI ln)])), (s1, .inl (cI, 24, .inl (fun j => nI (gv_un sa ln f j)))), (s2, .inl (cI, 24, .inl (upd (fun j => nI (sb j)) ln (nI t)))), (s3, .inl (cI, 24, .inl sr)), (s4, .inl (cI, 24, .inl (fun j => nI (su j))))] := hD
  have hRW : upd (fun j => nI (sb j)) ln (nI t) = fun j => nI (gv_un sb ln t j) := gv_upd_n sb ln t
  rw [hRW] at hP hD
  have hP : va_P D vwCl [(s0, .inr (4, [.ref s1, .ref s2, .ref s3, .ref s4, .ref s5, .ref s6, .ref s7, .int (nI bn), .int (nI ln)])), (s1, .inl (cI, 24, .inl (fun j => nI (gv_un sa ln f j)))), (s2, .inl (cI, 24, .inl (fun j => nI (gv_un sb ln t j)))), (s3, .inl (cI, 24, .inl sr)), (s4, .inl (cI, 24, .inl (fun j => nI (su j))))] H := hP
  have hD : va_D A [(s0, .inr (4, [.ref s1, .ref s2, .ref s3, .ref s4, .ref s5, .ref s6, .ref s7, .int (nI bn), .int (nI ln)])), (s1, .inl (cI, 24, .inl (fun j => nI (gv_un sa ln f j)))), (s2, .inl (cI, 24, .inl (fun j => nI (gv_un sb ln t j)))), (s3, .inl (cI, 24, .inl sr)), (s4, .inl (cI, 24, .inl (fun j => nI (su j))))] := hD
  refine lv_aload_n hx hb dX4_addLine_20 rfl (lv_at hl 0 rfl) ?_
  refine va_get (D := D) (ci := 4) (v := .ref s3) (C := RX4) (T := TX4) (N := 9) hx hb hts gv_in_X4_addLine_X4 hown hK hP 0 rfl rfl 2 (by decide) (hts (.fieldLink RX4 18 "Gravimere$Survey" "rises" "[I") (by decide +kernel)) (fun _ h9 => h9) rfl dX4_addLine_21 ?_
  refine lv_aload_n hx hb dX4_addLine_24 rfl (lv_at hl 0 rfl) ?_
  refine va_get (D := D) (ci := 4) (v := .int (nI ln)) (C := RX4) (T := TX4) (N := 9) hx hb hts gv_in_X4_addLine_X4 hown hK hP 0 rfl rfl 8 (by decide) (hts (.fieldLink RX4 37 "Gravimere$Survey" "lines" "I") (by decide +kernel)) (fun _ h9 => h9) rfl dX4_addLine_25 ?_
  refine lv_iload_n hx hb dX4_addLine_28 rfl (lv_at hl 3 rfl) ?_
  refine gv_is hx hb hK hP hD hS 3 (k := ln) rfl (by omega) (by decide) dX4_addLine_29 (fun H locs hP hD hS => ?_)
  have hP : va_P D vwCl [(s0, .inr (4, [.ref s1, .ref s2, .ref s3, .ref s4, .ref s5, .ref s6, .ref s7, .int (nI bn), .int (nI ln)])), (s1, .inl (cI, 24, .inl (fun j => nI (gv_un sa ln f j)))), (s2, .inl (cI, 24, .inl (fun j => nI (gv_un sb ln t j)))), (s3, .inl (cI, 24, .inl (upd sr ln h))), (s4, .inl (cI, 24, .inl (fun j => nI (su j))))] H := hP
  have hD : va_D A [(s0, .inr (4, [.ref s1, .ref s2, .ref s3, .ref s4, .ref s5, .ref s6, .ref s7, .int (nI bn), .int (nI ln)])), (s1, .inl (cI, 24, .inl (fun j => nI (gv_un sa ln f j)))), (s2, .inl (cI, 24, .inl (fun j => nI (gv_un sb ln t j)))), (s3, .inl (cI, 24, .inl (upd sr ln h))), (s4, .inl (cI, 24, .inl (fun j => nI (su j))))] := hD
  refine lv_aload_n hx hb dX4_addLine_30 rfl (lv_at hl 0 rfl) ?_
  refine va_get (D := D) (ci := 4) (v := .ref s4) (C := RX4) (T := TX4) (N := 9) hx hb hts gv_in_X4_addLine_X4 hown hK hP 0 rfl rfl 3 (by decide) (hts (.fieldLink RX4 21 "Gravimere$Survey" "lineDoubts" "[I") (by decide +kernel)) (fun _ h9 => h9) rfl dX4_addLine_31 ?_
  refine lv_aload_n hx hb dX4_addLine_34 rfl (lv_at hl 0 rfl) ?_
  refine va_get (D := D) (ci := 4) (v := .int (nI ln)) (C := RX4) (T := TX4) (N := 9) hx hb hts gv_in_X4_addLine_X4 hown hK hP 0 rfl rfl 8 (by decide) (hts (.fieldLink RX4 37 "Gravimere$Survey" "lines" "I") (by decide +kernel)) (fun _ h9 => h9) rfl dX4_addLine_35 ?_
  refine lv_iload hx hb dX4_addLine_38 (lv_at hl 4 rfl) ?_
  refine gv_is hx hb hK hP hD hS 4 (k := ln) rfl (by omega) (by decide) dX4_addLine_40 (fun H locs hP hD hS => ?_)
  have hP : va_P D vwCl [(s0, .inr (4, [.ref s1, .ref s2, .ref s3, .ref s4, .ref s5, .ref s6, .ref s7, .int (nI bn), .int (nI ln)])), (s1, .inl (cI, 24, .inl (fun j => nI (gv_un sa ln f j)))), (s2, .inl (cI, 24, .inl (fun j => nI (gv_un sb ln t j)))), (s3, .inl (cI, 24, .inl (upd sr ln h))), (s4, .inl (cI, 24, .inl (upd (fun j => nI (su j)) ln (nI u))))] H := hP
  have hD : va_D A [(s0, .inr (4, [.ref s1, .ref s2, .ref s3, .ref s4, .ref s5, .ref s6, .ref s7, .int (nI bn), .int (nI ln)])), (s1, .inl (cI, 24, .inl (fun j => nI (gv_un sa ln f j)))), (s2, .inl (cI, 24, .inl (fun j => nI (gv_un sb ln t j)))), (s3, .inl (cI, 24, .inl (upd sr ln h))), (s4, .inl (cI, 24, .inl (upd (fun j => nI (su j)) ln (nI u))))] := hD
  have hRW : upd (fun j => nI (su j)) ln (nI u) = fun j => nI (gv_un su ln u j) := gv_upd_n su ln u
  rw [hRW] at hP hD
  have hP : va_P D vwCl [(s0, .inr (4, [.ref s1, .ref s2, .ref s3, .ref s4, .ref s5, .ref s6, .ref s7, .int (nI bn), .int (nI ln)])), (s1, .inl (cI, 24, .inl (fun j => nI (gv_un sa ln f j)))), (s2, .inl (cI, 24, .inl (fun j => nI (gv_un sb ln t j)))), (s3, .inl (cI, 24, .inl (upd sr ln h))), (s4, .inl (cI, 24, .inl (fun j => nI (gv_un su ln u j))))] H := hP
  have hD : va_D A [(s0, .inr (4, [.ref s1, .ref s2, .ref s3, .ref s4, .ref s5, .ref s6, .ref s7, .int (nI bn), .int (nI ln)])), (s1, .inl (cI, 24, .inl (fun j => nI (gv_un sa ln f j)))), (s2, .inl (cI, 24, .inl (fun j => nI (gv_un sb ln t j)))), (s3, .inl (cI, 24, .inl (upd sr ln h))), (s4, .inl (cI, 24, .inl (fun j => nI (gv_un su ln u j))))] := hD
  refine lv_aload_n hx hb dX4_addLine_41 rfl (lv_at hl 0 rfl) ?_
  refine lv_dup hx hb dX4_addLine_42 rfl ?_
  refine va_get (D := D) (ci := 4) (v := .int (nI ln)) (C := RX4) (T := TX4) (N := 9) hx hb hts gv_in_X4_addLine_X4 hown hK hP 0 rfl rfl 8 (by decide) (hts (.fieldLink RX4 37 "Gravimere$Survey" "lines" "I") (by decide +kernel)) (fun _ h9 => h9) rfl dX4_addLine_43 ?_
  refine lv_iconst (v := nI 1) hx hb dX4_addLine_46 (by decide) ?_
  refine lv_iadd hx hb dX4_addLine_47 ?_
  refine gv_wi (nI_add ln 1) ?_
  refine va_put (D := D) (ci := 4) (v := .int (nI (ln + 1))) (ty := .int) (C := RX4) (T := TX4) (N := 9) hx hb hts gv_in_X4_addLine_X4 tyX4 tyX4_ok nmX4 hown hK hP hD hS 0 rfl rfl 8 (by decide) (hts (.fieldLink RX4 37 "Gravimere$Survey" "lines" "I") (by decide +kernel)) (fun _ h9 => h9) rfl (by decide +kernel) rfl rfl (Nat.le_of_ble_eq_true rfl) dX4_addLine_48 (fun H locs hP hD hS => ?_)
  have hP : va_P D vwCl [(s0, .inr (4, [.ref s1, .ref s2, .ref s3, .ref s4, .ref s5, .ref s6, .ref s7, .int (nI bn), .int (nI (ln + 1))])), (s1, .inl (cI, 24, .inl (fun j => nI (gv_un sa ln f j)))), (s2, .inl (cI, 24, .inl (fun j => nI (gv_un sb ln t j)))), (s3, .inl (cI, 24, .inl (upd sr ln h))), (s4, .inl (cI, 24, .inl (fun j => nI (gv_un su ln u j))))] H := hP
  have hD : va_D A [(s0, .inr (4, [.ref s1, .ref s2, .ref s3, .ref s4, .ref s5, .ref s6, .ref s7, .int (nI bn), .int (nI (ln + 1))])), (s1, .inl (cI, 24, .inl (fun j => nI (gv_un sa ln f j)))), (s2, .inl (cI, 24, .inl (fun j => nI (gv_un sb ln t j)))), (s3, .inl (cI, 24, .inl (upd sr ln h))), (s4, .inl (cI, 24, .inl (fun j => nI (gv_un su ln u j))))] := hD
  refine lv_aload_n hx hb dX4_addLine_51 rfl (lv_at hl 0 rfl) ?_
  refine va_get (D := D) (ci := 4) (v := .int (nI (ln + 1))) (C := RX4) (T := TX4) (N := 9) hx hb hts gv_in_X4_addLine_X4 hown hK hP 0 rfl rfl 8 (by decide) (hts (.fieldLink RX4 37 "Gravimere$Survey" "lines" "I") (by decide +kernel)) (fun _ h9 => h9) rfl dX4_addLine_52 ?_
  refine lv_iconst (v := nI 1) hx hb dX4_addLine_55 (by decide) ?_
  refine lv_isub hx hb dX4_addLine_56 ?_
  refine gv_wi (nI_pred ln) ?_
  have hpo : (nI ln) = nI ln := by
    rfl
  have hP9 : va_P D vwCl [(s0, .inr (4, [.ref s1, .ref s2, .ref s3, .ref s4, .ref s5, .ref s6, .ref s7, .int (nI bn), .int (nI (ln + 1))])), (s1, .inl (cI, 24, .inl (fun j => nI (gv_un sa ln f j)))), (s2, .inl (cI, 24, .inl (fun j => nI (gv_un sb ln t j)))), (s3, .inl (cI, 24, .inl (upd sr ln h))), (s4, .inl (cI, 24, .inl (fun j => nI (gv_un su ln u j))))] H := hP
  have hD9 : va_D A [(s0, .inr (4, [.ref s1, .ref s2, .ref s3, .ref s4, .ref s5, .ref s6, .ref s7, .int (nI bn), .int (nI (ln + 1))])), (s1, .inl (cI, 24, .inl (fun j => nI (gv_un sa ln f j)))), (s2, .inl (cI, 24, .inl (fun j => nI (gv_un sb ln t j)))), (s3, .inl (cI, 24, .inl (upd sr ln h))), (s4, .inl (cI, 24, .inl (fun j => nI (gv_un su ln u j))))] := hD
  exact W.iret (v := nI ln) hx hb hr (fun t9 ht9 hW9 => ⟨⟨(nI ln), (), rfl, hpo, by rw [ht9]; exact hP9, hD9⟩, hS.F ht9⟩) hS.2.2 dX4_addLine_57
set_option maxHeartbeats 4000000 in
set_option maxRecDepth 100000 in
theorem ct_X4_knowOnlyFirst (l : Launch) (D : va_G) (cI cJ : ClassId) (sz : Nat) (s6 : Nat) (dd : Nat → Int32)  : Met l yX4_knowOnlyFirst wsX4_knowOnlyFirst ({ frames := 0, cells := 0, slots := 0, locals := 0 }) (va_Pc [.ref s6] (gv_B D cI cJ [(s6, .inl (cI, 10, .inl dd))] sz)) (va_Qv (fun (u9 : Unit) => True) (fun (u9 : Unit) t9 =>  gv_W D (va_A [(s6, .inl (cI, 10, .inl dd))] sz) [(s6, .inl (cI, 10, .inl (gv_ko dd)))] t9) (va_A [(s6, .inl (cI, 10, .inl dd))] sz)) 0 0 (va_A [(s6, .inl (cI, 10, .inl dd))] sz) := by
  refine Met.ofW (cc := cX4_knowOnlyFirst) (maxL := 2) (ret := none) (by decide) rfl ?_
  intro p e s m args below meth c s₁ B hml hv
  obtain ⟨rfl, hsz, hP, hK, hD0, hG⟩ := hv
  have hx := B.exec
  have hb := B.bytes
  have hr := B.returns
  have hts := atoms_spec (ws := wsX4_knowOnlyFirst) B.pre
  have hown : s.vm.findClass RX4 = some m.cls := findClass_of_methodNamed B.named
  have hlocks := B.notSynchronized
  subst hsz
  have hD := hD0.self (sz := s.heap.size)
  generalize hAe : va_A [(s6, .inl (cI, 10, .inl dd))] s.heap.size = A at hD ⊢
  have hA : ∀ q : Nat, s.heap.size ≤ q → A q := fun q h => by rw [← hAe]; exact Or.inr h
  have hS : va_S A s.heap s.heap [] := va_S.rf
  have hP : va_P D vwCl [(s6, .inl (cI, 10, .inl dd))] s.heap := hP
  have hl := lv_entry ([.ref s6]) (n := 2) (Nat.le_of_ble_eq_true rfl)
  rw [lg_entry_eq]
  generalize (lg_sl ([.ref s6]) ++ List.replicate (2 - (lg_sl ([.ref s6])).length) Slot.unset).toArray = ls at hl ⊢
  have hl : lv_has ls 2 [(0, .ref s6)] := hl
  refine lv_aload_n hx hb dX4_knowOnlyFirst_0 rfl (lv_at hl 0 rfl) ?_
  refine lv_iconst (v := nI 0) hx hb dX4_knowOnlyFirst_1 (by decide) ?_
  refine lv_iconst (v := nI 0) hx hb dX4_knowOnlyFirst_2 (by decide) ?_
  refine gv_is hx hb hK hP hD hS 0 (k := 0) rfl (by omega) (by decide) dX4_knowOnlyFirst_3 (fun H locs hP hD hS => ?_)
  have hP : va_P D vwCl [(s6, .inl (cI, 10, .inl (upd dd 0 (nI 0))))] H := hP
  have hD : va_D A [(s6, .inl (cI, 10, .inl (upd dd 0 (nI 0))))] := hD
  have hRW : upd dd 0 (nI 0) = gv_kn dd 1 := gv_kn_1 dd
  rw [hRW] at hP hD
  have hP : va_P D vwCl [(s6, .inl (cI, 10, .inl (gv_kn dd 1)))] H := hP
  have hD : va_D A [(s6, .inl (cI, 10, .inl (gv_kn dd 1)))] := hD
  refine lv_iconst (v := nI 1) hx hb dX4_knowOnlyFirst_4 (by decide) ?_
  refine lv_istore_n (lv' := [(1, .int (nI 1)), (0, .ref s6)]) hx hb dX4_knowOnlyFirst_5 rfl hl (by decide) rfl (fun ls hl => ?_)
  refine gv_lm (σ := Nat) (fun zq H locs ls => match zq with | i => 1 ≤ i ∧ i ≤ 10 ∧ va_P D vwCl [(s6, .inl (cI, 10, .inl (gv_kn dd i)))] H ∧ va_D A [(s6, .inl (cI, 10, .inl (gv_kn dd i)))] ∧ va_S A s.heap H locs ∧ lv_has ls 2 [(0, .ref s6), (1, .int (nI i))]) (fun zq => match zq with | i => 10 - i) 1 ⟨by omega, by omega, hP, hD, hS, lv_sub hl [1, 0] rfl⟩ (fun i H locs ls hI ih_6 => ?_)
  obtain ⟨hi1, hi2, hP, hD, hS, hl⟩ := hI
  refine lv_iload_n hx hb dX4_knowOnlyFirst_6 rfl (lv_at hl 1 rfl) ?_
  refine lv_bipush (v := nI 10) hx hb dX4_knowOnlyFirst_7 (by decide) ?_
  refine lv_icmp_ge (tgt := 22) hx hb dX4_knowOnlyFirst_9 (by decide) (fun c_9 => ?_) (fun c_9 => ?_)
  · skip
    have c_9 := (nI_leI (a := 10) (b := i) (by omega) (by omega)).mp c_9
    have hpo : True := by
      trivial
    have hP9 : va_P D vwCl [(s6, .inl (cI, 10, .inl (gv_ko dd)))] H := by rw [show i = 10 by omega] at hP; exact hP
    have hD9 : va_D A [(s6, .inl (cI, 10, .inl (gv_ko dd)))] := by rw [show i = 10 by omega] at hD; exact hD
    exact W.vret hx hb hr (fun t9 ht9 hW9 => ⟨⟨(), rfl, hpo, by rw [ht9]; exact hP9, hD9⟩, hS.F ht9⟩) hS.2.2 dX4_knowOnlyFirst_22
  · skip
    have c_9 := (not_congr (nI_leI (a := 10) (b := i) (by omega) (by omega))).mp c_9
    refine lv_aload_n hx hb dX4_knowOnlyFirst_12 rfl (lv_at hl 0 rfl) ?_
    refine lv_iload_n hx hb dX4_knowOnlyFirst_13 rfl (lv_at hl 1 rfl) ?_
    refine lv_iconst (v := -1) hx hb dX4_knowOnlyFirst_14 (by decide) ?_
    refine gv_is hx hb hK hP hD hS 0 (k := i) rfl (by omega) (by decide) dX4_knowOnlyFirst_15 (fun H locs hP hD hS => ?_)
    have hP : va_P D vwCl [(s6, .inl (cI, 10, .inl (upd (gv_kn dd i) i (-1))))] H := hP
    have hD : va_D A [(s6, .inl (cI, 10, .inl (upd (gv_kn dd i) i (-1))))] := hD
    refine lv_iinc (v := nI (i + 1)) (lv' := [(1, .int (nI (i + 1))), (0, .ref s6)]) hx hb dX4_knowOnlyFirst_16 hl (k := 1) rfl (nI_add i 1) (by decide) rfl (fun ls hl => ?_)
    refine lv_goto (tgt := 6) hx hb dX4_knowOnlyFirst_19 (by decide) ?_
    have hRW : upd (gv_kn dd i) i (-1) = gv_kn dd (i + 1) := gv_kn_s hi1
    rw [hRW] at hP hD
    have hP : va_P D vwCl [(s6, .inl (cI, 10, .inl (gv_kn dd (i + 1))))] H := hP
    have hD : va_D A [(s6, .inl (cI, 10, .inl (gv_kn dd (i + 1))))] := hD
    exact ih_6 (i + 1) _ _ _ ⟨by omega, by omega, hP, hD, hS, lv_sub hl [1, 0] rfl⟩ (by simp only; omega)
set_option maxHeartbeats 4000000 in
set_option maxRecDepth 100000 in
theorem ct_X4_doubtBeyond (l : Launch) (D : va_G) (cI cJ : ClassId) (sz : Nat) (s0 s1 s2 s3 s4 s5 s6 s7 bn ln : Nat) (sa sb su : Nat → Nat) (dd : Nat → Int32) (k : Nat) (hsa : ∀ j, sa j < 10) (hsb : ∀ j, sb j < 10) (hk : k < 24) : Met l yX4_doubtBeyond wsX4_doubtBeyond ({ frames := 0, cells := 0, slots := 0, locals := 0 }) (va_Pc [.ref s0, .int (nI k)] (gv_B D cI cJ [(s0, .inr (4, [.ref s1, .ref s2, .ref s3, .ref s4, .ref s5, .ref s6, .ref s7, .int (nI bn), .int (nI ln)])), (s1, .inl (cI, 24, .inl (fun j => nI (sa j)))), (s2, .inl (cI, 24, .inl (fun j => nI (sb j)))), (s4, .inl (cI, 24, .inl (fun j => nI (su j)))), (s6, .inl (cI, 10, .inl dd))] sz)) (vp_Si (fun r9 : Int32 => r9 = gv_db sa sb su dd k)) 0 0 (fun _ => False) := by
  refine Met.ofW (cc := cX4_doubtBeyond) (maxL := 4) (ret := (some .int)) (by decide) rfl ?_
  intro p e s m args below meth c s₁ B hml hv
  obtain ⟨rfl, hsz, hP, hK, hD0, hG⟩ := hv
  have hx := B.exec
  have hb := B.bytes
  have hr := B.returns
  have hts := atoms_spec (ws := wsX4_doubtBeyond) B.pre
  have hown : s.vm.findClass RX4 = some m.cls := findClass_of_methodNamed B.named
  have hlocks := B.notSynchronized
  subst hsz
  have hD := hD0
  have hP : va_P D vwCl [(s0, .inr (4, [.ref s1, .ref s2, .ref s3, .ref s4, .ref s5, .ref s6, .ref s7, .int (nI bn), .int (nI ln)])), (s1, .inl (cI, 24, .inl (fun j => nI (sa j)))), (s2, .inl (cI, 24, .inl (fun j => nI (sb j)))), (s4, .inl (cI, 24, .inl (fun j => nI (su j)))), (s6, .inl (cI, 10, .inl dd))] s.heap := hP
  have hl := lv_entry ([.ref s0, .int (nI k)]) (n := 4) (Nat.le_of_ble_eq_true rfl)
  rw [lg_entry_eq]
  generalize (lg_sl ([.ref s0, .int (nI k)]) ++ List.replicate (4 - (lg_sl ([.ref s0, .int (nI k)])).length) Slot.unset).toArray = ls at hl ⊢
  have hl : lv_has ls 4 [(0, .ref s0), (1, .int (nI k))] := hl
  refine lv_aload_n hx hb dX4_doubtBeyond_0 rfl (lv_at hl 0 rfl) ?_
  refine va_get (D := D) (ci := 4) (v := .ref s6) (C := RX4) (T := TX4) (N := 9) hx hb hts gv_in_X4_doubtBeyond_X4 hown hK hP 0 rfl rfl 5 (by decide) (hts (.fieldLink RX4 27 "Gravimere$Survey" "doubts" "[I") (by decide +kernel)) (fun _ h9 => h9) rfl dX4_doubtBeyond_1 ?_
  refine lv_aload_n hx hb dX4_doubtBeyond_4 rfl (lv_at hl 0 rfl) ?_
  refine va_get (D := D) (ci := 4) (v := .ref s1) (C := RX4) (T := TX4) (N := 9) hx hb hts gv_in_X4_doubtBeyond_X4 hown hK hP 0 rfl rfl 0 (by decide) (hts (.fieldLink RX4 9 "Gravimere$Survey" "starts" "[I") (by decide +kernel)) (fun _ h9 => h9) rfl dX4_doubtBeyond_5 ?_
  refine lv_iload_n hx hb dX4_doubtBeyond_8 rfl (lv_at hl 1 rfl) ?_
  refine gv_il hx hb hK hP 1 (k := k) rfl (by first | exact hsa _ | exact hsb _ | omega) (by decide) dX4_doubtBeyond_9 ?_
  refine gv_wi (rfl) ?_
  refine gv_il hx hb hK hP 4 (k := sa k) rfl (by first | exact hsa _ | exact hsb _ | omega) (by decide) dX4_doubtBeyond_10 ?_
  refine lv_istore_n (lv' := [(2, .int (dd (sa k))), (0, .ref s0), (1, .int (nI k))]) hx hb dX4_doubtBeyond_11 rfl hl (by decide) rfl (fun ls hl => ?_)
  refine lv_aload_n hx hb dX4_doubtBeyond_12 rfl (lv_at hl 1 rfl) ?_
  refine va_get (D := D) (ci := 4) (v := .ref s6) (C := RX4) (T := TX4) (N := 9) hx hb hts gv_in_X4_doubtBeyond_X4 hown hK hP 0 rfl rfl 5 (by decide) (hts (.fieldLink RX4 27 "Gravimere$Survey" "doubts" "[I") (by decide +kernel)) (fun _ h9 => h9) rfl dX4_doubtBeyond_13 ?_
  refine lv_aload_n hx hb dX4_doubtBeyond_16 rfl (lv_at hl 1 rfl) ?_
  refine va_get (D := D) (ci := 4) (v := .ref s2) (C := RX4) (T := TX4) (N := 9) hx hb hts gv_in_X4_doubtBeyond_X4 hown hK hP 0 rfl rfl 1 (by decide) (hts (.fieldLink RX4 15 "Gravimere$Survey" "ends" "[I") (by decide +kernel)) (fun _ h9 => h9) rfl dX4_doubtBeyond_17 ?_
  refine lv_iload_n hx hb dX4_doubtBeyond_20 rfl (lv_at hl 2 rfl) ?_
  refine gv_il hx hb hK hP 2 (k := k) rfl (by first | exact hsa _ | exact hsb _ | omega) (by decide) dX4_doubtBeyond_21 ?_
  refine gv_wi (rfl) ?_
  refine gv_il hx hb hK hP 4 (k := sb k) rfl (by first | exact hsa _ | exact hsb _ | omega) (by decide) dX4_doubtBeyond_22 ?_
  refine lv_istore_n (lv' := [(3, .int (dd (sb k))), (2, .int (dd (sa k))), (0, .ref s0), (1, .int (nI k))]) hx hb dX4_doubtBeyond_23 rfl hl (by decide) rfl (fun ls hl => ?_)
  refine gv_mg (fun v : Int32 => v = if dd (sa k) = -1 then nI 1 else nI 0) 34 [] (fun v1 hv_v1 => ?_) (fun K_1 => ?_)
  · skip
    refine gv_mg (fun v : Int32 => v = if dd (sb k) = -1 then nI 1 else nI 0) 44 [.int v1] (fun v2 hv_v2 => ?_) (fun K_2 => ?_)
    · skip
      refine lv_icmp_ne (tgt := 49) hx hb dX4_doubtBeyond_44 (by decide) (fun c_44 => ?_) (fun c_44 => ?_)
      · skip
        refine lv_iload_n hx hb dX4_doubtBeyond_49 rfl (lv_at hl 1 rfl) ?_
        refine lv_iconst (v := -1) hx hb dX4_doubtBeyond_50 (by decide) ?_
        refine lv_icmp_ne (tgt := 58) hx hb dX4_doubtBeyond_51 (by decide) (fun c_51 => ?_) (fun c_51 => ?_)
        · skip
          refine lv_iload_n hx hb dX4_doubtBeyond_58 rfl (lv_at hl 1 rfl) ?_
          refine lv_aload_n hx hb dX4_doubtBeyond_59 rfl (lv_at hl 2 rfl) ?_
          refine va_get (D := D) (ci := 4) (v := .ref s4) (C := RX4) (T := TX4) (N := 9) hx hb hts gv_in_X4_doubtBeyond_X4 hown hK hP 0 rfl rfl 3 (by decide) (hts (.fieldLink RX4 21 "Gravimere$Survey" "lineDoubts" "[I") (by decide +kernel)) (fun _ h9 => h9) rfl dX4_doubtBeyond_60 ?_
          refine lv_iload_n hx hb dX4_doubtBeyond_63 rfl (lv_at hl 3 rfl) ?_
          refine gv_il hx hb hK hP 3 (k := k) rfl (by first | exact hsa _ | exact hsb _ | omega) (by decide) dX4_doubtBeyond_64 ?_
          refine gv_wi (rfl) ?_
          refine lv_iadd hx hb dX4_doubtBeyond_65 ?_
          have hpo : ((dd (sa k)) + (nI (su k))) = gv_db sa sb su dd k := by
            first | exact gv_db_2 hv_v1 hv_v2 c_44 c_51 | exact gv_db_3 hv_v1 hv_v2 c_44 c_51
          exact W.iret (v := (dd (sa k)) + (nI (su k))) hx hb hr (fun t9 ht9 hW9 => ⟨((dd (sa k)) + (nI (su k))), rfl, hpo, ht9⟩) t_nil dX4_doubtBeyond_66
        · skip
          refine lv_iload_n hx hb dX4_doubtBeyond_54 rfl (lv_at hl 0 rfl) ?_
          refine lv_goto (tgt := 59) hx hb dX4_doubtBeyond_55 (by decide) ?_
          refine lv_aload_n hx hb dX4_doubtBeyond_59 rfl (lv_at hl 2 rfl) ?_
          refine va_get (D := D) (ci := 4) (v := .ref s4) (C := RX4) (T := TX4) (N := 9) hx hb hts gv_in_X4_doubtBeyond_X4 hown hK hP 0 rfl rfl 3 (by decide) (hts (.fieldLink RX4 21 "Gravimere$Survey" "lineDoubts" "[I") (by decide +kernel)) (fun _ h9 => h9) rfl dX4_doubtBeyond_60 ?_
          refine lv_iload_n hx hb dX4_doubtBeyond_63 rfl (lv_at hl 3 rfl) ?_
          refine gv_il hx hb hK hP 3 (k := k) rfl (by first | exact hsa _ | exact hsb _ | omega) (by decide) dX4_doubtBeyond_64 ?_
          refine gv_wi (rfl) ?_
          refine lv_iadd hx hb dX4_doubtBeyond_65 ?_
          have hpo : ((dd (sb k)) + (nI (su k))) = gv_db sa sb su dd k := by
            first | exact gv_db_2 hv_v1 hv_v2 c_44 c_51 | exact gv_db_3 hv_v1 hv_v2 c_44 c_51
          exact W.iret (v := (dd (sb k)) + (nI (su k))) hx hb hr (fun t9 ht9 hW9 => ⟨((dd (sb k)) + (nI (su k))), rfl, hpo, ht9⟩) t_nil dX4_doubtBeyond_66
      · skip
        refine lv_iconst (v := -1) hx hb dX4_doubtBeyond_47 (by decide) ?_
        have hpo : (-1) = gv_db sa sb su dd k := by
          exact gv_db_1 hv_v1 hv_v2 c_44
        exact W.iret (v := -1) hx hb hr (fun t9 ht9 hW9 => ⟨(-1), rfl, hpo, ht9⟩) t_nil dX4_doubtBeyond_48
    · skip
      refine lv_iload_n hx hb dX4_doubtBeyond_34 rfl (lv_at hl 0 rfl) ?_
      refine lv_iconst (v := -1) hx hb dX4_doubtBeyond_35 (by decide) ?_
      refine lv_icmp_ne (tgt := 43) hx hb dX4_doubtBeyond_36 (by decide) (fun c_36 => ?_) (fun c_36 => ?_)
      · skip
        refine lv_iconst (v := nI 0) hx hb dX4_doubtBeyond_43 (by decide) ?_
        exact K_2 _ (by first | exact (if_pos c_36).symm | exact (if_neg c_36).symm)
      · skip
        refine lv_iconst (v := nI 1) hx hb dX4_doubtBeyond_39 (by decide) ?_
        refine lv_goto (tgt := 44) hx hb dX4_doubtBeyond_40 (by decide) ?_
        exact K_2 _ (by first | exact (if_pos c_36).symm | exact (if_neg c_36).symm)
  · skip
    refine lv_iload_n hx hb dX4_doubtBeyond_24 rfl (lv_at hl 1 rfl) ?_
    refine lv_iconst (v := -1) hx hb dX4_doubtBeyond_25 (by decide) ?_
    refine lv_icmp_ne (tgt := 33) hx hb dX4_doubtBeyond_26 (by decide) (fun c_26 => ?_) (fun c_26 => ?_)
    · skip
      refine lv_iconst (v := nI 0) hx hb dX4_doubtBeyond_33 (by decide) ?_
      exact K_1 _ (by first | exact (if_pos c_26).symm | exact (if_neg c_26).symm)
    · skip
      refine lv_iconst (v := nI 1) hx hb dX4_doubtBeyond_29 (by decide) ?_
      refine lv_goto (tgt := 34) hx hb dX4_doubtBeyond_30 (by decide) ?_
      exact K_1 _ (by first | exact (if_pos c_26).symm | exact (if_neg c_26).symm)
set_option maxHeartbeats 4000000 in
set_option maxRecDepth 100000 in
theorem ct_X4_surestLine (l : Launch) (D : va_G) (cI cJ : ClassId) (sz : Nat) (s0 s1 s2 s3 s4 s5 s6 s7 bn ln : Nat) (sa sb su : Nat → Nat) (dd : Nat → Int32) (hsa : ∀ j, sa j < 10) (hsb : ∀ j, sb j < 10) (hln : ln ≤ 24) : Met l yX4_surestLine wsX4_surestLine ({ frames := 1, cells := 0, slots := 0, locals := 23 }) (va_Pc [.ref s0] (gv_B D cI cJ [(s0, .inr (4, [.ref s1, .ref s2, .ref s3, .ref s4, .ref s5, .ref s6, .ref s7, .int (nI bn), .int (nI ln)])), (s1, .inl (cI, 24, .inl (fun j => nI (sa j)))), (s2, .inl (cI, 24, .inl (fun j => nI (sb j)))), (s4, .inl (cI, 24, .inl (fun j => nI (su j)))), (s6, .inl (cI, 10, .inl dd))] sz)) (vp_Si (fun r9 : Int32 => r9 = (gv_srl sa sb su dd ln).1)) 0 0 (fun _ => False) := by
  refine Met.ofW (cc := cX4_surestLine) (maxL := 5) (ret := (some .int)) (by decide) rfl ?_
  intro p e s m args below meth c s₁ B hml hv
  obtain ⟨rfl, hsz, hP, hK, hD0, hG⟩ := hv
  have hx := B.exec
  have hb := B.bytes
  have hr := B.returns
  have hts := atoms_spec (ws := wsX4_surestLine) B.pre
  have hown : s.vm.findClass RX4 = some m.cls := findClass_of_methodNamed B.named
  have hlocks := B.notSynchronized
  subst hsz
  have hD := hD0
  have hP : va_P D vwCl [(s0, .inr (4, [.ref s1, .ref s2, .ref s3, .ref s4, .ref s5, .ref s6, .ref s7, .int (nI bn), .int (nI ln)])), (s1, .inl (cI, 24, .inl (fun j => nI (sa j)))), (s2, .inl (cI, 24, .inl (fun j => nI (sb j)))), (s4, .inl (cI, 24, .inl (fun j => nI (su j)))), (s6, .inl (cI, 10, .inl dd))] s.heap := hP
  have hl := lv_entry ([.ref s0]) (n := 5) (Nat.le_of_ble_eq_true rfl)
  rw [lg_entry_eq]
  generalize (lg_sl ([.ref s0]) ++ List.replicate (5 - (lg_sl ([.ref s0])).length) Slot.unset).toArray = ls at hl ⊢
  have hl : lv_has ls 5 [(0, .ref s0)] := hl
  refine lv_iconst (v := -1) hx hb dX4_surestLine_0 (by decide) ?_
  refine lv_istore_n (lv' := [(1, .int (-1)), (0, .ref s0)]) hx hb dX4_surestLine_1 rfl hl (by decide) rfl (fun ls hl => ?_)
  refine lv_iconst (v := -1) hx hb dX4_surestLine_2 (by decide) ?_
  refine lv_istore_n (lv' := [(2, .int (-1)), (1, .int (-1)), (0, .ref s0)]) hx hb dX4_surestLine_3 rfl hl (by decide) rfl (fun ls hl => ?_)
  refine lv_iconst (v := nI 0) hx hb dX4_surestLine_4 (by decide) ?_
  refine lv_istore_n (lv' := [(3, .int (nI 0)), (2, .int (-1)), (1, .int (-1)), (0, .ref s0)]) hx hb dX4_surestLine_5 rfl hl (by decide) rfl (fun ls hl => ?_)
  refine gv_lp (σ := Nat × Int32 × Int32) (fun zq ls => match zq with | (i, a, b) => i ≤ ln ∧ a = (gv_srl sa sb su dd i).1 ∧ b = (gv_srl sa sb su dd i).2 ∧ lv_has ls 5 [(0, .ref s0), (1, .int a), (2, .int b), (3, .int (nI i))]) (fun zq => match zq with | (i, a, b) => ln - i) (0, -1, -1) ⟨by omega, rfl, rfl, lv_sub hl [3, 2, 1, 0] rfl⟩ (fun zq ls hI ih_6 => ?_)
  obtain ⟨i, a, b⟩ := zq
  obtain ⟨hi, ha, hb2, hl⟩ := hI
  refine lv_iload_n hx hb dX4_surestLine_6 rfl (lv_at hl 3 rfl) ?_
  refine lv_aload_n hx hb dX4_surestLine_7 rfl (lv_at hl 0 rfl) ?_
  refine va_get (D := D) (ci := 4) (v := .int (nI ln)) (C := RX4) (T := TX4) (N := 9) hx hb hts gv_in_X4_surestLine_X4 hown hK hP 0 rfl rfl 8 (by decide) (hts (.fieldLink RX4 37 "Gravimere$Survey" "lines" "I") (by decide +kernel)) (fun _ h9 => h9) rfl dX4_surestLine_8 ?_
  refine lv_icmp_ge (tgt := 49) hx hb dX4_surestLine_11 (by decide) (fun c_11 => ?_) (fun c_11 => ?_)
  · skip
    have c_11 := (nI_leI (a := ln) (b := i) (by omega) (by omega)).mp c_11
    refine lv_iload_n hx hb dX4_surestLine_49 rfl (lv_at hl 1 rfl) ?_
    have hpo : a = (gv_srl sa sb su dd ln).1 := by
      rw [ha, show i = ln by omega]
    exact W.iret (v := a) hx hb hr (fun t9 ht9 hW9 => ⟨a, rfl, hpo, ht9⟩) t_nil dX4_surestLine_50
  · skip
    have c_11 := (not_congr (nI_leI (a := ln) (b := i) (by omega) (by omega))).mp c_11
    refine lv_aload_n hx hb dX4_surestLine_14 rfl (lv_at hl 0 rfl) ?_
    refine lv_iload_n hx hb dX4_surestLine_15 rfl (lv_at hl 3 rfl) ?_
    refine gv_pi (va_runV (As := [.int (nI i)]) (rest := []) ⟨hx, hb, hml, hown, hts⟩ (ct_X4_doubtBeyond l D cI cJ s.heap.size s0 s1 s2 s3 s4 s5 s6 s7 bn ln sa sb su dd i hsa hsb (by omega)) (cwV 1 hts gX4_surestLine_X4_doubtBeyond rfl rfl rfl (by decide +kernel) ⟨Nat.le_of_ble_eq_true rfl, Nat.le_of_ble_eq_true rfl⟩) (gv_pV (wc := [(s0, .inr (4, [.ref s1, .ref s2, .ref s3, .ref s4, .ref s5, .ref s6, .ref s7, .int (nI bn), .int (nI ln)])), (s1, .inl (cI, 24, .inl (fun j => nI (sa j)))), (s2, .inl (cI, 24, .inl (fun j => nI (sb j)))), (s4, .inl (cI, 24, .inl (fun j => nI (su j)))), (s6, .inl (cI, 10, .inl dd))]) hP hK hD hG [0, 1, 2, 3, 4] rfl (by decide) 0 rfl rfl rfl) rfl rfl hl.1 rfl (lv_room (Nat.le_of_ble_eq_true rfl)) dX4_surestLine_16 ⟨Nat.le_of_ble_eq_true rfl, Nat.le_of_ble_eq_true rfl⟩) (fun rd hrd => ?_)
    refine lv_istore (lv' := [(4, .int rd), (0, .ref s0), (1, .int a), (2, .int b), (3, .int (nI i))]) hx hb dX4_surestLine_19 hl (by decide) rfl (fun ls hl => ?_)
    refine lv_iload hx hb dX4_surestLine_21 (lv_at hl 0 rfl) ?_
    refine lv_iconst (v := -1) hx hb dX4_surestLine_23 (by decide) ?_
    refine lv_icmp_eq (tgt := 43) hx hb dX4_surestLine_24 (by decide) (fun c_24 => ?_) (fun c_24 => ?_)
    · skip
      refine lv_iinc (v := nI (i + 1)) (lv' := [(3, .int (nI (i + 1))), (4, .int rd), (0, .ref s0), (1, .int a), (2, .int b)]) hx hb dX4_surestLine_43 hl (k := 4) rfl (nI_add i 1) (by decide) rfl (fun ls hl => ?_)
      refine lv_goto (tgt := 6) hx hb dX4_surestLine_46 (by decide) ?_
      exact ih_6 (i + 1, a, b) _ ⟨by omega, by rw [gv_srl, if_neg (fun z => by first | exact z.1 (hrd.symm.trans c_24) | exact z.2.elim (fun w => c_29 (ha.trans w)) (fun w => gv_len32 c_35 (by rw [hrd, hb2]; exact w)))]; exact ha, by rw [gv_srl, if_neg (fun z => by first | exact z.1 (hrd.symm.trans c_24) | exact z.2.elim (fun w => c_29 (ha.trans w)) (fun w => gv_len32 c_35 (by rw [hrd, hb2]; exact w)))]; exact hb2, lv_sub hl [2, 3, 4, 0] rfl⟩ (by simp only; omega)
    · skip
      refine lv_iload_n hx hb dX4_surestLine_27 rfl (lv_at hl 2 rfl) ?_
      refine lv_iconst (v := -1) hx hb dX4_surestLine_28 (by decide) ?_
      refine lv_icmp_eq (tgt := 38) hx hb dX4_surestLine_29 (by decide) (fun c_29 => ?_) (fun c_29 => ?_)
      · skip
        refine lv_iload_n hx hb dX4_surestLine_38 rfl (lv_at hl 4 rfl) ?_
        refine lv_istore_n (lv' := [(1, .int (nI i)), (4, .int rd), (0, .ref s0), (2, .int b), (3, .int (nI i))]) hx hb dX4_surestLine_39 rfl hl (by decide) rfl (fun ls hl => ?_)
        refine lv_iload hx hb dX4_surestLine_40 (lv_at hl 1 rfl) ?_
        refine lv_istore_n (lv' := [(2, .int rd), (1, .int (nI i)), (4, .int rd), (0, .ref s0), (3, .int (nI i))]) hx hb dX4_surestLine_42 rfl hl (by decide) rfl (fun ls hl => ?_)
        refine lv_iinc (v := nI (i + 1)) (lv' := [(3, .int (nI (i + 1))), (2, .int rd), (1, .int (nI i)), (4, .int rd), (0, .ref s0)]) hx hb dX4_surestLine_43 hl (k := 4) rfl (nI_add i 1) (by decide) rfl (fun ls hl => ?_)
        refine lv_goto (tgt := 6) hx hb dX4_surestLine_46 (by decide) ?_
        exact ih_6 (i + 1, nI i, rd) _ ⟨by omega, by rw [gv_srl, if_pos ⟨fun z => c_24 (hrd.trans z), by first | exact Or.inl (ha.symm.trans c_29) | exact Or.inr (by rw [← hrd, ← hb2]; exact gv_nle32 c_35)⟩], by rw [gv_srl, if_pos ⟨fun z => c_24 (hrd.trans z), by first | exact Or.inl (ha.symm.trans c_29) | exact Or.inr (by rw [← hrd, ← hb2]; exact gv_nle32 c_35)⟩]; exact hrd, lv_sub hl [4, 2, 1, 0] rfl⟩ (by simp only; omega)
      · skip
        refine lv_iload hx hb dX4_surestLine_32 (lv_at hl 0 rfl) ?_
        refine lv_iload_n hx hb dX4_surestLine_34 rfl (lv_at hl 3 rfl) ?_
        refine lv_icmp_ge (tgt := 43) hx hb dX4_surestLine_35 (by decide) (fun c_35 => ?_) (fun c_35 => ?_)
        · skip
          refine lv_iinc (v := nI (i + 1)) (lv' := [(3, .int (nI (i + 1))), (4, .int rd), (0, .ref s0), (1, .int a), (2, .int b)]) hx hb dX4_surestLine_43 hl (k := 4) rfl (nI_add i 1) (by decide) rfl (fun ls hl => ?_)
          refine lv_goto (tgt := 6) hx hb dX4_surestLine_46 (by decide) ?_
          exact ih_6 (i + 1, a, b) _ ⟨by omega, by rw [gv_srl, if_neg (fun z => by first | exact z.1 (hrd.symm.trans c_24) | exact z.2.elim (fun w => c_29 (ha.trans w)) (fun w => gv_len32 c_35 (by rw [hrd, hb2]; exact w)))]; exact ha, by rw [gv_srl, if_neg (fun z => by first | exact z.1 (hrd.symm.trans c_24) | exact z.2.elim (fun w => c_29 (ha.trans w)) (fun w => gv_len32 c_35 (by rw [hrd, hb2]; exact w)))]; exact hb2, lv_sub hl [2, 3, 4, 0] rfl⟩ (by simp only; omega)
        · skip
          refine lv_iload_n hx hb dX4_surestLine_38 rfl (lv_at hl 4 rfl) ?_
          refine lv_istore_n (lv' := [(1, .int (nI i)), (4, .int rd), (0, .ref s0), (2, .int b), (3, .int (nI i))]) hx hb dX4_surestLine_39 rfl hl (by decide) rfl (fun ls hl => ?_)
          refine lv_iload hx hb dX4_surestLine_40 (lv_at hl 1 rfl) ?_
          refine lv_istore_n (lv' := [(2, .int rd), (1, .int (nI i)), (4, .int rd), (0, .ref s0), (3, .int (nI i))]) hx hb dX4_surestLine_42 rfl hl (by decide) rfl (fun ls hl => ?_)
          refine lv_iinc (v := nI (i + 1)) (lv' := [(3, .int (nI (i + 1))), (2, .int rd), (1, .int (nI i)), (4, .int rd), (0, .ref s0)]) hx hb dX4_surestLine_43 hl (k := 4) rfl (nI_add i 1) (by decide) rfl (fun ls hl => ?_)
          refine lv_goto (tgt := 6) hx hb dX4_surestLine_46 (by decide) ?_
          exact ih_6 (i + 1, nI i, rd) _ ⟨by omega, by rw [gv_srl, if_pos ⟨fun z => c_24 (hrd.trans z), by first | exact Or.inl (ha.symm.trans c_29) | exact Or.inr (by rw [← hrd, ← hb2]; exact gv_nle32 c_35)⟩], by rw [gv_srl, if_pos ⟨fun z => c_24 (hrd.trans z), by first | exact Or.inl (ha.symm.trans c_29) | exact Or.inr (by rw [← hrd, ← hb2]; exact gv_nle32 c_35)⟩]; exact hrd, lv_sub hl [4, 2, 1, 0] rfl⟩ (by simp only; omega)
set_option maxHeartbeats 4000000 in
set_option maxRecDepth 100000 in
theorem ct_X4_goAlong (l : Launch) (D : va_G) (cI cJ : ClassId) (sz : Nat) (s0 s1 s2 s3 s4 s5 s6 s7 bn ln : Nat) (sa sb su : Nat → Nat) (sr dd hh : Nat → Int32) (k : Nat) (hsa : ∀ j, sa j < 10) (hsb : ∀ j, sb j < 10) (hk : k < 24) : Met l yX4_goAlong wsX4_goAlong ({ frames := 0, cells := 0, slots := 0, locals := 0 }) (va_Pc [.ref s0, .int (nI k)] (gv_B D cI cJ [(s0, .inr (4, [.ref s1, .ref s2, .ref s3, .ref s4, .ref s5, .ref s6, .ref s7, .int (nI bn), .int (nI ln)])), (s1, .inl (cI, 24, .inl (fun j => nI (sa j)))), (s2, .inl (cI, 24, .inl (fun j => nI (sb j)))), (s3, .inl (cI, 24, .inl sr)), (s4, .inl (cI, 24, .inl (fun j => nI (su j)))), (s5, .inl (cI, 10, .inl hh)), (s6, .inl (cI, 10, .inl dd))] sz)) (va_Qv (fun (u9 : Unit) => True) (fun (u9 : Unit) t9 =>  gv_W D (va_A [(s0, .inr (4, [.ref s1, .ref s2, .ref s3, .ref s4, .ref s5, .ref s6, .ref s7, .int (nI bn), .int (nI ln)])), (s1, .inl (cI, 24, .inl (fun j => nI (sa j)))), (s2, .inl (cI, 24, .inl (fun j => nI (sb j)))), (s3, .inl (cI, 24, .inl sr)), (s4, .inl (cI, 24, .inl (fun j => nI (su j)))), (s5, .inl (cI, 10, .inl hh)), (s6, .inl (cI, 10, .inl dd))] sz) [(s0, .inr (4, [.ref s1, .ref s2, .ref s3, .ref s4, .ref s5, .ref s6, .ref s7, .int (nI bn), .int (nI ln)])), (s1, .inl (cI, 24, .inl (fun j => nI (sa j)))), (s2, .inl (cI, 24, .inl (fun j => nI (sb j)))), (s3, .inl (cI, 24, .inl sr)), (s4, .inl (cI, 24, .inl (fun j => nI (su j)))), (s5, .inl (cI, 10, .inl ((gv_stp sa sb su sr (dd, hh) k).2))), (s6, .inl (cI, 10, .inl ((gv_stp sa sb su sr (dd, hh) k).1)))] t9) (va_A [(s0, .inr (4, [.ref s1, .ref s2, .ref s3, .ref s4, .ref s5, .ref s6, .ref s7, .int (nI bn), .int (nI ln)])), (s1, .inl (cI, 24, .inl (fun j => nI (sa j)))), (s2, .inl (cI, 24, .inl (fun j => nI (sb j)))), (s3, .inl (cI, 24, .inl sr)), (s4, .inl (cI, 24, .inl (fun j => nI (su j)))), (s5, .inl (cI, 10, .inl hh)), (s6, .inl (cI, 10, .inl dd))] sz)) 0 0 (va_A [(s0, .inr (4, [.ref s1, .ref s2, .ref s3, .ref s4, .ref s5, .ref s6, .ref s7, .int (nI bn), .int (nI ln)])), (s1, .inl (cI, 24, .inl (fun j => nI (sa j)))), (s2, .inl (cI, 24, .inl (fun j => nI (sb j)))), (s3, .inl (cI, 24, .inl sr)), (s4, .inl (cI, 24, .inl (fun j => nI (su j)))), (s5, .inl (cI, 10, .inl hh)), (s6, .inl (cI, 10, .inl dd))] sz) := by
  refine Met.ofW (cc := cX4_goAlong) (maxL := 4) (ret := none) (by decide) rfl ?_
  intro p e s m args below meth c s₁ B hml hv
  obtain ⟨rfl, hsz, hP, hK, hD0, hG⟩ := hv
  have hx := B.exec
  have hb := B.bytes
  have hr := B.returns
  have hts := atoms_spec (ws := wsX4_goAlong) B.pre
  have hown : s.vm.findClass RX4 = some m.cls := findClass_of_methodNamed B.named
  have hlocks := B.notSynchronized
  subst hsz
  have hD := hD0.self (sz := s.heap.size)
  generalize hAe : va_A [(s0, .inr (4, [.ref s1, .ref s2, .ref s3, .ref s4, .ref s5, .ref s6, .ref s7, .int (nI bn), .int (nI ln)])), (s1, .inl (cI, 24, .inl (fun j => nI (sa j)))), (s2, .inl (cI, 24, .inl (fun j => nI (sb j)))), (s3, .inl (cI, 24, .inl sr)), (s4, .inl (cI, 24, .inl (fun j => nI (su j)))), (s5, .inl (cI, 10, .inl hh)), (s6, .inl (cI, 10, .inl dd))] s.heap.size = A at hD ⊢
  have hA : ∀ q : Nat, s.heap.size ≤ q → A q := fun q h => by rw [← hAe]; exact Or.inr h
  have hS : va_S A s.heap s.heap [] := va_S.rf
  have hP : va_P D vwCl [(s0, .inr (4, [.ref s1, .ref s2, .ref s3, .ref s4, .ref s5, .ref s6, .ref s7, .int (nI bn), .int (nI ln)])), (s1, .inl (cI, 24, .inl (fun j => nI (sa j)))), (s2, .inl (cI, 24, .inl (fun j => nI (sb j)))), (s3, .inl (cI, 24, .inl sr)), (s4, .inl (cI, 24, .inl (fun j => nI (su j)))), (s5, .inl (cI, 10, .inl hh)), (s6, .inl (cI, 10, .inl dd))] s.heap := hP
  have hl := lv_entry ([.ref s0, .int (nI k)]) (n := 4) (Nat.le_of_ble_eq_true rfl)
  rw [lg_entry_eq]
  generalize (lg_sl ([.ref s0, .int (nI k)]) ++ List.replicate (4 - (lg_sl ([.ref s0, .int (nI k)])).length) Slot.unset).toArray = ls at hl ⊢
  have hl : lv_has ls 4 [(0, .ref s0), (1, .int (nI k))] := hl
  refine lv_aload_n hx hb dX4_goAlong_0 rfl (lv_at hl 0 rfl) ?_
  refine va_get (D := D) (ci := 4) (v := .ref s1) (C := RX4) (T := TX4) (N := 9) hx hb hts gv_in_X4_goAlong_X4 hown hK hP 0 rfl rfl 0 (by decide) (hts (.fieldLink RX4 9 "Gravimere$Survey" "starts" "[I") (by decide +kernel)) (fun _ h9 => h9) rfl dX4_goAlong_1 ?_
  refine lv_iload_n hx hb dX4_goAlong_4 rfl (lv_at hl 1 rfl) ?_
  refine gv_il hx hb hK hP 1 (k := k) rfl (by first | exact hsa _ | exact hsb _ | omega) (by decide) dX4_goAlong_5 ?_
  refine gv_wi (rfl) ?_
  refine lv_istore_n (lv' := [(2, .int (nI (sa k))), (0, .ref s0), (1, .int (nI k))]) hx hb dX4_goAlong_6 rfl hl (by decide) rfl (fun ls hl => ?_)
  refine lv_aload_n hx hb dX4_goAlong_7 rfl (lv_at hl 1 rfl) ?_
  refine va_get (D := D) (ci := 4) (v := .ref s2) (C := RX4) (T := TX4) (N := 9) hx hb hts gv_in_X4_goAlong_X4 hown hK hP 0 rfl rfl 1 (by decide) (hts (.fieldLink RX4 15 "Gravimere$Survey" "ends" "[I") (by decide +kernel)) (fun _ h9 => h9) rfl dX4_goAlong_8 ?_
  refine lv_iload_n hx hb dX4_goAlong_11 rfl (lv_at hl 2 rfl) ?_
  refine gv_il hx hb hK hP 2 (k := k) rfl (by first | exact hsa _ | exact hsb _ | omega) (by decide) dX4_goAlong_12 ?_
  refine gv_wi (rfl) ?_
  refine lv_istore_n (lv' := [(3, .int (nI (sb k))), (2, .int (nI (sa k))), (0, .ref s0), (1, .int (nI k))]) hx hb dX4_goAlong_13 rfl hl (by decide) rfl (fun ls hl => ?_)
  refine lv_aload_n hx hb dX4_goAlong_14 rfl (lv_at hl 2 rfl) ?_
  refine va_get (D := D) (ci := 4) (v := .ref s6) (C := RX4) (T := TX4) (N := 9) hx hb hts gv_in_X4_goAlong_X4 hown hK hP 0 rfl rfl 5 (by decide) (hts (.fieldLink RX4 27 "Gravimere$Survey" "doubts" "[I") (by decide +kernel)) (fun _ h9 => h9) rfl dX4_goAlong_15 ?_
  refine lv_iload_n hx hb dX4_goAlong_18 rfl (lv_at hl 0 rfl) ?_
  refine gv_il hx hb hK hP 6 (k := sb k) rfl (by first | exact hsa _ | exact hsb _ | omega) (by decide) dX4_goAlong_19 ?_
  refine lv_iconst (v := -1) hx hb dX4_goAlong_20 (by decide) ?_
  refine lv_icmp_ne (tgt := 65) hx hb dX4_goAlong_21 (by decide) (fun c_21 => ?_) (fun c_21 => ?_)
  · skip
    refine lv_aload_n hx hb dX4_goAlong_65 rfl (lv_at hl 2 rfl) ?_
    refine va_get (D := D) (ci := 4) (v := .ref s6) (C := RX4) (T := TX4) (N := 9) hx hb hts gv_in_X4_goAlong_X4 hown hK hP 0 rfl rfl 5 (by decide) (hts (.fieldLink RX4 27 "Gravimere$Survey" "doubts" "[I") (by decide +kernel)) (fun _ h9 => h9) rfl dX4_goAlong_66 ?_
    refine lv_iload_n hx hb dX4_goAlong_69 rfl (lv_at hl 1 rfl) ?_
    refine lv_aload_n hx hb dX4_goAlong_70 rfl (lv_at hl 2 rfl) ?_
    refine va_get (D := D) (ci := 4) (v := .ref s6) (C := RX4) (T := TX4) (N := 9) hx hb hts gv_in_X4_goAlong_X4 hown hK hP 0 rfl rfl 5 (by decide) (hts (.fieldLink RX4 27 "Gravimere$Survey" "doubts" "[I") (by decide +kernel)) (fun _ h9 => h9) rfl dX4_goAlong_71 ?_
    refine lv_iload_n hx hb dX4_goAlong_74 rfl (lv_at hl 0 rfl) ?_
    refine gv_il hx hb hK hP 6 (k := sb k) rfl (by first | exact hsa _ | exact hsb _ | omega) (by decide) dX4_goAlong_75 ?_
    refine lv_aload_n hx hb dX4_goAlong_76 rfl (lv_at hl 2 rfl) ?_
    refine va_get (D := D) (ci := 4) (v := .ref s4) (C := RX4) (T := TX4) (N := 9) hx hb hts gv_in_X4_goAlong_X4 hown hK hP 0 rfl rfl 3 (by decide) (hts (.fieldLink RX4 21 "Gravimere$Survey" "lineDoubts" "[I") (by decide +kernel)) (fun _ h9 => h9) rfl dX4_goAlong_77 ?_
    refine lv_iload_n hx hb dX4_goAlong_80 rfl (lv_at hl 3 rfl) ?_
    refine gv_il hx hb hK hP 4 (k := k) rfl (by first | exact hsa _ | exact hsb _ | omega) (by decide) dX4_goAlong_81 ?_
    refine gv_wi (rfl) ?_
    refine lv_iadd hx hb dX4_goAlong_82 ?_
    refine gv_is hx hb hK hP hD hS 6 (k := sa k) rfl (by first | exact hsa _ | exact hsb _ | omega) (by decide) dX4_goAlong_83 (fun H locs hP hD hS => ?_)
    have hP : va_P D vwCl [(s0, .inr (4, [.ref s1, .ref s2, .ref s3, .ref s4, .ref s5, .ref s6, .ref s7, .int (nI bn), .int (nI ln)])), (s1, .inl (cI, 24, .inl (fun j => nI (sa j)))), (s2, .inl (cI, 24, .inl (fun j => nI (sb j)))), (s3, .inl (cI, 24, .inl sr)), (s4, .inl (cI, 24, .inl (fun j => nI (su j)))), (s5, .inl (cI, 10, .inl hh)), (s6, .inl (cI, 10, .inl (upd dd (sa k) ((dd (sb k)) + (nI (su k))))))] H := hP
    have hD : va_D A [(s0, .inr (4, [.ref s1, .ref s2, .ref s3, .ref s4, .ref s5, .ref s6, .ref s7, .int (nI bn), .int (nI ln)])), (s1, .inl (cI, 24, .inl (fun j => nI (sa j)))), (s2, .inl (cI, 24, .inl (fun j => nI (sb j)))), (s3, .inl (cI, 24, .inl sr)), (s4, .inl (cI, 24, .inl (fun j => nI (su j)))), (s5, .inl (cI, 10, .inl hh)), (s6, .inl (cI, 10, .inl (upd dd (sa k) ((dd (sb k)) + (nI (su k))))))] := hD
    refine lv_aload_n hx hb dX4_goAlong_84 rfl (lv_at hl 2 rfl) ?_
    refine va_get (D := D) (ci := 4) (v := .ref s5) (C := RX4) (T := TX4) (N := 9) hx hb hts gv_in_X4_goAlong_X4 hown hK hP 0 rfl rfl 4 (by decide) (hts (.fieldLink RX4 24 "Gravimere$Survey" "heights" "[I") (by decide +kernel)) (fun _ h9 => h9) rfl dX4_goAlong_85 ?_
    refine lv_iload_n hx hb dX4_goAlong_88 rfl (lv_at hl 1 rfl) ?_
    refine lv_aload_n hx hb dX4_goAlong_89 rfl (lv_at hl 2 rfl) ?_
    refine va_get (D := D) (ci := 4) (v := .ref s5) (C := RX4) (T := TX4) (N := 9) hx hb hts gv_in_X4_goAlong_X4 hown hK hP 0 rfl rfl 4 (by decide) (hts (.fieldLink RX4 24 "Gravimere$Survey" "heights" "[I") (by decide +kernel)) (fun _ h9 => h9) rfl dX4_goAlong_90 ?_
    refine lv_iload_n hx hb dX4_goAlong_93 rfl (lv_at hl 0 rfl) ?_
    refine gv_il hx hb hK hP 5 (k := sb k) rfl (by first | exact hsa _ | exact hsb _ | omega) (by decide) dX4_goAlong_94 ?_
    refine lv_aload_n hx hb dX4_goAlong_95 rfl (lv_at hl 2 rfl) ?_
    refine va_get (D := D) (ci := 4) (v := .ref s3) (C := RX4) (T := TX4) (N := 9) hx hb hts gv_in_X4_goAlong_X4 hown hK hP 0 rfl rfl 2 (by decide) (hts (.fieldLink RX4 18 "Gravimere$Survey" "rises" "[I") (by decide +kernel)) (fun _ h9 => h9) rfl dX4_goAlong_96 ?_
    refine lv_iload_n hx hb dX4_goAlong_99 rfl (lv_at hl 3 rfl) ?_
    refine gv_il hx hb hK hP 3 (k := k) rfl (by first | exact hsa _ | exact hsb _ | omega) (by decide) dX4_goAlong_100 ?_
    refine lv_isub hx hb dX4_goAlong_101 ?_
    refine gv_is hx hb hK hP hD hS 5 (k := sa k) rfl (by first | exact hsa _ | exact hsb _ | omega) (by decide) dX4_goAlong_102 (fun H locs hP hD hS => ?_)
    have hP : va_P D vwCl [(s0, .inr (4, [.ref s1, .ref s2, .ref s3, .ref s4, .ref s5, .ref s6, .ref s7, .int (nI bn), .int (nI ln)])), (s1, .inl (cI, 24, .inl (fun j => nI (sa j)))), (s2, .inl (cI, 24, .inl (fun j => nI (sb j)))), (s3, .inl (cI, 24, .inl sr)), (s4, .inl (cI, 24, .inl (fun j => nI (su j)))), (s5, .inl (cI, 10, .inl (upd hh (sa k) ((hh (sb k)) - (sr k))))), (s6, .inl (cI, 10, .inl (upd dd (sa k) ((dd (sb k)) + (nI (su k))))))] H := hP
    have hD : va_D A [(s0, .inr (4, [.ref s1, .ref s2, .ref s3, .ref s4, .ref s5, .ref s6, .ref s7, .int (nI bn), .int (nI ln)])), (s1, .inl (cI, 24, .inl (fun j => nI (sa j)))), (s2, .inl (cI, 24, .inl (fun j => nI (sb j)))), (s3, .inl (cI, 24, .inl sr)), (s4, .inl (cI, 24, .inl (fun j => nI (su j)))), (s5, .inl (cI, 10, .inl (upd hh (sa k) ((hh (sb k)) - (sr k))))), (s6, .inl (cI, 10, .inl (upd dd (sa k) ((dd (sb k)) + (nI (su k))))))] := hD
    have hpo : True := by
      trivial
    have hP9 : va_P D vwCl [(s0, .inr (4, [.ref s1, .ref s2, .ref s3, .ref s4, .ref s5, .ref s6, .ref s7, .int (nI bn), .int (nI ln)])), (s1, .inl (cI, 24, .inl (fun j => nI (sa j)))), (s2, .inl (cI, 24, .inl (fun j => nI (sb j)))), (s3, .inl (cI, 24, .inl sr)), (s4, .inl (cI, 24, .inl (fun j => nI (su j)))), (s5, .inl (cI, 10, .inl ((gv_stp sa sb su sr (dd, hh) k).2))), (s6, .inl (cI, 10, .inl ((gv_stp sa sb su sr (dd, hh) k).1)))] H := by unfold gv_stp; first | (rw [if_pos c_21]; exact hP) | (rw [if_neg c_21]; exact hP)
    have hD9 : va_D A [(s0, .inr (4, [.ref s1, .ref s2, .ref s3, .ref s4, .ref s5, .ref s6, .ref s7, .int (nI bn), .int (nI ln)])), (s1, .inl (cI, 24, .inl (fun j => nI (sa j)))), (s2, .inl (cI, 24, .inl (fun j => nI (sb j)))), (s3, .inl (cI, 24, .inl sr)), (s4, .inl (cI, 24, .inl (fun j => nI (su j)))), (s5, .inl (cI, 10, .inl ((gv_stp sa sb su sr (dd, hh) k).2))), (s6, .inl (cI, 10, .inl ((gv_stp sa sb su sr (dd, hh) k).1)))] := by unfold gv_stp; first | (rw [if_pos c_21]; exact hD) | (rw [if_neg c_21]; exact hD)
    exact W.vret hx hb hr (fun t9 ht9 hW9 => ⟨⟨(), rfl, hpo, by rw [ht9]; exact hP9, hD9⟩, hS.F ht9⟩) hS.2.2 dX4_goAlong_103
  · skip
    refine lv_aload_n hx hb dX4_goAlong_24 rfl (lv_at hl 2 rfl) ?_
    refine va_get (D := D) (ci := 4) (v := .ref s6) (C := RX4) (T := TX4) (N := 9) hx hb hts gv_in_X4_goAlong_X4 hown hK hP 0 rfl rfl 5 (by decide) (hts (.fieldLink RX4 27 "Gravimere$Survey" "doubts" "[I") (by decide +kernel)) (fun _ h9 => h9) rfl dX4_goAlong_25 ?_
    refine lv_iload_n hx hb dX4_goAlong_28 rfl (lv_at hl 0 rfl) ?_
    refine lv_aload_n hx hb dX4_goAlong_29 rfl (lv_at hl 2 rfl) ?_
    refine va_get (D := D) (ci := 4) (v := .ref s6) (C := RX4) (T := TX4) (N := 9) hx hb hts gv_in_X4_goAlong_X4 hown hK hP 0 rfl rfl 5 (by decide) (hts (.fieldLink RX4 27 "Gravimere$Survey" "doubts" "[I") (by decide +kernel)) (fun _ h9 => h9) rfl dX4_goAlong_30 ?_
    refine lv_iload_n hx hb dX4_goAlong_33 rfl (lv_at hl 1 rfl) ?_
    refine gv_il hx hb hK hP 6 (k := sa k) rfl (by first | exact hsa _ | exact hsb _ | omega) (by decide) dX4_goAlong_34 ?_
    refine lv_aload_n hx hb dX4_goAlong_35 rfl (lv_at hl 2 rfl) ?_
    refine va_get (D := D) (ci := 4) (v := .ref s4) (C := RX4) (T := TX4) (N := 9) hx hb hts gv_in_X4_goAlong_X4 hown hK hP 0 rfl rfl 3 (by decide) (hts (.fieldLink RX4 21 "Gravimere$Survey" "lineDoubts" "[I") (by decide +kernel)) (fun _ h9 => h9) rfl dX4_goAlong_36 ?_
    refine lv_iload_n hx hb dX4_goAlong_39 rfl (lv_at hl 3 rfl) ?_
    refine gv_il hx hb hK hP 4 (k := k) rfl (by first | exact hsa _ | exact hsb _ | omega) (by decide) dX4_goAlong_40 ?_
    refine gv_wi (rfl) ?_
    refine lv_iadd hx hb dX4_goAlong_41 ?_
    refine gv_is hx hb hK hP hD hS 6 (k := sb k) rfl (by first | exact hsa _ | exact hsb _ | omega) (by decide) dX4_goAlong_42 (fun H locs hP hD hS => ?_)
    have hP : va_P D vwCl [(s0, .inr (4, [.ref s1, .ref s2, .ref s3, .ref s4, .ref s5, .ref s6, .ref s7, .int (nI bn), .int (nI ln)])), (s1, .inl (cI, 24, .inl (fun j => nI (sa j)))), (s2, .inl (cI, 24, .inl (fun j => nI (sb j)))), (s3, .inl (cI, 24, .inl sr)), (s4, .inl (cI, 24, .inl (fun j => nI (su j)))), (s5, .inl (cI, 10, .inl hh)), (s6, .inl (cI, 10, .inl (upd dd (sb k) ((dd (sa k)) + (nI (su k))))))] H := hP
    have hD : va_D A [(s0, .inr (4, [.ref s1, .ref s2, .ref s3, .ref s4, .ref s5, .ref s6, .ref s7, .int (nI bn), .int (nI ln)])), (s1, .inl (cI, 24, .inl (fun j => nI (sa j)))), (s2, .inl (cI, 24, .inl (fun j => nI (sb j)))), (s3, .inl (cI, 24, .inl sr)), (s4, .inl (cI, 24, .inl (fun j => nI (su j)))), (s5, .inl (cI, 10, .inl hh)), (s6, .inl (cI, 10, .inl (upd dd (sb k) ((dd (sa k)) + (nI (su k))))))] := hD
    refine lv_aload_n hx hb dX4_goAlong_43 rfl (lv_at hl 2 rfl) ?_
    refine va_get (D := D) (ci := 4) (v := .ref s5) (C := RX4) (T := TX4) (N := 9) hx hb hts gv_in_X4_goAlong_X4 hown hK hP 0 rfl rfl 4 (by decide) (hts (.fieldLink RX4 24 "Gravimere$Survey" "heights" "[I") (by decide +kernel)) (fun _ h9 => h9) rfl dX4_goAlong_44 ?_
    refine lv_iload_n hx hb dX4_goAlong_47 rfl (lv_at hl 0 rfl) ?_
    refine lv_aload_n hx hb dX4_goAlong_48 rfl (lv_at hl 2 rfl) ?_
    refine va_get (D := D) (ci := 4) (v := .ref s5) (C := RX4) (T := TX4) (N := 9) hx hb hts gv_in_X4_goAlong_X4 hown hK hP 0 rfl rfl 4 (by decide) (hts (.fieldLink RX4 24 "Gravimere$Survey" "heights" "[I") (by decide +kernel)) (fun _ h9 => h9) rfl dX4_goAlong_49 ?_
    refine lv_iload_n hx hb dX4_goAlong_52 rfl (lv_at hl 1 rfl) ?_
    refine gv_il hx hb hK hP 5 (k := sa k) rfl (by first | exact hsa _ | exact hsb _ | omega) (by decide) dX4_goAlong_53 ?_
    refine lv_aload_n hx hb dX4_goAlong_54 rfl (lv_at hl 2 rfl) ?_
    refine va_get (D := D) (ci := 4) (v := .ref s3) (C := RX4) (T := TX4) (N := 9) hx hb hts gv_in_X4_goAlong_X4 hown hK hP 0 rfl rfl 2 (by decide) (hts (.fieldLink RX4 18 "Gravimere$Survey" "rises" "[I") (by decide +kernel)) (fun _ h9 => h9) rfl dX4_goAlong_55 ?_
    refine lv_iload_n hx hb dX4_goAlong_58 rfl (lv_at hl 3 rfl) ?_
    refine gv_il hx hb hK hP 3 (k := k) rfl (by first | exact hsa _ | exact hsb _ | omega) (by decide) dX4_goAlong_59 ?_
    refine lv_iadd hx hb dX4_goAlong_60 ?_
    refine gv_is hx hb hK hP hD hS 5 (k := sb k) rfl (by first | exact hsa _ | exact hsb _ | omega) (by decide) dX4_goAlong_61 (fun H locs hP hD hS => ?_)
    have hP : va_P D vwCl [(s0, .inr (4, [.ref s1, .ref s2, .ref s3, .ref s4, .ref s5, .ref s6, .ref s7, .int (nI bn), .int (nI ln)])), (s1, .inl (cI, 24, .inl (fun j => nI (sa j)))), (s2, .inl (cI, 24, .inl (fun j => nI (sb j)))), (s3, .inl (cI, 24, .inl sr)), (s4, .inl (cI, 24, .inl (fun j => nI (su j)))), (s5, .inl (cI, 10, .inl (upd hh (sb k) ((hh (sa k)) + (sr k))))), (s6, .inl (cI, 10, .inl (upd dd (sb k) ((dd (sa k)) + (nI (su k))))))] H := hP
    have hD : va_D A [(s0, .inr (4, [.ref s1, .ref s2, .ref s3, .ref s4, .ref s5, .ref s6, .ref s7, .int (nI bn), .int (nI ln)])), (s1, .inl (cI, 24, .inl (fun j => nI (sa j)))), (s2, .inl (cI, 24, .inl (fun j => nI (sb j)))), (s3, .inl (cI, 24, .inl sr)), (s4, .inl (cI, 24, .inl (fun j => nI (su j)))), (s5, .inl (cI, 10, .inl (upd hh (sb k) ((hh (sa k)) + (sr k))))), (s6, .inl (cI, 10, .inl (upd dd (sb k) ((dd (sa k)) + (nI (su k))))))] := hD
    refine lv_goto (tgt := 103) hx hb dX4_goAlong_62 (by decide) ?_
    have hpo : True := by
      trivial
    have hP9 : va_P D vwCl [(s0, .inr (4, [.ref s1, .ref s2, .ref s3, .ref s4, .ref s5, .ref s6, .ref s7, .int (nI bn), .int (nI ln)])), (s1, .inl (cI, 24, .inl (fun j => nI (sa j)))), (s2, .inl (cI, 24, .inl (fun j => nI (sb j)))), (s3, .inl (cI, 24, .inl sr)), (s4, .inl (cI, 24, .inl (fun j => nI (su j)))), (s5, .inl (cI, 10, .inl ((gv_stp sa sb su sr (dd, hh) k).2))), (s6, .inl (cI, 10, .inl ((gv_stp sa sb su sr (dd, hh) k).1)))] H := by unfold gv_stp; first | (rw [if_pos c_21]; exact hP) | (rw [if_neg c_21]; exact hP)
    have hD9 : va_D A [(s0, .inr (4, [.ref s1, .ref s2, .ref s3, .ref s4, .ref s5, .ref s6, .ref s7, .int (nI bn), .int (nI ln)])), (s1, .inl (cI, 24, .inl (fun j => nI (sa j)))), (s2, .inl (cI, 24, .inl (fun j => nI (sb j)))), (s3, .inl (cI, 24, .inl sr)), (s4, .inl (cI, 24, .inl (fun j => nI (su j)))), (s5, .inl (cI, 10, .inl ((gv_stp sa sb su sr (dd, hh) k).2))), (s6, .inl (cI, 10, .inl ((gv_stp sa sb su sr (dd, hh) k).1)))] := by unfold gv_stp; first | (rw [if_pos c_21]; exact hD) | (rw [if_neg c_21]; exact hD)
    exact W.vret hx hb hr (fun t9 ht9 hW9 => ⟨⟨(), rfl, hpo, by rw [ht9]; exact hP9, hD9⟩, hS.F ht9⟩) hS.2.2 dX4_goAlong_103
end
section
theorem gv_in_X4_findHeights_X4 : ∀ w ∈ wsX40, w ∈ wsX4_findHeights := by decide +kernel
theorem gv_in_X4_contradicts_X4 : ∀ w ∈ wsX40, w ∈ wsX4_contradicts := by decide +kernel
theorem gv_in_X4_makesLess_X4 : ∀ w ∈ wsX40, w ∈ wsX4_makesLess := by decide +kernel
theorem gv_in_X4_tryEachLine_X4 : ∀ w ∈ wsX40, w ∈ wsX4_tryEachLine := by decide +kernel
theorem gv_in_X4_tryAllLines_X4 : ∀ w ∈ wsX40, w ∈ wsX4_tryAllLines := by decide +kernel
set_option maxHeartbeats 4000000 in
set_option maxRecDepth 100000 in
theorem ct_X4_findHeights (l : Launch) (D : va_G) (cI cJ : ClassId) (sz : Nat) (s0 s1 s2 s3 s4 s5 s6 s7 bn ln : Nat) (sa sb su : Nat → Nat) (sr dd hh : Nat → Int32) (hsa : ∀ j, sa j < 10) (hsb : ∀ j, sb j < 10) (hln : ln ≤ 24) (hbn : bn ≤ 10) : Met l yX4_findHeights wsX4_findHeights ({ frames := 2, cells := 0, slots := 0, locals := 47 }) (va_Pc [.ref s0] (gv_B D cI cJ [(s0, .inr (4, [.ref s1, .ref s2, .ref s3, .ref s4, .ref s5, .ref s6, .ref s7, .int (nI bn), .int (nI ln)])), (s1, .inl (cI, 24, .inl (fun j => nI (sa j)))), (s2, .inl (cI, 24, .inl (fun j => nI (sb j)))), (s3, .inl (cI, 24, .inl sr)), (s4, .inl (cI, 24, .inl (fun j => nI (su j)))), (s5, .inl (cI, 10, .inl hh)), (s6, .inl (cI, 10, .inl dd))] sz)) (va_Qv (fun (u9 : Unit) => True) (fun (u9 : Unit) t9 =>  gv_W D (va_A [(s0, .inr (4, [.ref s1, .ref s2, .ref s3, .ref s4, .ref s5, .ref s6, .ref s7, .int (nI bn), .int (nI ln)])), (s1, .inl (cI, 24, .inl (fun j => nI (sa j)))), (s2, .inl (cI, 24, .inl (fun j => nI (sb j)))), (s3, .inl (cI, 24, .inl sr)), (s4, .inl (cI, 24, .inl (fun j => nI (su j)))), (s5, .inl (cI, 10, .inl hh)), (s6, .inl (cI, 10, .inl dd))] sz) [(s0, .inr (4, [.ref s1, .ref s2, .ref s3, .ref s4, .ref s5, .ref s6, .ref s7, .int (nI bn), .int (nI ln)])), (s1, .inl (cI, 24, .inl (fun j => nI (sa j)))), (s2, .inl (cI, 24, .inl (fun j => nI (sb j)))), (s3, .inl (cI, 24, .inl sr)), (s4, .inl (cI, 24, .inl (fun j => nI (su j)))), (s5, .inl (cI, 10, .inl ((gv_itr sa sb su sr ln (bn - 1) (gv_ko dd, upd hh 0 (nI 0))).2))), (s6, .inl (cI, 10, .inl ((gv_itr sa sb su sr ln (bn - 1) (gv_ko dd, upd hh 0 (nI 0))).1)))] t9) (va_A [(s0, .inr (4, [.ref s1, .ref s2, .ref s3, .ref s4, .ref s5, .ref s6, .ref s7, .int (nI bn), .int (nI ln)])), (s1, .inl (cI, 24, .inl (fun j => nI (sa j)))), (s2, .inl (cI, 24, .inl (fun j => nI (sb j)))), (s3, .inl (cI, 24, .inl sr)), (s4, .inl (cI, 24, .inl (fun j => nI (su j)))), (s5, .inl (cI, 10, .inl hh)), (s6, .inl (cI, 10, .inl dd))] sz)) 0 0 (va_A [(s0, .inr (4, [.ref s1, .ref s2, .ref s3, .ref s4, .ref s5, .ref s6, .ref s7, .int (nI bn), .int (nI ln)])), (s1, .inl (cI, 24, .inl (fun j => nI (sa j)))), (s2, .inl (cI, 24, .inl (fun j => nI (sb j)))), (s3, .inl (cI, 24, .inl sr)), (s4, .inl (cI, 24, .inl (fun j => nI (su j)))), (s5, .inl (cI, 10, .inl hh)), (s6, .inl (cI, 10, .inl dd))] sz) := by
  refine Met.ofW (cc := cX4_findHeights) (maxL := 3) (ret := none) (by decide) rfl ?_
  intro p e s m args below meth c s₁ B hml hv
  obtain ⟨rfl, hsz, hP, hK, hD0, hG⟩ := hv
  have hx := B.exec
  have hb := B.bytes
  have hr := B.returns
  have hts := atoms_spec (ws := wsX4_findHeights) B.pre
  have hown : s.vm.findClass RX4 = some m.cls := findClass_of_methodNamed B.named
  have hlocks := B.notSynchronized
  subst hsz
  have hD := hD0.self (sz := s.heap.size)
  generalize hAe : va_A [(s0, .inr (4, [.ref s1, .ref s2, .ref s3, .ref s4, .ref s5, .ref s6, .ref s7, .int (nI bn), .int (nI ln)])), (s1, .inl (cI, 24, .inl (fun j => nI (sa j)))), (s2, .inl (cI, 24, .inl (fun j => nI (sb j)))), (s3, .inl (cI, 24, .inl sr)), (s4, .inl (cI, 24, .inl (fun j => nI (su j)))), (s5, .inl (cI, 10, .inl hh)), (s6, .inl (cI, 10, .inl dd))] s.heap.size = A at hD ⊢
  have hA : ∀ q : Nat, s.heap.size ≤ q → A q := fun q h => by rw [← hAe]; exact Or.inr h
  have hS : va_S A s.heap s.heap [] := va_S.rf
  have hP : va_P D vwCl [(s0, .inr (4, [.ref s1, .ref s2, .ref s3, .ref s4, .ref s5, .ref s6, .ref s7, .int (nI bn), .int (nI ln)])), (s1, .inl (cI, 24, .inl (fun j => nI (sa j)))), (s2, .inl (cI, 24, .inl (fun j => nI (sb j)))), (s3, .inl (cI, 24, .inl sr)), (s4, .inl (cI, 24, .inl (fun j => nI (su j)))), (s5, .inl (cI, 10, .inl hh)), (s6, .inl (cI, 10, .inl dd))] s.heap := hP
  have hl := lv_entry ([.ref s0]) (n := 3) (Nat.le_of_ble_eq_true rfl)
  rw [lg_entry_eq]
  generalize (lg_sl ([.ref s0]) ++ List.replicate (3 - (lg_sl ([.ref s0])).length) Slot.unset).toArray = ls at hl ⊢
  have hl : lv_has ls 3 [(0, .ref s0)] := hl
  refine lv_aload_n hx hb dX4_findHeights_0 rfl (lv_at hl 0 rfl) ?_
  refine va_get (D := D) (ci := 4) (v := .ref s6) (C := RX4) (T := TX4) (N := 9) hx hb hts gv_in_X4_findHeights_X4 hown hK hP 0 rfl rfl 5 (by decide) (hts (.fieldLink RX4 27 "Gravimere$Survey" "doubts" "[I") (by decide +kernel)) (fun _ h9 => h9) rfl dX4_findHeights_1 ?_
  refine gv_mv (wc := [(s6, .inl (cI, 10, .inl dd))]) (wr := [(s0, .inr (4, [.ref s1, .ref s2, .ref s3, .ref s4, .ref s5, .ref s6, .ref s7, .int (nI bn), .int (nI ln)])), (s1, .inl (cI, 24, .inl (fun j => nI (sa j)))), (s2, .inl (cI, 24, .inl (fun j => nI (sb j)))), (s3, .inl (cI, 24, .inl sr)), (s4, .inl (cI, 24, .inl (fun j => nI (su j)))), (s5, .inl (cI, 10, .inl hh))]) (w2 := (fun u => [(s0, .inr (4, [.ref s1, .ref s2, .ref s3, .ref s4, .ref s5, .ref s6, .ref s7, .int (nI bn), .int (nI ln)])), (s1, .inl (cI, 24, .inl (fun j => nI (sa j)))), (s2, .inl (cI, 24, .inl (fun j => nI (sb j)))), (s3, .inl (cI, 24, .inl sr)), (s4, .inl (cI, 24, .inl (fun j => nI (su j)))), (s5, .inl (cI, 10, .inl hh)), (s6, .inl (cI, 10, .inl (gv_ko dd)))])) (va_runS (As := [.ref s6]) (rest := []) ⟨hx, hb, hml, hown, hts⟩ (ct_X4_knowOnlyFirst l D cI cJ s.heap.size s6 dd) (va_cwS 1 hts gX4_findHeights_X4_knowOnlyFirst rfl rfl rfl (by decide +kernel) ⟨Nat.le_of_ble_eq_true rfl, Nat.le_of_ble_eq_true rfl⟩) (gv_pS (wc := [(s6, .inl (cI, 10, .inl dd))]) hP hK hD hG [6] rfl (by decide)) rfl rfl hl.1 rfl (lv_room (Nat.le_of_ble_eq_true rfl)) dX4_findHeights_4 ⟨Nat.le_of_ble_eq_true rfl, Nat.le_of_ble_eq_true rfl⟩) hP hD hS hA [6] [0, 1, 2, 3, 4, 5] [0, 1, 2, 3, 4, 5, 6] rfl rfl (by decide) (by decide) (fun u => rfl) (by decide) (fun u H locs hr_2 hP hD hS => ?_)
  have hP : va_P D vwCl [(s0, .inr (4, [.ref s1, .ref s2, .ref s3, .ref s4, .ref s5, .ref s6, .ref s7, .int (nI bn), .int (nI ln)])), (s1, .inl (cI, 24, .inl (fun j => nI (sa j)))), (s2, .inl (cI, 24, .inl (fun j => nI (sb j)))), (s3, .inl (cI, 24, .inl sr)), (s4, .inl (cI, 24, .inl (fun j => nI (su j)))), (s5, .inl (cI, 10, .inl hh)), (s6, .inl (cI, 10, .inl (gv_ko dd)))] H := hP
  have hD : va_D A [(s0, .inr (4, [.ref s1, .ref s2, .ref s3, .ref s4, .ref s5, .ref s6, .ref s7, .int (nI bn), .int (nI ln)])), (s1, .inl (cI, 24, .inl (fun j => nI (sa j)))), (s2, .inl (cI, 24, .inl (fun j => nI (sb j)))), (s3, .inl (cI, 24, .inl sr)), (s4, .inl (cI, 24, .inl (fun j => nI (su j)))), (s5, .inl (cI, 10, .inl hh)), (s6, .inl (cI, 10, .inl (gv_ko dd)))] := hD
  refine lv_aload_n hx hb dX4_findHeights_7 rfl (lv_at hl 0 rfl) ?_
  refine va_get (D := D) (ci := 4) (v := .ref s5) (C := RX4) (T := TX4) (N := 9) hx hb hts gv_in_X4_findHeights_X4 hown hK hP 0 rfl rfl 4 (by decide) (hts (.fieldLink RX4 24 "Gravimere$Survey" "heights" "[I") (by decide +kernel)) (fun _ h9 => h9) rfl dX4_findHeights_8 ?_
  refine lv_iconst (v := nI 0) hx hb dX4_findHeights_11 (by decide) ?_
  refine lv_iconst (v := nI 0) hx hb dX4_findHeights_12 (by decide) ?_
  refine gv_is hx hb hK hP hD hS 5 (k := 0) rfl (by first | exact hsa _ | exact hsb _ | omega) (by decide) dX4_findHeights_13 (fun H locs hP hD hS => ?_)
  have hP : va_P D vwCl [(s0, .inr (4, [.ref s1, .ref s2, .ref s3, .ref s4, .ref s5, .ref s6, .ref s7, .int (nI bn), .int (nI ln)])), (s1, .inl (cI, 24, .inl (fun j => nI (sa j)))), (s2, .inl (cI, 24, .inl (fun j => nI (sb j)))), (s3, .inl (cI, 24, .inl sr)), (s4, .inl (cI, 24, .inl (fun j => nI (su j)))), (s5, .inl (cI, 10, .inl (upd hh 0 (nI 0)))), (s6, .inl (cI, 10, .inl (gv_ko dd)))] H := hP
  have hD : va_D A [(s0, .inr (4, [.ref s1, .ref s2, .ref s3, .ref s4, .ref s5, .ref s6, .ref s7, .int (nI bn), .int (nI ln)])), (s1, .inl (cI, 24, .inl (fun j => nI (sa j)))), (s2, .inl (cI, 24, .inl (fun j => nI (sb j)))), (s3, .inl (cI, 24, .inl sr)), (s4, .inl (cI, 24, .inl (fun j => nI (su j)))), (s5, .inl (cI, 10, .inl (upd hh 0 (nI 0)))), (s6, .inl (cI, 10, .inl (gv_ko dd)))] := hD
  refine lv_iconst (v := nI 1) hx hb dX4_findHeights_14 (by decide) ?_
  refine lv_istore_n (lv' := [(1, .int (nI 1)), (0, .ref s0)]) hx hb dX4_findHeights_15 rfl hl (by decide) rfl (fun ls hl => ?_)
  refine gv_lm (σ := Nat × (Nat → Int32) × (Nat → Int32)) (fun zq H locs ls => match zq with | (fo, d, h) => 1 ≤ fo ∧ fo ≤ 11 ∧ gv_itr sa sb su sr ln (bn - fo) (d, h) = gv_itr sa sb su sr ln (bn - 1) (gv_ko dd, upd hh 0 (nI 0)) ∧ va_P D vwCl [(s0, .inr (4, [.ref s1, .ref s2, .ref s3, .ref s4, .ref s5, .ref s6, .ref s7, .int (nI bn), .int (nI ln)])), (s1, .inl (cI, 24, .inl (fun j => nI (sa j)))), (s2, .inl (cI, 24, .inl (fun j => nI (sb j)))), (s3, .inl (cI, 24, .inl sr)), (s4, .inl (cI, 24, .inl (fun j => nI (su j)))), (s5, .inl (cI, 10, .inl h)), (s6, .inl (cI, 10, .inl d))] H ∧ va_D A [(s0, .inr (4, [.ref s1, .ref s2, .ref s3, .ref s4, .ref s5, .ref s6, .ref s7, .int (nI bn), .int (nI ln)])), (s1, .inl (cI, 24, .inl (fun j => nI (sa j)))), (s2, .inl (cI, 24, .inl (fun j => nI (sb j)))), (s3, .inl (cI, 24, .inl sr)), (s4, .inl (cI, 24, .inl (fun j => nI (su j)))), (s5, .inl (cI, 10, .inl h)), (s6, .inl (cI, 10, .inl d))] ∧ va_S A s.heap H locs ∧ lv_has ls 3 [(0, .ref s0), (1, .int (nI fo))]) (fun zq => match zq with | (fo, d, h) => bn - fo) (1, gv_ko dd, upd hh 0 (nI 0)) ⟨by omega, by omega, rfl, hP, hD, hS, lv_sub hl [1, 0] rfl⟩ (fun zq H locs ls hI ih_16 => ?_)
  obtain ⟨fo, d, h⟩ := zq
  obtain ⟨hfo, hfo2, hit, hP, hD, hS, hl⟩ := hI
  have hfoL : 1 ≤ fo := hfo
  refine lv_iload_n hx hb dX4_findHeights_16 rfl (lv_at hl 1 rfl) ?_
  refine lv_aload_n hx hb dX4_findHeights_17 rfl (lv_at hl 0 rfl) ?_
  refine va_get (D := D) (ci := 4) (v := .int (nI bn)) (C := RX4) (T := TX4) (N := 9) hx hb hts gv_in_X4_findHeights_X4 hown hK hP 0 rfl rfl 7 (by decide) (hts (.fieldLink RX4 33 "Gravimere$Survey" "benchmarks" "I") (by decide +kernel)) (fun _ h9 => h9) rfl dX4_findHeights_18 ?_
  refine lv_icmp_ge (tgt := 46) hx hb dX4_findHeights_21 (by decide) (fun c_21 => ?_) (fun c_21 => ?_)
  · skip
    have c_21 := (nI_leI (a := bn) (b := fo) (by omega) (by omega)).mp c_21
    have hpo : True := by
      trivial
    have hP9 : va_P D vwCl [(s0, .inr (4, [.ref s1, .ref s2, .ref s3, .ref s4, .ref s5, .ref s6, .ref s7, .int (nI bn), .int (nI ln)])), (s1, .inl (cI, 24, .inl (fun j => nI (sa j)))), (s2, .inl (cI, 24, .inl (fun j => nI (sb j)))), (s3, .inl (cI, 24, .inl sr)), (s4, .inl (cI, 24, .inl (fun j => nI (su j)))), (s5, .inl (cI, 10, .inl ((gv_itr sa sb su sr ln (bn - 1) (gv_ko dd, upd hh 0 (nI 0))).2))), (s6, .inl (cI, 10, .inl ((gv_itr sa sb su sr ln (bn - 1) (gv_ko dd, upd hh 0 (nI 0))).1)))] H := by rw [← hit, show bn - fo = 0 by omega]; exact hP
    have hD9 : va_D A [(s0, .inr (4, [.ref s1, .ref s2, .ref s3, .ref s4, .ref s5, .ref s6, .ref s7, .int (nI bn), .int (nI ln)])), (s1, .inl (cI, 24, .inl (fun j => nI (sa j)))), (s2, .inl (cI, 24, .inl (fun j => nI (sb j)))), (s3, .inl (cI, 24, .inl sr)), (s4, .inl (cI, 24, .inl (fun j => nI (su j)))), (s5, .inl (cI, 10, .inl ((gv_itr sa sb su sr ln (bn - 1) (gv_ko dd, upd hh 0 (nI 0))).2))), (s6, .inl (cI, 10, .inl ((gv_itr sa sb su sr ln (bn - 1) (gv_ko dd, upd hh 0 (nI 0))).1)))] := by rw [← hit, show bn - fo = 0 by omega]; exact hD
    exact W.vret hx hb hr (fun t9 ht9 hW9 => ⟨⟨(), rfl, hpo, by rw [ht9]; exact hP9, hD9⟩, hS.F ht9⟩) hS.2.2 dX4_findHeights_46
  · skip
    have c_21 := (not_congr (nI_leI (a := bn) (b := fo) (by omega) (by omega))).mp c_21
    refine lv_aload_n hx hb dX4_findHeights_24 rfl (lv_at hl 0 rfl) ?_
    refine gv_pi (va_runV (As := []) (rest := []) ⟨hx, hb, hml, hown, hts⟩ (ct_X4_surestLine l D cI cJ H.size s0 s1 s2 s3 s4 s5 s6 s7 bn ln sa sb su d hsa hsb hln) (cwV 0 hts gX4_findHeights_X4_surestLine rfl rfl rfl (by decide +kernel) ⟨Nat.le_of_ble_eq_true rfl, Nat.le_of_ble_eq_true rfl⟩) (gv_pV (wc := [(s0, .inr (4, [.ref s1, .ref s2, .ref s3, .ref s4, .ref s5, .ref s6, .ref s7, .int (nI bn), .int (nI ln)])), (s1, .inl (cI, 24, .inl (fun j => nI (sa j)))), (s2, .inl (cI, 24, .inl (fun j => nI (sb j)))), (s4, .inl (cI, 24, .inl (fun j => nI (su j)))), (s6, .inl (cI, 10, .inl d))]) hP hK hD hG [0, 1, 2, 4, 6] rfl (by decide) 0 rfl rfl rfl) rfl rfl hl.1 rfl (lv_room (Nat.le_of_ble_eq_true rfl)) dX4_findHeights_25 ⟨Nat.le_of_ble_eq_true rfl, Nat.le_of_ble_eq_true rfl⟩) (fun sl hsl => ?_)
    refine lv_istore_n (lv' := [(2, .int sl), (0, .ref s0), (1, .int (nI fo))]) hx hb dX4_findHeights_28 rfl hl (by decide) rfl (fun ls hl => ?_)
    refine lv_iload_n hx hb dX4_findHeights_29 rfl (lv_at hl 0 rfl) ?_
    refine lv_iconst (v := -1) hx hb dX4_findHeights_30 (by decide) ?_
    refine lv_icmp_ne (tgt := 35) hx hb dX4_findHeights_31 (by decide) (fun c_31 => ?_) (fun c_31 => ?_)
    · skip
      obtain ⟨j, hj, ej, -⟩ := gv_srl_n hln (by rw [← hsl]; exact c_31)
      have hsl2 : sl = nI j := hsl.trans (by rw [ej])
      have hgo := gv_itr_go (sr := sr) (q := (d, h)) (i := bn - fo) (j := bn - (fo + 1)) (k := j) (by omega) (by omega) (by rw [← hsl]; exact c_31) (by rw [ej])
      subst hsl2
      refine lv_aload_n hx hb dX4_findHeights_35 rfl (lv_at hl 1 rfl) ?_
      refine lv_iload_n hx hb dX4_findHeights_36 rfl (lv_at hl 0 rfl) ?_
      refine gv_mv (wc := [(s0, .inr (4, [.ref s1, .ref s2, .ref s3, .ref s4, .ref s5, .ref s6, .ref s7, .int (nI bn), .int (nI ln)])), (s1, .inl (cI, 24, .inl (fun j => nI (sa j)))), (s2, .inl (cI, 24, .inl (fun j => nI (sb j)))), (s3, .inl (cI, 24, .inl sr)), (s4, .inl (cI, 24, .inl (fun j => nI (su j)))), (s5, .inl (cI, 10, .inl h)), (s6, .inl (cI, 10, .inl d))]) (wr := []) (w2 := (fun u => [(s0, .inr (4, [.ref s1, .ref s2, .ref s3, .ref s4, .ref s5, .ref s6, .ref s7, .int (nI bn), .int (nI ln)])), (s1, .inl (cI, 24, .inl (fun j => nI (sa j)))), (s2, .inl (cI, 24, .inl (fun j => nI (sb j)))), (s3, .inl (cI, 24, .inl sr)), (s4, .inl (cI, 24, .inl (fun j => nI (su j)))), (s5, .inl (cI, 10, .inl ((gv_stp sa sb su sr (d, h) j).2))), (s6, .inl (cI, 10, .inl ((gv_stp sa sb su sr (d, h) j).1)))])) (va_runV (As := [.int (nI j)]) (rest := []) ⟨hx, hb, hml, hown, hts⟩ (ct_X4_goAlong l D cI cJ H.size s0 s1 s2 s3 s4 s5 s6 s7 bn ln sa sb su sr d h j hsa hsb (by omega)) (cwV 1 hts gX4_findHeights_X4_goAlong rfl rfl rfl (by decide +kernel) ⟨Nat.le_of_ble_eq_true rfl, Nat.le_of_ble_eq_true rfl⟩) (gv_pV (wc := [(s0, .inr (4, [.ref s1, .ref s2, .ref s3, .ref s4, .ref s5, .ref s6, .ref s7, .int (nI bn), .int (nI ln)])), (s1, .inl (cI, 24, .inl (fun j => nI (sa j)))), (s2, .inl (cI, 24, .inl (fun j => nI (sb j)))), (s3, .inl (cI, 24, .inl sr)), (s4, .inl (cI, 24, .inl (fun j => nI (su j)))), (s5, .inl (cI, 10, .inl h)), (s6, .inl (cI, 10, .inl d))]) hP hK hD hG [0, 1, 2, 3, 4, 5, 6] rfl (by decide) 0 rfl rfl rfl) rfl rfl hl.1 rfl (lv_room (Nat.le_of_ble_eq_true rfl)) dX4_findHeights_37 ⟨Nat.le_of_ble_eq_true rfl, Nat.le_of_ble_eq_true rfl⟩) hP hD hS hA [0, 1, 2, 3, 4, 5, 6] [] [0, 1, 2, 3, 4, 5, 6] rfl rfl (by decide) (by decide) (fun u => rfl) (by decide) (fun u H locs hr_4 hP hD hS => ?_)
      have hP : va_P D vwCl [(s0, .inr (4, [.ref s1, .ref s2, .ref s3, .ref s4, .ref s5, .ref s6, .ref s7, .int (nI bn), .int (nI ln)])), (s1, .inl (cI, 24, .inl (fun j => nI (sa j)))), (s2, .inl (cI, 24, .inl (fun j => nI (sb j)))), (s3, .inl (cI, 24, .inl sr)), (s4, .inl (cI, 24, .inl (fun j => nI (su j)))), (s5, .inl (cI, 10, .inl ((gv_stp sa sb su sr (d, h) j).2))), (s6, .inl (cI, 10, .inl ((gv_stp sa sb su sr (d, h) j).1)))] H := hP
      have hD : va_D A [(s0, .inr (4, [.ref s1, .ref s2, .ref s3, .ref s4, .ref s5, .ref s6, .ref s7, .int (nI bn), .int (nI ln)])), (s1, .inl (cI, 24, .inl (fun j => nI (sa j)))), (s2, .inl (cI, 24, .inl (fun j => nI (sb j)))), (s3, .inl (cI, 24, .inl sr)), (s4, .inl (cI, 24, .inl (fun j => nI (su j)))), (s5, .inl (cI, 10, .inl ((gv_stp sa sb su sr (d, h) j).2))), (s6, .inl (cI, 10, .inl ((gv_stp sa sb su sr (d, h) j).1)))] := hD
      refine lv_iinc (v := nI (fo + 1)) (lv' := [(1, .int (nI (fo + 1))), (2, .int (nI j)), (0, .ref s0)]) hx hb dX4_findHeights_40 hl (k := 2) rfl (nI_add fo 1) (by decide) rfl (fun ls hl => ?_)
      refine lv_goto (tgt := 16) hx hb dX4_findHeights_43 (by decide) ?_
      exact ih_16 (fo + 1, (gv_stp sa sb su sr (d, h) j).1, (gv_stp sa sb su sr (d, h) j).2) _ _ _ ⟨by omega, by omega, by rw [← hit, hgo], hP, hD, hS, lv_sub hl [2, 0] rfl⟩ (by simp only; omega)
    · skip
      have hpo : True := by
        trivial
      have hP9 : va_P D vwCl [(s0, .inr (4, [.ref s1, .ref s2, .ref s3, .ref s4, .ref s5, .ref s6, .ref s7, .int (nI bn), .int (nI ln)])), (s1, .inl (cI, 24, .inl (fun j => nI (sa j)))), (s2, .inl (cI, 24, .inl (fun j => nI (sb j)))), (s3, .inl (cI, 24, .inl sr)), (s4, .inl (cI, 24, .inl (fun j => nI (su j)))), (s5, .inl (cI, 10, .inl ((gv_itr sa sb su sr ln (bn - 1) (gv_ko dd, upd hh 0 (nI 0))).2))), (s6, .inl (cI, 10, .inl ((gv_itr sa sb su sr ln (bn - 1) (gv_ko dd, upd hh 0 (nI 0))).1)))] H := by rw [← hit, gv_itr_no (hsl.symm.trans c_31)]; exact hP
      have hD9 : va_D A [(s0, .inr (4, [.ref s1, .ref s2, .ref s3, .ref s4, .ref s5, .ref s6, .ref s7, .int (nI bn), .int (nI ln)])), (s1, .inl (cI, 24, .inl (fun j => nI (sa j)))), (s2, .inl (cI, 24, .inl (fun j => nI (sb j)))), (s3, .inl (cI, 24, .inl sr)), (s4, .inl (cI, 24, .inl (fun j => nI (su j)))), (s5, .inl (cI, 10, .inl ((gv_itr sa sb su sr ln (bn - 1) (gv_ko dd, upd hh 0 (nI 0))).2))), (s6, .inl (cI, 10, .inl ((gv_itr sa sb su sr ln (bn - 1) (gv_ko dd, upd hh 0 (nI 0))).1)))] := by rw [← hit, gv_itr_no (hsl.symm.trans c_31)]; exact hD
      exact W.vret hx hb hr (fun t9 ht9 hW9 => ⟨⟨(), rfl, hpo, by rw [ht9]; exact hP9, hD9⟩, hS.F ht9⟩) hS.2.2 dX4_findHeights_34
set_option maxHeartbeats 4000000 in
set_option maxRecDepth 100000 in
theorem ct_X4_contradicts (l : Launch) (D : va_G) (cI cJ : ClassId) (sz : Nat) (s0 s1 s2 s3 s4 s5 s6 s7 bn ln : Nat) (sa sb su : Nat → Nat) (sr dd hh : Nat → Int32) (k : Nat) (hsa : ∀ j, sa j < 10) (hsb : ∀ j, sb j < 10) (hk : k < 24) : Met l yX4_contradicts wsX4_contradicts ({ frames := 1, cells := 0, slots := 0, locals := 30 }) (va_Pc [.ref s0, .int (nI k)] (gv_B D cI cJ [(s0, .inr (4, [.ref s1, .ref s2, .ref s3, .ref s4, .ref s5, .ref s6, .ref s7, .int (nI bn), .int (nI ln)])), (s1, .inl (cI, 24, .inl (fun j => nI (sa j)))), (s2, .inl (cI, 24, .inl (fun j => nI (sb j)))), (s3, .inl (cI, 24, .inl sr)), (s4, .inl (cI, 24, .inl (fun j => nI (su j)))), (s5, .inl (cI, 10, .inl hh)), (s6, .inl (cI, 10, .inl dd))] sz)) (vp_Si (fun r9 : Int32 => (gv_con sa sb su sr dd hh k → r9 = nI 1) ∧ (¬ gv_con sa sb su sr dd hh k → r9 = nI 0))) 0 0 (fun _ => False) := by
  refine Met.ofW (cc := cX4_contradicts) (maxL := 5) (ret := (some .boolean)) (by decide) rfl ?_
  intro p e s m args below meth c s₁ B hml hv
  obtain ⟨rfl, hsz, hP, hK, hD0, hG⟩ := hv
  have hx := B.exec
  have hb := B.bytes
  have hr := B.returns
  have hts := atoms_spec (ws := wsX4_contradicts) B.pre
  have hown : s.vm.findClass RX4 = some m.cls := findClass_of_methodNamed B.named
  have hlocks := B.notSynchronized
  subst hsz
  have hD := hD0
  have hP : va_P D vwCl [(s0, .inr (4, [.ref s1, .ref s2, .ref s3, .ref s4, .ref s5, .ref s6, .ref s7, .int (nI bn), .int (nI ln)])), (s1, .inl (cI, 24, .inl (fun j => nI (sa j)))), (s2, .inl (cI, 24, .inl (fun j => nI (sb j)))), (s3, .inl (cI, 24, .inl sr)), (s4, .inl (cI, 24, .inl (fun j => nI (su j)))), (s5, .inl (cI, 10, .inl hh)), (s6, .inl (cI, 10, .inl dd))] s.heap := hP
  have hl := lv_entry ([.ref s0, .int (nI k)]) (n := 5) (Nat.le_of_ble_eq_true rfl)
  rw [lg_entry_eq]
  generalize (lg_sl ([.ref s0, .int (nI k)]) ++ List.replicate (5 - (lg_sl ([.ref s0, .int (nI k)])).length) Slot.unset).toArray = ls at hl ⊢
  have hl : lv_has ls 5 [(0, .ref s0), (1, .int (nI k))] := hl
  refine lv_aload_n hx hb dX4_contradicts_0 rfl (lv_at hl 0 rfl) ?_
  refine va_get (D := D) (ci := 4) (v := .ref s1) (C := RX4) (T := TX4) (N := 9) hx hb hts gv_in_X4_contradicts_X4 hown hK hP 0 rfl rfl 0 (by decide) (hts (.fieldLink RX4 9 "Gravimere$Survey" "starts" "[I") (by decide +kernel)) (fun _ h9 => h9) rfl dX4_contradicts_1 ?_
  refine lv_iload_n hx hb dX4_contradicts_4 rfl (lv_at hl 1 rfl) ?_
  refine gv_il hx hb hK hP 1 (k := k) rfl (by first | exact hsa _ | exact hsb _ | omega) (by decide) dX4_contradicts_5 ?_
  refine gv_wi (rfl) ?_
  refine lv_istore_n (lv' := [(2, .int (nI (sa k))), (0, .ref s0), (1, .int (nI k))]) hx hb dX4_contradicts_6 rfl hl (by decide) rfl (fun ls hl => ?_)
  refine lv_aload_n hx hb dX4_contradicts_7 rfl (lv_at hl 1 rfl) ?_
  refine va_get (D := D) (ci := 4) (v := .ref s2) (C := RX4) (T := TX4) (N := 9) hx hb hts gv_in_X4_contradicts_X4 hown hK hP 0 rfl rfl 1 (by decide) (hts (.fieldLink RX4 15 "Gravimere$Survey" "ends" "[I") (by decide +kernel)) (fun _ h9 => h9) rfl dX4_contradicts_8 ?_
  refine lv_iload_n hx hb dX4_contradicts_11 rfl (lv_at hl 2 rfl) ?_
  refine gv_il hx hb hK hP 2 (k := k) rfl (by first | exact hsa _ | exact hsb _ | omega) (by decide) dX4_contradicts_12 ?_
  refine gv_wi (rfl) ?_
  refine lv_istore_n (lv' := [(3, .int (nI (sb k))), (2, .int (nI (sa k))), (0, .ref s0), (1, .int (nI k))]) hx hb dX4_contradicts_13 rfl hl (by decide) rfl (fun ls hl => ?_)
  refine lv_aload_n hx hb dX4_contradicts_14 rfl (lv_at hl 2 rfl) ?_
  refine va_get (D := D) (ci := 4) (v := .ref s6) (C := RX4) (T := TX4) (N := 9) hx hb hts gv_in_X4_contradicts_X4 hown hK hP 0 rfl rfl 5 (by decide) (hts (.fieldLink RX4 27 "Gravimere$Survey" "doubts" "[I") (by decide +kernel)) (fun _ h9 => h9) rfl dX4_contradicts_15 ?_
  refine lv_iload_n hx hb dX4_contradicts_18 rfl (lv_at hl 1 rfl) ?_
  refine gv_il hx hb hK hP 6 (k := sa k) rfl (by first | exact hsa _ | exact hsb _ | omega) (by decide) dX4_contradicts_19 ?_
  refine lv_iconst (v := -1) hx hb dX4_contradicts_20 (by decide) ?_
  refine lv_icmp_eq (tgt := 34) hx hb dX4_contradicts_21 (by decide) (fun c_21 => ?_) (fun c_21 => ?_)
  · skip
    refine lv_iconst (v := nI 0) hx hb dX4_contradicts_34 (by decide) ?_
    have hpo : (gv_con sa sb su sr dd hh k → (nI 0) = nI 1) ∧ (¬ gv_con sa sb su sr dd hh k → (nI 0) = nI 0) := by
      exact ⟨fun z => by first | exact absurd c_21 z.1 | exact absurd c_31 z.2.1, fun _ => rfl⟩
    exact W.zret (v := nI 0) (ty := .boolean) hx hb hr rfl (fun t9 ht9 hW9 => ⟨(nI 0), rfl, hpo, ht9⟩) t_nil dX4_contradicts_35
  · skip
    refine lv_aload_n hx hb dX4_contradicts_24 rfl (lv_at hl 2 rfl) ?_
    refine va_get (D := D) (ci := 4) (v := .ref s6) (C := RX4) (T := TX4) (N := 9) hx hb hts gv_in_X4_contradicts_X4 hown hK hP 0 rfl rfl 5 (by decide) (hts (.fieldLink RX4 27 "Gravimere$Survey" "doubts" "[I") (by decide +kernel)) (fun _ h9 => h9) rfl dX4_contradicts_25 ?_
    refine lv_iload_n hx hb dX4_contradicts_28 rfl (lv_at hl 0 rfl) ?_
    refine gv_il hx hb hK hP 6 (k := sb k) rfl (by first | exact hsa _ | exact hsb _ | omega) (by decide) dX4_contradicts_29 ?_
    refine lv_iconst (v := -1) hx hb dX4_contradicts_30 (by decide) ?_
    refine lv_icmp_ne (tgt := 36) hx hb dX4_contradicts_31 (by decide) (fun c_31 => ?_) (fun c_31 => ?_)
    · skip
      refine lv_aload_n hx hb dX4_contradicts_36 rfl (lv_at hl 2 rfl) ?_
      refine va_get (D := D) (ci := 4) (v := .ref s3) (C := RX4) (T := TX4) (N := 9) hx hb hts gv_in_X4_contradicts_X4 hown hK hP 0 rfl rfl 2 (by decide) (hts (.fieldLink RX4 18 "Gravimere$Survey" "rises" "[I") (by decide +kernel)) (fun _ h9 => h9) rfl dX4_contradicts_37 ?_
      refine lv_iload_n hx hb dX4_contradicts_40 rfl (lv_at hl 3 rfl) ?_
      refine gv_il hx hb hK hP 3 (k := k) rfl (by first | exact hsa _ | exact hsb _ | omega) (by decide) dX4_contradicts_41 ?_
      refine lv_aload_n hx hb dX4_contradicts_42 rfl (lv_at hl 2 rfl) ?_
      refine va_get (D := D) (ci := 4) (v := .ref s5) (C := RX4) (T := TX4) (N := 9) hx hb hts gv_in_X4_contradicts_X4 hown hK hP 0 rfl rfl 4 (by decide) (hts (.fieldLink RX4 24 "Gravimere$Survey" "heights" "[I") (by decide +kernel)) (fun _ h9 => h9) rfl dX4_contradicts_43 ?_
      refine lv_iload_n hx hb dX4_contradicts_46 rfl (lv_at hl 0 rfl) ?_
      refine gv_il hx hb hK hP 5 (k := sb k) rfl (by first | exact hsa _ | exact hsb _ | omega) (by decide) dX4_contradicts_47 ?_
      refine lv_aload_n hx hb dX4_contradicts_48 rfl (lv_at hl 2 rfl) ?_
      refine va_get (D := D) (ci := 4) (v := .ref s5) (C := RX4) (T := TX4) (N := 9) hx hb hts gv_in_X4_contradicts_X4 hown hK hP 0 rfl rfl 4 (by decide) (hts (.fieldLink RX4 24 "Gravimere$Survey" "heights" "[I") (by decide +kernel)) (fun _ h9 => h9) rfl dX4_contradicts_49 ?_
      refine lv_iload_n hx hb dX4_contradicts_52 rfl (lv_at hl 1 rfl) ?_
      refine gv_il hx hb hK hP 5 (k := sa k) rfl (by first | exact hsa _ | exact hsb _ | omega) (by decide) dX4_contradicts_53 ?_
      refine lv_isub hx hb dX4_contradicts_54 ?_
      refine lv_isub hx hb dX4_contradicts_55 ?_
      refine va_mabs hx hb (hml.trans hl.1.symm) hown (hts (.methodLink RX4 56 yJ9_abs_0f7a4) (by decide +kernel)) (hts (.static yJ9_abs_0f7a4) (by decide +kernel)) (hts (.initialized RJ9) (by decide +kernel)) (hts (.code yJ9_abs_0f7a4 cJ9_abs_0f7a4 1 (some .int)) (by decide +kernel)) (Nat.le_of_ble_eq_true rfl) (Nat.le_of_ble_eq_true rfl) (Nat.le_of_ble_eq_true rfl) (Nat.le_of_ble_eq_true rfl) dX4_contradicts_56 ?_
      refine lv_istore (lv' := [(4, .int (if 0 ≤ ((sr k) - ((hh (sb k)) - (hh (sa k)))) then ((sr k) - ((hh (sb k)) - (hh (sa k)))) else 0 - ((sr k) - ((hh (sb k)) - (hh (sa k)))))), (3, .int (nI (sb k))), (2, .int (nI (sa k))), (0, .ref s0), (1, .int (nI k))]) hx hb dX4_contradicts_59 hl (by decide) rfl (fun ls hl => ?_)
      refine lv_iload hx hb dX4_contradicts_61 (lv_at hl 0 rfl) ?_
      refine lv_aload_n hx hb dX4_contradicts_63 rfl (lv_at hl 3 rfl) ?_
      refine va_get (D := D) (ci := 4) (v := .ref s4) (C := RX4) (T := TX4) (N := 9) hx hb hts gv_in_X4_contradicts_X4 hown hK hP 0 rfl rfl 3 (by decide) (hts (.fieldLink RX4 21 "Gravimere$Survey" "lineDoubts" "[I") (by decide +kernel)) (fun _ h9 => h9) rfl dX4_contradicts_64 ?_
      refine lv_iload_n hx hb dX4_contradicts_67 rfl (lv_at hl 4 rfl) ?_
      refine gv_il hx hb hK hP 4 (k := k) rfl (by first | exact hsa _ | exact hsb _ | omega) (by decide) dX4_contradicts_68 ?_
      refine gv_wi (rfl) ?_
      refine lv_aload_n hx hb dX4_contradicts_69 rfl (lv_at hl 3 rfl) ?_
      refine va_get (D := D) (ci := 4) (v := .ref s6) (C := RX4) (T := TX4) (N := 9) hx hb hts gv_in_X4_contradicts_X4 hown hK hP 0 rfl rfl 5 (by decide) (hts (.fieldLink RX4 27 "Gravimere$Survey" "doubts" "[I") (by decide +kernel)) (fun _ h9 => h9) rfl dX4_contradicts_70 ?_
      refine lv_iload_n hx hb dX4_contradicts_73 rfl (lv_at hl 2 rfl) ?_
      refine gv_il hx hb hK hP 6 (k := sa k) rfl (by first | exact hsa _ | exact hsb _ | omega) (by decide) dX4_contradicts_74 ?_
      refine lv_iadd hx hb dX4_contradicts_75 ?_
      refine lv_aload_n hx hb dX4_contradicts_76 rfl (lv_at hl 3 rfl) ?_
      refine va_get (D := D) (ci := 4) (v := .ref s6) (C := RX4) (T := TX4) (N := 9) hx hb hts gv_in_X4_contradicts_X4 hown hK hP 0 rfl rfl 5 (by decide) (hts (.fieldLink RX4 27 "Gravimere$Survey" "doubts" "[I") (by decide +kernel)) (fun _ h9 => h9) rfl dX4_contradicts_77 ?_
      refine lv_iload_n hx hb dX4_contradicts_80 rfl (lv_at hl 1 rfl) ?_
      refine gv_il hx hb hK hP 6 (k := sb k) rfl (by first | exact hsa _ | exact hsb _ | omega) (by decide) dX4_contradicts_81 ?_
      refine lv_iadd hx hb dX4_contradicts_82 ?_
      refine lv_icmp_le (tgt := 90) hx hb dX4_contradicts_83 (by decide) (fun c_83 => ?_) (fun c_83 => ?_)
      · skip
        refine lv_iconst (v := nI 0) hx hb dX4_contradicts_90 (by decide) ?_
        have hpo : (gv_con sa sb su sr dd hh k → (nI 0) = nI 1) ∧ (¬ gv_con sa sb su sr dd hh k → (nI 0) = nI 0) := by
          exact ⟨fun z => absurd z.2.2 (gv_len32 c_83), fun _ => rfl⟩
        exact W.zret (v := nI 0) (ty := .boolean) hx hb hr rfl (fun t9 ht9 hW9 => ⟨(nI 0), rfl, hpo, ht9⟩) t_nil dX4_contradicts_91
      · skip
        refine lv_iconst (v := nI 1) hx hb dX4_contradicts_86 (by decide) ?_
        refine lv_goto (tgt := 91) hx hb dX4_contradicts_87 (by decide) ?_
        have hpo : (gv_con sa sb su sr dd hh k → (nI 1) = nI 1) ∧ (¬ gv_con sa sb su sr dd hh k → (nI 1) = nI 0) := by
          exact ⟨fun _ => rfl, fun z => absurd ⟨c_21, c_31, gv_nle32 c_83⟩ z⟩
        exact W.zret (v := nI 1) (ty := .boolean) hx hb hr rfl (fun t9 ht9 hW9 => ⟨(nI 1), rfl, hpo, ht9⟩) t_nil dX4_contradicts_91
    · skip
      refine lv_iconst (v := nI 0) hx hb dX4_contradicts_34 (by decide) ?_
      have hpo : (gv_con sa sb su sr dd hh k → (nI 0) = nI 1) ∧ (¬ gv_con sa sb su sr dd hh k → (nI 0) = nI 0) := by
        exact ⟨fun z => by first | exact absurd c_21 z.1 | exact absurd c_31 z.2.1, fun _ => rfl⟩
      exact W.zret (v := nI 0) (ty := .boolean) hx hb hr rfl (fun t9 ht9 hW9 => ⟨(nI 0), rfl, hpo, ht9⟩) t_nil dX4_contradicts_35
set_option maxHeartbeats 4000000 in
set_option maxRecDepth 100000 in
theorem ct_X4_makesLess (l : Launch) (D : va_G) (cI cJ : ClassId) (sz : Nat) (s0 s1 s2 s3 s4 s5 s6 s7 bn ln : Nat) (tt : Nat → Int32) (f t u : Nat) (hf : f < 10) (ht : t < 10) : Met l yX4_makesLess wsX4_makesLess ({ frames := 0, cells := 0, slots := 0, locals := 0 }) (va_Pc [.ref s0, .int (nI f), .int (nI t), .int (nI u)] (gv_B D cI cJ [(s0, .inr (4, [.ref s1, .ref s2, .ref s3, .ref s4, .ref s5, .ref s6, .ref s7, .int (nI bn), .int (nI ln)])), (s7, .inl (cI, 10, .inl tt))] sz)) (va_Qi (fun (r9 : Int32) (u9 : Unit) => r9 = (gv_mkl tt f t (nI u)).2) (fun (u9 : Unit) t9 =>  gv_W D (va_A [(s0, .inr (4, [.ref s1, .ref s2, .ref s3, .ref s4, .ref s5, .ref s6, .ref s7, .int (nI bn), .int (nI ln)])), (s7, .inl (cI, 10, .inl tt))] sz) [(s0, .inr (4, [.ref s1, .ref s2, .ref s3, .ref s4, .ref s5, .ref s6, .ref s7, .int (nI bn), .int (nI ln)])), (s7, .inl (cI, 10, .inl ((gv_mkl tt f t (nI u)).1)))] t9) (va_A [(s0, .inr (4, [.ref s1, .ref s2, .ref s3, .ref s4, .ref s5, .ref s6, .ref s7, .int (nI bn), .int (nI ln)])), (s7, .inl (cI, 10, .inl tt))] sz)) 0 0 (va_A [(s0, .inr (4, [.ref s1, .ref s2, .ref s3, .ref s4, .ref s5, .ref s6, .ref s7, .int (nI bn), .int (nI ln)])), (s7, .inl (cI, 10, .inl tt))] sz) := by
  refine Met.ofW (cc := cX4_makesLess) (maxL := 5) (ret := (some .boolean)) (by decide) rfl ?_
  intro p e s m args below meth c s₁ B hml hv
  obtain ⟨rfl, hsz, hP, hK, hD0, hG⟩ := hv
  have hx := B.exec
  have hb := B.bytes
  have hr := B.returns
  have hts := atoms_spec (ws := wsX4_makesLess) B.pre
  have hown : s.vm.findClass RX4 = some m.cls := findClass_of_methodNamed B.named
  have hlocks := B.notSynchronized
  subst hsz
  have hD := hD0.self (sz := s.heap.size)
  generalize hAe : va_A [(s0, .inr (4, [.ref s1, .ref s2, .ref s3, .ref s4, .ref s5, .ref s6, .ref s7, .int (nI bn), .int (nI ln)])), (s7, .inl (cI, 10, .inl tt))] s.heap.size = A at hD ⊢
  have hA : ∀ q : Nat, s.heap.size ≤ q → A q := fun q h => by rw [← hAe]; exact Or.inr h
  have hS : va_S A s.heap s.heap [] := va_S.rf
  have hP : va_P D vwCl [(s0, .inr (4, [.ref s1, .ref s2, .ref s3, .ref s4, .ref s5, .ref s6, .ref s7, .int (nI bn), .int (nI ln)])), (s7, .inl (cI, 10, .inl tt))] s.heap := hP
  have hl := lv_entry ([.ref s0, .int (nI f), .int (nI t), .int (nI u)]) (n := 5) (Nat.le_of_ble_eq_true rfl)
  rw [lg_entry_eq]
  generalize (lg_sl ([.ref s0, .int (nI f), .int (nI t), .int (nI u)]) ++ List.replicate (5 - (lg_sl ([.ref s0, .int (nI f), .int (nI t), .int (nI u)])).length) Slot.unset).toArray = ls at hl ⊢
  have hl : lv_has ls 5 [(0, .ref s0), (1, .int (nI f)), (2, .int (nI t)), (3, .int (nI u))] := hl
  refine lv_aload_n hx hb dX4_makesLess_0 rfl (lv_at hl 0 rfl) ?_
  refine va_get (D := D) (ci := 4) (v := .ref s7) (C := RX4) (T := TX4) (N := 9) hx hb hts gv_in_X4_makesLess_X4 hown hK hP 0 rfl rfl 6 (by decide) (hts (.fieldLink RX4 30 "Gravimere$Survey" "triedDoubts" "[I") (by decide +kernel)) (fun _ h9 => h9) rfl dX4_makesLess_1 ?_
  refine lv_iload_n hx hb dX4_makesLess_4 rfl (lv_at hl 1 rfl) ?_
  refine gv_il hx hb hK hP 1 (k := f) rfl (by omega) (by decide) dX4_makesLess_5 ?_
  refine lv_iconst (v := -1) hx hb dX4_makesLess_6 (by decide) ?_
  refine lv_icmp_ne (tgt := 12) hx hb dX4_makesLess_7 (by decide) (fun c_7 => ?_) (fun c_7 => ?_)
  · skip
    refine lv_aload_n hx hb dX4_makesLess_12 rfl (lv_at hl 0 rfl) ?_
    refine va_get (D := D) (ci := 4) (v := .ref s7) (C := RX4) (T := TX4) (N := 9) hx hb hts gv_in_X4_makesLess_X4 hown hK hP 0 rfl rfl 6 (by decide) (hts (.fieldLink RX4 30 "Gravimere$Survey" "triedDoubts" "[I") (by decide +kernel)) (fun _ h9 => h9) rfl dX4_makesLess_13 ?_
    refine lv_iload_n hx hb dX4_makesLess_16 rfl (lv_at hl 1 rfl) ?_
    refine gv_il hx hb hK hP 1 (k := f) rfl (by omega) (by decide) dX4_makesLess_17 ?_
    refine lv_iload_n hx hb dX4_makesLess_18 rfl (lv_at hl 3 rfl) ?_
    refine lv_iadd hx hb dX4_makesLess_19 ?_
    refine lv_istore (lv' := [(4, .int ((tt f) + (nI u))), (0, .ref s0), (1, .int (nI f)), (2, .int (nI t)), (3, .int (nI u))]) hx hb dX4_makesLess_20 hl (by decide) rfl (fun ls hl => ?_)
    refine lv_aload_n hx hb dX4_makesLess_22 rfl (lv_at hl 1 rfl) ?_
    refine va_get (D := D) (ci := 4) (v := .ref s7) (C := RX4) (T := TX4) (N := 9) hx hb hts gv_in_X4_makesLess_X4 hown hK hP 0 rfl rfl 6 (by decide) (hts (.fieldLink RX4 30 "Gravimere$Survey" "triedDoubts" "[I") (by decide +kernel)) (fun _ h9 => h9) rfl dX4_makesLess_23 ?_
    refine lv_iload_n hx hb dX4_makesLess_26 rfl (lv_at hl 3 rfl) ?_
    refine gv_il hx hb hK hP 1 (k := t) rfl (by omega) (by decide) dX4_makesLess_27 ?_
    refine lv_iconst (v := -1) hx hb dX4_makesLess_28 (by decide) ?_
    refine lv_icmp_eq (tgt := 45) hx hb dX4_makesLess_29 (by decide) (fun c_29 => ?_) (fun c_29 => ?_)
    · skip
      refine lv_aload_n hx hb dX4_makesLess_45 rfl (lv_at hl 1 rfl) ?_
      refine va_get (D := D) (ci := 4) (v := .ref s7) (C := RX4) (T := TX4) (N := 9) hx hb hts gv_in_X4_makesLess_X4 hown hK hP 0 rfl rfl 6 (by decide) (hts (.fieldLink RX4 30 "Gravimere$Survey" "triedDoubts" "[I") (by decide +kernel)) (fun _ h9 => h9) rfl dX4_makesLess_46 ?_
      refine lv_iload_n hx hb dX4_makesLess_49 rfl (lv_at hl 3 rfl) ?_
      refine lv_iload hx hb dX4_makesLess_50 (lv_at hl 0 rfl) ?_
      refine gv_is hx hb hK hP hD hS 1 (k := t) rfl (by omega) (by decide) dX4_makesLess_52 (fun H locs hP hD hS => ?_)
      have hP : va_P D vwCl [(s0, .inr (4, [.ref s1, .ref s2, .ref s3, .ref s4, .ref s5, .ref s6, .ref s7, .int (nI bn), .int (nI ln)])), (s7, .inl (cI, 10, .inl (upd tt t ((tt f) + (nI u)))))] H := hP
      have hD : va_D A [(s0, .inr (4, [.ref s1, .ref s2, .ref s3, .ref s4, .ref s5, .ref s6, .ref s7, .int (nI bn), .int (nI ln)])), (s7, .inl (cI, 10, .inl (upd tt t ((tt f) + (nI u)))))] := hD
      refine lv_iconst (v := nI 1) hx hb dX4_makesLess_53 (by decide) ?_
      have hno : ¬ (¬ tt t = -1 ∧ tt t ≤ tt f + nI u) := fun z => by first | exact z.1 c_29 | exact gv_ltn32 c_40 z.2
      have hpo : (nI 1) = (gv_mkl tt f t (nI u)).2 := by
        rw [gv_mkl, if_neg c_7, if_neg hno]
      have hP9 : va_P D vwCl [(s0, .inr (4, [.ref s1, .ref s2, .ref s3, .ref s4, .ref s5, .ref s6, .ref s7, .int (nI bn), .int (nI ln)])), (s7, .inl (cI, 10, .inl ((gv_mkl tt f t (nI u)).1)))] H := by rw [gv_mkl, if_neg c_7, if_neg hno]; exact hP
      have hD9 : va_D A [(s0, .inr (4, [.ref s1, .ref s2, .ref s3, .ref s4, .ref s5, .ref s6, .ref s7, .int (nI bn), .int (nI ln)])), (s7, .inl (cI, 10, .inl ((gv_mkl tt f t (nI u)).1)))] := by rw [gv_mkl, if_neg c_7, if_neg hno]; exact hD
      exact W.zret (v := nI 1) (ty := .boolean) hx hb hr rfl (fun t9 ht9 hW9 => ⟨⟨(nI 1), (), rfl, hpo, by rw [ht9]; exact hP9, hD9⟩, hS.F ht9⟩) hS.2.2 dX4_makesLess_54
    · skip
      refine lv_aload_n hx hb dX4_makesLess_32 rfl (lv_at hl 1 rfl) ?_
      refine va_get (D := D) (ci := 4) (v := .ref s7) (C := RX4) (T := TX4) (N := 9) hx hb hts gv_in_X4_makesLess_X4 hown hK hP 0 rfl rfl 6 (by decide) (hts (.fieldLink RX4 30 "Gravimere$Survey" "triedDoubts" "[I") (by decide +kernel)) (fun _ h9 => h9) rfl dX4_makesLess_33 ?_
      refine lv_iload_n hx hb dX4_makesLess_36 rfl (lv_at hl 3 rfl) ?_
      refine gv_il hx hb hK hP 1 (k := t) rfl (by omega) (by decide) dX4_makesLess_37 ?_
      refine lv_iload hx hb dX4_makesLess_38 (lv_at hl 0 rfl) ?_
      refine lv_icmp_gt (tgt := 45) hx hb dX4_makesLess_40 (by decide) (fun c_40 => ?_) (fun c_40 => ?_)
      · skip
        refine lv_aload_n hx hb dX4_makesLess_45 rfl (lv_at hl 1 rfl) ?_
        refine va_get (D := D) (ci := 4) (v := .ref s7) (C := RX4) (T := TX4) (N := 9) hx hb hts gv_in_X4_makesLess_X4 hown hK hP 0 rfl rfl 6 (by decide) (hts (.fieldLink RX4 30 "Gravimere$Survey" "triedDoubts" "[I") (by decide +kernel)) (fun _ h9 => h9) rfl dX4_makesLess_46 ?_
        refine lv_iload_n hx hb dX4_makesLess_49 rfl (lv_at hl 3 rfl) ?_
        refine lv_iload hx hb dX4_makesLess_50 (lv_at hl 0 rfl) ?_
        refine gv_is hx hb hK hP hD hS 1 (k := t) rfl (by omega) (by decide) dX4_makesLess_52 (fun H locs hP hD hS => ?_)
        have hP : va_P D vwCl [(s0, .inr (4, [.ref s1, .ref s2, .ref s3, .ref s4, .ref s5, .ref s6, .ref s7, .int (nI bn), .int (nI ln)])), (s7, .inl (cI, 10, .inl (upd tt t ((tt f) + (nI u)))))] H := hP
        have hD : va_D A [(s0, .inr (4, [.ref s1, .ref s2, .ref s3, .ref s4, .ref s5, .ref s6, .ref s7, .int (nI bn), .int (nI ln)])), (s7, .inl (cI, 10, .inl (upd tt t ((tt f) + (nI u)))))] := hD
        refine lv_iconst (v := nI 1) hx hb dX4_makesLess_53 (by decide) ?_
        have hno : ¬ (¬ tt t = -1 ∧ tt t ≤ tt f + nI u) := fun z => by first | exact z.1 c_29 | exact gv_ltn32 c_40 z.2
        have hpo : (nI 1) = (gv_mkl tt f t (nI u)).2 := by
          rw [gv_mkl, if_neg c_7, if_neg hno]
        have hP9 : va_P D vwCl [(s0, .inr (4, [.ref s1, .ref s2, .ref s3, .ref s4, .ref s5, .ref s6, .ref s7, .int (nI bn), .int (nI ln)])), (s7, .inl (cI, 10, .inl ((gv_mkl tt f t (nI u)).1)))] H := by rw [gv_mkl, if_neg c_7, if_neg hno]; exact hP
        have hD9 : va_D A [(s0, .inr (4, [.ref s1, .ref s2, .ref s3, .ref s4, .ref s5, .ref s6, .ref s7, .int (nI bn), .int (nI ln)])), (s7, .inl (cI, 10, .inl ((gv_mkl tt f t (nI u)).1)))] := by rw [gv_mkl, if_neg c_7, if_neg hno]; exact hD
        exact W.zret (v := nI 1) (ty := .boolean) hx hb hr rfl (fun t9 ht9 hW9 => ⟨⟨(nI 1), (), rfl, hpo, by rw [ht9]; exact hP9, hD9⟩, hS.F ht9⟩) hS.2.2 dX4_makesLess_54
      · skip
        refine lv_iconst (v := nI 0) hx hb dX4_makesLess_43 (by decide) ?_
        have hpo : (nI 0) = (gv_mkl tt f t (nI u)).2 := by
          rw [gv_mkl, if_neg c_7, if_pos ⟨c_29, gv_nlt32 c_40⟩]
        have hP9 : va_P D vwCl [(s0, .inr (4, [.ref s1, .ref s2, .ref s3, .ref s4, .ref s5, .ref s6, .ref s7, .int (nI bn), .int (nI ln)])), (s7, .inl (cI, 10, .inl ((gv_mkl tt f t (nI u)).1)))] s.heap := by rw [gv_mkl, if_neg c_7, if_pos ⟨c_29, gv_nlt32 c_40⟩]; exact hP
        have hD9 : va_D A [(s0, .inr (4, [.ref s1, .ref s2, .ref s3, .ref s4, .ref s5, .ref s6, .ref s7, .int (nI bn), .int (nI ln)])), (s7, .inl (cI, 10, .inl ((gv_mkl tt f t (nI u)).1)))] := by rw [gv_mkl, if_neg c_7, if_pos ⟨c_29, gv_nlt32 c_40⟩]; exact hD
        exact W.zret (v := nI 0) (ty := .boolean) hx hb hr rfl (fun t9 ht9 hW9 => ⟨⟨(nI 0), (), rfl, hpo, by rw [ht9]; exact hP9, hD9⟩, hS.F ht9⟩) hS.2.2 dX4_makesLess_44
  · skip
    refine lv_iconst (v := nI 0) hx hb dX4_makesLess_10 (by decide) ?_
    have hpo : (nI 0) = (gv_mkl tt f t (nI u)).2 := by
      rw [gv_mkl, if_pos c_7]
    have hP9 : va_P D vwCl [(s0, .inr (4, [.ref s1, .ref s2, .ref s3, .ref s4, .ref s5, .ref s6, .ref s7, .int (nI bn), .int (nI ln)])), (s7, .inl (cI, 10, .inl ((gv_mkl tt f t (nI u)).1)))] s.heap := by rw [gv_mkl, if_pos c_7]; exact hP
    have hD9 : va_D A [(s0, .inr (4, [.ref s1, .ref s2, .ref s3, .ref s4, .ref s5, .ref s6, .ref s7, .int (nI bn), .int (nI ln)])), (s7, .inl (cI, 10, .inl ((gv_mkl tt f t (nI u)).1)))] := by rw [gv_mkl, if_pos c_7]; exact hD
    exact W.zret (v := nI 0) (ty := .boolean) hx hb hr rfl (fun t9 ht9 hW9 => ⟨⟨(nI 0), (), rfl, hpo, by rw [ht9]; exact hP9, hD9⟩, hS.F ht9⟩) hS.2.2 dX4_makesLess_11
set_option maxHeartbeats 4000000 in
set_option maxRecDepth 100000 in
theorem ct_X4_tryEachLine (l : Launch) (D : va_G) (cI cJ : ClassId) (sz : Nat) (s0 s1 s2 s3 s4 s5 s6 s7 bn ln : Nat) (sa sb su : Nat → Nat) (tt : Nat → Int32) (hsa : ∀ j, sa j < 10) (hsb : ∀ j, sb j < 10) (hln : ln ≤ 24) : Met l yX4_tryEachLine wsX4_tryEachLine ({ frames := 1, cells := 0, slots := 0, locals := 24 }) (va_Pc [.ref s0] (gv_B D cI cJ [(s0, .inr (4, [.ref s1, .ref s2, .ref s3, .ref s4, .ref s5, .ref s6, .ref s7, .int (nI bn), .int (nI ln)])), (s1, .inl (cI, 24, .inl (fun j => nI (sa j)))), (s2, .inl (cI, 24, .inl (fun j => nI (sb j)))), (s4, .inl (cI, 24, .inl (fun j => nI (su j)))), (s7, .inl (cI, 10, .inl tt))] sz)) (va_Qi (fun (r9 : Int32) (u9 : Unit) => r9 = (gv_rnd sa sb su tt ln).2) (fun (u9 : Unit) t9 =>  gv_W D (va_A [(s0, .inr (4, [.ref s1, .ref s2, .ref s3, .ref s4, .ref s5, .ref s6, .ref s7, .int (nI bn), .int (nI ln)])), (s1, .inl (cI, 24, .inl (fun j => nI (sa j)))), (s2, .inl (cI, 24, .inl (fun j => nI (sb j)))), (s4, .inl (cI, 24, .inl (fun j => nI (su j)))), (s7, .inl (cI, 10, .inl tt))] sz) [(s0, .inr (4, [.ref s1, .ref s2, .ref s3, .ref s4, .ref s5, .ref s6, .ref s7, .int (nI bn), .int (nI ln)])), (s1, .inl (cI, 24, .inl (fun j => nI (sa j)))), (s2, .inl (cI, 24, .inl (fun j => nI (sb j)))), (s4, .inl (cI, 24, .inl (fun j => nI (su j)))), (s7, .inl (cI, 10, .inl ((gv_rnd sa sb su tt ln).1)))] t9) (va_A [(s0, .inr (4, [.ref s1, .ref s2, .ref s3, .ref s4, .ref s5, .ref s6, .ref s7, .int (nI bn), .int (nI ln)])), (s1, .inl (cI, 24, .inl (fun j => nI (sa j)))), (s2, .inl (cI, 24, .inl (fun j => nI (sb j)))), (s4, .inl (cI, 24, .inl (fun j => nI (su j)))), (s7, .inl (cI, 10, .inl tt))] sz)) 0 0 (va_A [(s0, .inr (4, [.ref s1, .ref s2, .ref s3, .ref s4, .ref s5, .ref s6, .ref s7, .int (nI bn), .int (nI ln)])), (s1, .inl (cI, 24, .inl (fun j => nI (sa j)))), (s2, .inl (cI, 24, .inl (fun j => nI (sb j)))), (s4, .inl (cI, 24, .inl (fun j => nI (su j)))), (s7, .inl (cI, 10, .inl tt))] sz) := by
  refine Met.ofW (cc := cX4_tryEachLine) (maxL := 3) (ret := (some .boolean)) (by decide) rfl ?_
  intro p e s m args below meth c s₁ B hml hv
  obtain ⟨rfl, hsz, hP, hK, hD0, hG⟩ := hv
  have hx := B.exec
  have hb := B.bytes
  have hr := B.returns
  have hts := atoms_spec (ws := wsX4_tryEachLine) B.pre
  have hown : s.vm.findClass RX4 = some m.cls := findClass_of_methodNamed B.named
  have hlocks := B.notSynchronized
  subst hsz
  have hD := hD0.self (sz := s.heap.size)
  generalize hAe : va_A [(s0, .inr (4, [.ref s1, .ref s2, .ref s3, .ref s4, .ref s5, .ref s6, .ref s7, .int (nI bn), .int (nI ln)])), (s1, .inl (cI, 24, .inl (fun j => nI (sa j)))), (s2, .inl (cI, 24, .inl (fun j => nI (sb j)))), (s4, .inl (cI, 24, .inl (fun j => nI (su j)))), (s7, .inl (cI, 10, .inl tt))] s.heap.size = A at hD ⊢
  have hA : ∀ q : Nat, s.heap.size ≤ q → A q := fun q h => by rw [← hAe]; exact Or.inr h
  have hS : va_S A s.heap s.heap [] := va_S.rf
  have hP : va_P D vwCl [(s0, .inr (4, [.ref s1, .ref s2, .ref s3, .ref s4, .ref s5, .ref s6, .ref s7, .int (nI bn), .int (nI ln)])), (s1, .inl (cI, 24, .inl (fun j => nI (sa j)))), (s2, .inl (cI, 24, .inl (fun j => nI (sb j)))), (s4, .inl (cI, 24, .inl (fun j => nI (su j)))), (s7, .inl (cI, 10, .inl tt))] s.heap := hP
  have hl := lv_entry ([.ref s0]) (n := 3) (Nat.le_of_ble_eq_true rfl)
  rw [lg_entry_eq]
  generalize (lg_sl ([.ref s0]) ++ List.replicate (3 - (lg_sl ([.ref s0])).length) Slot.unset).toArray = ls at hl ⊢
  have hl : lv_has ls 3 [(0, .ref s0)] := hl
  refine lv_iconst (v := nI 0) hx hb dX4_tryEachLine_0 (by decide) ?_
  refine lv_istore_n (lv' := [(1, .int (nI 0)), (0, .ref s0)]) hx hb dX4_tryEachLine_1 rfl hl (by decide) rfl (fun ls hl => ?_)
  refine lv_iconst (v := nI 0) hx hb dX4_tryEachLine_2 (by decide) ?_
  refine lv_istore_n (lv' := [(2, .int (nI 0)), (1, .int (nI 0)), (0, .ref s0)]) hx hb dX4_tryEachLine_3 rfl hl (by decide) rfl (fun ls hl => ?_)
  refine gv_lm (σ := Nat × (Nat → Int32) × Int32) (fun zq H locs ls => match zq with | (k, t, fl) => k ≤ ln ∧ (t, fl) = gv_rnd sa sb su tt k ∧ (fl = nI 0 ∨ fl = nI 1) ∧ va_P D vwCl [(s0, .inr (4, [.ref s1, .ref s2, .ref s3, .ref s4, .ref s5, .ref s6, .ref s7, .int (nI bn), .int (nI ln)])), (s1, .inl (cI, 24, .inl (fun j => nI (sa j)))), (s2, .inl (cI, 24, .inl (fun j => nI (sb j)))), (s4, .inl (cI, 24, .inl (fun j => nI (su j)))), (s7, .inl (cI, 10, .inl t))] H ∧ va_D A [(s0, .inr (4, [.ref s1, .ref s2, .ref s3, .ref s4, .ref s5, .ref s6, .ref s7, .int (nI bn), .int (nI ln)])), (s1, .inl (cI, 24, .inl (fun j => nI (sa j)))), (s2, .inl (cI, 24, .inl (fun j => nI (sb j)))), (s4, .inl (cI, 24, .inl (fun j => nI (su j)))), (s7, .inl (cI, 10, .inl t))] ∧ va_S A s.heap H locs ∧ lv_has ls 3 [(0, .ref s0), (1, .int fl), (2, .int (nI k))]) (fun zq => match zq with | (k, t, fl) => ln - k) (0, tt, nI 0) ⟨by omega, rfl, Or.inl rfl, hP, hD, hS, lv_sub hl [2, 1, 0] rfl⟩ (fun zq H locs ls hI ih_4 => ?_)
  obtain ⟨k, t, fl⟩ := zq
  obtain ⟨hk, het, hfl, hP, hD, hS, hl⟩ := hI
  refine lv_iload_n hx hb dX4_tryEachLine_4 rfl (lv_at hl 2 rfl) ?_
  refine lv_aload_n hx hb dX4_tryEachLine_5 rfl (lv_at hl 0 rfl) ?_
  refine va_get (D := D) (ci := 4) (v := .int (nI ln)) (C := RX4) (T := TX4) (N := 9) hx hb hts gv_in_X4_tryEachLine_X4 hown hK hP 0 rfl rfl 8 (by decide) (hts (.fieldLink RX4 37 "Gravimere$Survey" "lines" "I") (by decide +kernel)) (fun _ h9 => h9) rfl dX4_tryEachLine_6 ?_
  refine lv_icmp_ge (tgt := 70) hx hb dX4_tryEachLine_9 (by decide) (fun c_9 => ?_) (fun c_9 => ?_)
  · skip
    have c_9 := (nI_leI (a := ln) (b := k) (by omega) (by omega)).mp c_9
    refine lv_iload_n hx hb dX4_tryEachLine_70 rfl (lv_at hl 1 rfl) ?_
    have hkl : k = ln := by omega
    rw [hkl] at het
    have hz1 : t = (gv_rnd sa sb su tt ln).1 := congrArg Prod.fst het
    have hpo : fl = (gv_rnd sa sb su tt ln).2 := by
      exact congrArg Prod.snd het
    have hP9 : va_P D vwCl [(s0, .inr (4, [.ref s1, .ref s2, .ref s3, .ref s4, .ref s5, .ref s6, .ref s7, .int (nI bn), .int (nI ln)])), (s1, .inl (cI, 24, .inl (fun j => nI (sa j)))), (s2, .inl (cI, 24, .inl (fun j => nI (sb j)))), (s4, .inl (cI, 24, .inl (fun j => nI (su j)))), (s7, .inl (cI, 10, .inl ((gv_rnd sa sb su tt ln).1)))] H := by rw [← hz1]; exact hP
    have hD9 : va_D A [(s0, .inr (4, [.ref s1, .ref s2, .ref s3, .ref s4, .ref s5, .ref s6, .ref s7, .int (nI bn), .int (nI ln)])), (s1, .inl (cI, 24, .inl (fun j => nI (sa j)))), (s2, .inl (cI, 24, .inl (fun j => nI (sb j)))), (s4, .inl (cI, 24, .inl (fun j => nI (su j)))), (s7, .inl (cI, 10, .inl ((gv_rnd sa sb su tt ln).1)))] := by rw [← hz1]; exact hD
    exact W.zret (v := fl) (ty := .boolean) hx hb hr (gv_nz (by rcases hfl with h | h <;> rw [h] <;> first | exact Or.inl rfl | exact Or.inr rfl)) (fun t9 ht9 hW9 => ⟨⟨fl, (), rfl, hpo, by rw [ht9]; exact hP9, hD9⟩, hS.F ht9⟩) hS.2.2 dX4_tryEachLine_71
  · skip
    have c_9 := (not_congr (nI_leI (a := ln) (b := k) (by omega) (by omega))).mp c_9
    refine lv_aload_n hx hb dX4_tryEachLine_12 rfl (lv_at hl 0 rfl) ?_
    refine lv_aload_n hx hb dX4_tryEachLine_13 rfl (lv_at hl 0 rfl) ?_
    refine va_get (D := D) (ci := 4) (v := .ref s1) (C := RX4) (T := TX4) (N := 9) hx hb hts gv_in_X4_tryEachLine_X4 hown hK hP 0 rfl rfl 0 (by decide) (hts (.fieldLink RX4 9 "Gravimere$Survey" "starts" "[I") (by decide +kernel)) (fun _ h9 => h9) rfl dX4_tryEachLine_14 ?_
    refine lv_iload_n hx hb dX4_tryEachLine_17 rfl (lv_at hl 2 rfl) ?_
    refine gv_il hx hb hK hP 1 (k := k) rfl (by first | exact hsa _ | exact hsb _ | omega) (by decide) dX4_tryEachLine_18 ?_
    refine gv_wi (rfl) ?_
    refine lv_aload_n hx hb dX4_tryEachLine_19 rfl (lv_at hl 0 rfl) ?_
    refine va_get (D := D) (ci := 4) (v := .ref s2) (C := RX4) (T := TX4) (N := 9) hx hb hts gv_in_X4_tryEachLine_X4 hown hK hP 0 rfl rfl 1 (by decide) (hts (.fieldLink RX4 15 "Gravimere$Survey" "ends" "[I") (by decide +kernel)) (fun _ h9 => h9) rfl dX4_tryEachLine_20 ?_
    refine lv_iload_n hx hb dX4_tryEachLine_23 rfl (lv_at hl 2 rfl) ?_
    refine gv_il hx hb hK hP 2 (k := k) rfl (by first | exact hsa _ | exact hsb _ | omega) (by decide) dX4_tryEachLine_24 ?_
    refine gv_wi (rfl) ?_
    refine lv_aload_n hx hb dX4_tryEachLine_25 rfl (lv_at hl 0 rfl) ?_
    refine va_get (D := D) (ci := 4) (v := .ref s4) (C := RX4) (T := TX4) (N := 9) hx hb hts gv_in_X4_tryEachLine_X4 hown hK hP 0 rfl rfl 3 (by decide) (hts (.fieldLink RX4 21 "Gravimere$Survey" "lineDoubts" "[I") (by decide +kernel)) (fun _ h9 => h9) rfl dX4_tryEachLine_26 ?_
    refine lv_iload_n hx hb dX4_tryEachLine_29 rfl (lv_at hl 2 rfl) ?_
    refine gv_il hx hb hK hP 3 (k := k) rfl (by first | exact hsa _ | exact hsb _ | omega) (by decide) dX4_tryEachLine_30 ?_
    refine gv_wi (rfl) ?_
    refine gv_mi (wc := [(s0, .inr (4, [.ref s1, .ref s2, .ref s3, .ref s4, .ref s5, .ref s6, .ref s7, .int (nI bn), .int (nI ln)])), (s7, .inl (cI, 10, .inl t))]) (wr := [(s1, .inl (cI, 24, .inl (fun j => nI (sa j)))), (s2, .inl (cI, 24, .inl (fun j => nI (sb j)))), (s4, .inl (cI, 24, .inl (fun j => nI (su j))))]) (w2 := (fun u => [(s0, .inr (4, [.ref s1, .ref s2, .ref s3, .ref s4, .ref s5, .ref s6, .ref s7, .int (nI bn), .int (nI ln)])), (s1, .inl (cI, 24, .inl (fun j => nI (sa j)))), (s2, .inl (cI, 24, .inl (fun j => nI (sb j)))), (s4, .inl (cI, 24, .inl (fun j => nI (su j)))), (s7, .inl (cI, 10, .inl ((gv_mkl t (sa k) (sb k) (nI (su k))).1)))])) (va_runV (As := [.int (nI (sa k)), .int (nI (sb k)), .int (nI (su k))]) (rest := []) ⟨hx, hb, hml, hown, hts⟩ (ct_X4_makesLess l D cI cJ H.size s0 s1 s2 s3 s4 s5 s6 s7 bn ln t (sa k) (sb k) (su k) (hsa k) (hsb k)) (cwV 3 hts gX4_tryEachLine_X4_makesLess rfl rfl rfl (by decide +kernel) ⟨Nat.le_of_ble_eq_true rfl, Nat.le_of_ble_eq_true rfl⟩) (gv_pV (wc := [(s0, .inr (4, [.ref s1, .ref s2, .ref s3, .ref s4, .ref s5, .ref s6, .ref s7, .int (nI bn), .int (nI ln)])), (s7, .inl (cI, 10, .inl t))]) hP hK hD hG [0, 4] rfl (by decide) 0 rfl rfl rfl) rfl rfl hl.1 rfl (lv_room (Nat.le_of_ble_eq_true rfl)) dX4_tryEachLine_31 ⟨Nat.le_of_ble_eq_true rfl, Nat.le_of_ble_eq_true rfl⟩) hP hD hS hA [0, 4] [1, 2, 3] [3, 0, 1, 2, 4] rfl rfl (by decide) (by decide) (fun u => rfl) (by decide) (fun r1 u H locs hr1 hP hD hS => ?_)
    have hP : va_P D vwCl [(s0, .inr (4, [.ref s1, .ref s2, .ref s3, .ref s4, .ref s5, .ref s6, .ref s7, .int (nI bn), .int (nI ln)])), (s1, .inl (cI, 24, .inl (fun j => nI (sa j)))), (s2, .inl (cI, 24, .inl (fun j => nI (sb j)))), (s4, .inl (cI, 24, .inl (fun j => nI (su j)))), (s7, .inl (cI, 10, .inl ((gv_mkl t (sa k) (sb k) (nI (su k))).1)))] H := hP
    have hD : va_D A [(s0, .inr (4, [.ref s1, .ref s2, .ref s3, .ref s4, .ref s5, .ref s6, .ref s7, .int (nI bn), .int (nI ln)])), (s1, .inl (cI, 24, .inl (fun j => nI (sa j)))), (s2, .inl (cI, 24, .inl (fun j => nI (sb j)))), (s4, .inl (cI, 24, .inl (fun j => nI (su j)))), (s7, .inl (cI, 10, .inl ((gv_mkl t (sa k) (sb k) (nI (su k))).1)))] := hD
    refine lv_if_ne (tgt := 62) hx hb dX4_tryEachLine_34 (by decide) (fun c_34 => ?_) (fun c_34 => ?_)
    · skip
      refine lv_iconst (v := nI 1) hx hb dX4_tryEachLine_62 (by decide) ?_
      refine lv_istore_n (lv' := [(1, .int (nI 1)), (0, .ref s0), (2, .int (nI k))]) hx hb dX4_tryEachLine_63 rfl hl (by decide) rfl (fun ls hl => ?_)
      refine lv_iinc (v := nI (k + 1)) (lv' := [(2, .int (nI (k + 1))), (1, .int (nI 1)), (0, .ref s0)]) hx hb dX4_tryEachLine_64 hl (k := 2) rfl (nI_add k 1) (by decide) rfl (fun ls hl => ?_)
      refine lv_goto (tgt := 4) hx hb dX4_tryEachLine_67 (by decide) ?_
      exact ih_4 (k + 1, (gv_mkl t (sa k) (sb k) (nI (su k))).1, nI 1) _ _ _ ⟨by omega, by rw [gv_rnd, ← het, gv_ln1]; first | rw [if_pos (by rw [← hr1]; exact c_34)] | rw [if_neg (by rw [← hr1]; exact fun z => z c_34), if_pos (by rw [← hr2]; exact c_59)] | rw [if_neg (by rw [← hr1]; exact fun z => z c_34), if_neg (by rw [← hr2]; exact fun z => z c_59)], by first | exact hfl | exact Or.inr rfl, hP, hD, hS, lv_sub hl [2, 1, 0] rfl⟩ (by simp only; omega)
    · skip
      refine lv_aload_n hx hb dX4_tryEachLine_37 rfl (lv_at hl 0 rfl) ?_
      refine lv_aload_n hx hb dX4_tryEachLine_38 rfl (lv_at hl 0 rfl) ?_
      refine va_get (D := D) (ci := 4) (v := .ref s2) (C := RX4) (T := TX4) (N := 9) hx hb hts gv_in_X4_tryEachLine_X4 hown hK hP 0 rfl rfl 1 (by decide) (hts (.fieldLink RX4 15 "Gravimere$Survey" "ends" "[I") (by decide +kernel)) (fun _ h9 => h9) rfl dX4_tryEachLine_39 ?_
      refine lv_iload_n hx hb dX4_tryEachLine_42 rfl (lv_at hl 2 rfl) ?_
      refine gv_il hx hb hK hP 2 (k := k) rfl (by first | exact hsa _ | exact hsb _ | omega) (by decide) dX4_tryEachLine_43 ?_
      refine gv_wi (rfl) ?_
      refine lv_aload_n hx hb dX4_tryEachLine_44 rfl (lv_at hl 0 rfl) ?_
      refine va_get (D := D) (ci := 4) (v := .ref s1) (C := RX4) (T := TX4) (N := 9) hx hb hts gv_in_X4_tryEachLine_X4 hown hK hP 0 rfl rfl 0 (by decide) (hts (.fieldLink RX4 9 "Gravimere$Survey" "starts" "[I") (by decide +kernel)) (fun _ h9 => h9) rfl dX4_tryEachLine_45 ?_
      refine lv_iload_n hx hb dX4_tryEachLine_48 rfl (lv_at hl 2 rfl) ?_
      refine gv_il hx hb hK hP 1 (k := k) rfl (by first | exact hsa _ | exact hsb _ | omega) (by decide) dX4_tryEachLine_49 ?_
      refine gv_wi (rfl) ?_
      refine lv_aload_n hx hb dX4_tryEachLine_50 rfl (lv_at hl 0 rfl) ?_
      refine va_get (D := D) (ci := 4) (v := .ref s4) (C := RX4) (T := TX4) (N := 9) hx hb hts gv_in_X4_tryEachLine_X4 hown hK hP 0 rfl rfl 3 (by decide) (hts (.fieldLink RX4 21 "Gravimere$Survey" "lineDoubts" "[I") (by decide +kernel)) (fun _ h9 => h9) rfl dX4_tryEachLine_51 ?_
      refine lv_iload_n hx hb dX4_tryEachLine_54 rfl (lv_at hl 2 rfl) ?_
      refine gv_il hx hb hK hP 3 (k := k) rfl (by first | exact hsa _ | exact hsb _ | omega) (by decide) dX4_tryEachLine_55 ?_
      refine gv_wi (rfl) ?_
      refine gv_mi (wc := [(s0, .inr (4, [.ref s1, .ref s2, .ref s3, .ref s4, .ref s5, .ref s6, .ref s7, .int (nI bn), .int (nI ln)])), (s7, .inl (cI, 10, .inl ((gv_mkl t (sa k) (sb k) (nI (su k))).1)))]) (wr := [(s1, .inl (cI, 24, .inl (fun j => nI (sa j)))), (s2, .inl (cI, 24, .inl (fun j => nI (sb j)))), (s4, .inl (cI, 24, .inl (fun j => nI (su j))))]) (w2 := (fun u => [(s0, .inr (4, [.ref s1, .ref s2, .ref s3, .ref s4, .ref s5, .ref s6, .ref s7, .int (nI bn), .int (nI ln)])), (s1, .inl (cI, 24, .inl (fun j => nI (sa j)))), (s2, .inl (cI, 24, .inl (fun j => nI (sb j)))), (s4, .inl (cI, 24, .inl (fun j => nI (su j)))), (s7, .inl (cI, 10, .inl ((gv_mkl (gv_mkl t (sa k) (sb k) (nI (su k))).1 (sb k) (sa k) (nI (su k))).1)))])) (va_runV (As := [.int (nI (sb k)), .int (nI (sa k)), .int (nI (su k))]) (rest := []) ⟨hx, hb, hml, hown, hts⟩ (ct_X4_makesLess l D cI cJ H.size s0 s1 s2 s3 s4 s5 s6 s7 bn ln (gv_mkl t (sa k) (sb k) (nI (su k))).1 (sb k) (sa k) (su k) (hsb k) (hsa k)) (cwV 3 hts gX4_tryEachLine_X4_makesLess rfl rfl rfl (by decide +kernel) ⟨Nat.le_of_ble_eq_true rfl, Nat.le_of_ble_eq_true rfl⟩) (gv_pV (wc := [(s0, .inr (4, [.ref s1, .ref s2, .ref s3, .ref s4, .ref s5, .ref s6, .ref s7, .int (nI bn), .int (nI ln)])), (s7, .inl (cI, 10, .inl ((gv_mkl t (sa k) (sb k) (nI (su k))).1)))]) hP hK hD hG [0, 4] rfl (by decide) 0 rfl rfl rfl) rfl rfl hl.1 rfl (lv_room (Nat.le_of_ble_eq_true rfl)) dX4_tryEachLine_56 ⟨Nat.le_of_ble_eq_true rfl, Nat.le_of_ble_eq_true rfl⟩) hP hD hS hA [0, 4] [1, 2, 3] [3, 0, 1, 2, 4] rfl rfl (by decide) (by decide) (fun u => rfl) (by decide) (fun r2 u H locs hr2 hP hD hS => ?_)
      have hP : va_P D vwCl [(s0, .inr (4, [.ref s1, .ref s2, .ref s3, .ref s4, .ref s5, .ref s6, .ref s7, .int (nI bn), .int (nI ln)])), (s1, .inl (cI, 24, .inl (fun j => nI (sa j)))), (s2, .inl (cI, 24, .inl (fun j => nI (sb j)))), (s4, .inl (cI, 24, .inl (fun j => nI (su j)))), (s7, .inl (cI, 10, .inl ((gv_mkl (gv_mkl t (sa k) (sb k) (nI (su k))).1 (sb k) (sa k) (nI (su k))).1)))] H := hP
      have hD : va_D A [(s0, .inr (4, [.ref s1, .ref s2, .ref s3, .ref s4, .ref s5, .ref s6, .ref s7, .int (nI bn), .int (nI ln)])), (s1, .inl (cI, 24, .inl (fun j => nI (sa j)))), (s2, .inl (cI, 24, .inl (fun j => nI (sb j)))), (s4, .inl (cI, 24, .inl (fun j => nI (su j)))), (s7, .inl (cI, 10, .inl ((gv_mkl (gv_mkl t (sa k) (sb k) (nI (su k))).1 (sb k) (sa k) (nI (su k))).1)))] := hD
      refine lv_if_eq (tgt := 64) hx hb dX4_tryEachLine_59 (by decide) (fun c_59 => ?_) (fun c_59 => ?_)
      · skip
        refine lv_iinc (v := nI (k + 1)) (lv' := [(2, .int (nI (k + 1))), (0, .ref s0), (1, .int fl)]) hx hb dX4_tryEachLine_64 hl (k := 2) rfl (nI_add k 1) (by decide) rfl (fun ls hl => ?_)
        refine lv_goto (tgt := 4) hx hb dX4_tryEachLine_67 (by decide) ?_
        exact ih_4 (k + 1, (gv_mkl (gv_mkl t (sa k) (sb k) (nI (su k))).1 (sb k) (sa k) (nI (su k))).1, fl) _ _ _ ⟨by omega, by rw [gv_rnd, ← het, gv_ln1]; first | rw [if_pos (by rw [← hr1]; exact c_34)] | rw [if_neg (by rw [← hr1]; exact fun z => z c_34), if_pos (by rw [← hr2]; exact c_59)] | rw [if_neg (by rw [← hr1]; exact fun z => z c_34), if_neg (by rw [← hr2]; exact fun z => z c_59)], by first | exact hfl | exact Or.inr rfl, hP, hD, hS, lv_sub hl [1, 2, 0] rfl⟩ (by simp only; omega)
      · skip
        refine lv_iconst (v := nI 1) hx hb dX4_tryEachLine_62 (by decide) ?_
        refine lv_istore_n (lv' := [(1, .int (nI 1)), (0, .ref s0), (2, .int (nI k))]) hx hb dX4_tryEachLine_63 rfl hl (by decide) rfl (fun ls hl => ?_)
        refine lv_iinc (v := nI (k + 1)) (lv' := [(2, .int (nI (k + 1))), (1, .int (nI 1)), (0, .ref s0)]) hx hb dX4_tryEachLine_64 hl (k := 2) rfl (nI_add k 1) (by decide) rfl (fun ls hl => ?_)
        refine lv_goto (tgt := 4) hx hb dX4_tryEachLine_67 (by decide) ?_
        exact ih_4 (k + 1, (gv_mkl (gv_mkl t (sa k) (sb k) (nI (su k))).1 (sb k) (sa k) (nI (su k))).1, nI 1) _ _ _ ⟨by omega, by rw [gv_rnd, ← het, gv_ln1]; first | rw [if_pos (by rw [← hr1]; exact c_34)] | rw [if_neg (by rw [← hr1]; exact fun z => z c_34), if_pos (by rw [← hr2]; exact c_59)] | rw [if_neg (by rw [← hr1]; exact fun z => z c_34), if_neg (by rw [← hr2]; exact fun z => z c_59)], by first | exact hfl | exact Or.inr rfl, hP, hD, hS, lv_sub hl [2, 1, 0] rfl⟩ (by simp only; omega)
set_option maxHeartbeats 4000000 in
set_option maxRecDepth 100000 in
theorem ct_X4_tryAllLines (l : Launch) (D : va_G) (cI cJ : ClassId) (sz : Nat) (s0 s1 s2 s3 s4 s5 s6 s7 bn ln : Nat) (sa sb su : Nat → Nat) (tt : Nat → Int32) (hsa : ∀ j, sa j < 10) (hsb : ∀ j, sb j < 10) (hln : ln ≤ 24) (hbn : bn ≤ 10) : Met l yX4_tryAllLines wsX4_tryAllLines ({ frames := 2, cells := 0, slots := 0, locals := 46 }) (va_Pc [.ref s0] (gv_B D cI cJ [(s0, .inr (4, [.ref s1, .ref s2, .ref s3, .ref s4, .ref s5, .ref s6, .ref s7, .int (nI bn), .int (nI ln)])), (s1, .inl (cI, 24, .inl (fun j => nI (sa j)))), (s2, .inl (cI, 24, .inl (fun j => nI (sb j)))), (s4, .inl (cI, 24, .inl (fun j => nI (su j)))), (s7, .inl (cI, 10, .inl tt))] sz)) (va_Qv (fun (u9 : Unit) => True) (fun (u9 : Unit) t9 =>  gv_W D (va_A [(s0, .inr (4, [.ref s1, .ref s2, .ref s3, .ref s4, .ref s5, .ref s6, .ref s7, .int (nI bn), .int (nI ln)])), (s1, .inl (cI, 24, .inl (fun j => nI (sa j)))), (s2, .inl (cI, 24, .inl (fun j => nI (sb j)))), (s4, .inl (cI, 24, .inl (fun j => nI (su j)))), (s7, .inl (cI, 10, .inl tt))] sz) [(s0, .inr (4, [.ref s1, .ref s2, .ref s3, .ref s4, .ref s5, .ref s6, .ref s7, .int (nI bn), .int (nI ln)])), (s1, .inl (cI, 24, .inl (fun j => nI (sa j)))), (s2, .inl (cI, 24, .inl (fun j => nI (sb j)))), (s4, .inl (cI, 24, .inl (fun j => nI (su j)))), (s7, .inl (cI, 10, .inl (gv_tal sa sb su ln bn (gv_ko tt, nI 1))))] t9) (va_A [(s0, .inr (4, [.ref s1, .ref s2, .ref s3, .ref s4, .ref s5, .ref s6, .ref s7, .int (nI bn), .int (nI ln)])), (s1, .inl (cI, 24, .inl (fun j => nI (sa j)))), (s2, .inl (cI, 24, .inl (fun j => nI (sb j)))), (s4, .inl (cI, 24, .inl (fun j => nI (su j)))), (s7, .inl (cI, 10, .inl tt))] sz)) 0 0 (va_A [(s0, .inr (4, [.ref s1, .ref s2, .ref s3, .ref s4, .ref s5, .ref s6, .ref s7, .int (nI bn), .int (nI ln)])), (s1, .inl (cI, 24, .inl (fun j => nI (sa j)))), (s2, .inl (cI, 24, .inl (fun j => nI (sb j)))), (s4, .inl (cI, 24, .inl (fun j => nI (su j)))), (s7, .inl (cI, 10, .inl tt))] sz) := by
  refine Met.ofW (cc := cX4_tryAllLines) (maxL := 3) (ret := none) (by decide) rfl ?_
  intro p e s m args below meth c s₁ B hml hv
  obtain ⟨rfl, hsz, hP, hK, hD0, hG⟩ := hv
  have hx := B.exec
  have hb := B.bytes
  have hr := B.returns
  have hts := atoms_spec (ws := wsX4_tryAllLines) B.pre
  have hown : s.vm.findClass RX4 = some m.cls := findClass_of_methodNamed B.named
  have hlocks := B.notSynchronized
  subst hsz
  have hD := hD0.self (sz := s.heap.size)
  generalize hAe : va_A [(s0, .inr (4, [.ref s1, .ref s2, .ref s3, .ref s4, .ref s5, .ref s6, .ref s7, .int (nI bn), .int (nI ln)])), (s1, .inl (cI, 24, .inl (fun j => nI (sa j)))), (s2, .inl (cI, 24, .inl (fun j => nI (sb j)))), (s4, .inl (cI, 24, .inl (fun j => nI (su j)))), (s7, .inl (cI, 10, .inl tt))] s.heap.size = A at hD ⊢
  have hA : ∀ q : Nat, s.heap.size ≤ q → A q := fun q h => by rw [← hAe]; exact Or.inr h
  have hS : va_S A s.heap s.heap [] := va_S.rf
  have hP : va_P D vwCl [(s0, .inr (4, [.ref s1, .ref s2, .ref s3, .ref s4, .ref s5, .ref s6, .ref s7, .int (nI bn), .int (nI ln)])), (s1, .inl (cI, 24, .inl (fun j => nI (sa j)))), (s2, .inl (cI, 24, .inl (fun j => nI (sb j)))), (s4, .inl (cI, 24, .inl (fun j => nI (su j)))), (s7, .inl (cI, 10, .inl tt))] s.heap := hP
  have hl := lv_entry ([.ref s0]) (n := 3) (Nat.le_of_ble_eq_true rfl)
  rw [lg_entry_eq]
  generalize (lg_sl ([.ref s0]) ++ List.replicate (3 - (lg_sl ([.ref s0])).length) Slot.unset).toArray = ls at hl ⊢
  have hl : lv_has ls 3 [(0, .ref s0)] := hl
  refine lv_aload_n hx hb dX4_tryAllLines_0 rfl (lv_at hl 0 rfl) ?_
  refine va_get (D := D) (ci := 4) (v := .ref s7) (C := RX4) (T := TX4) (N := 9) hx hb hts gv_in_X4_tryAllLines_X4 hown hK hP 0 rfl rfl 6 (by decide) (hts (.fieldLink RX4 30 "Gravimere$Survey" "triedDoubts" "[I") (by decide +kernel)) (fun _ h9 => h9) rfl dX4_tryAllLines_1 ?_
  refine gv_mv (wc := [(s7, .inl (cI, 10, .inl tt))]) (wr := [(s0, .inr (4, [.ref s1, .ref s2, .ref s3, .ref s4, .ref s5, .ref s6, .ref s7, .int (nI bn), .int (nI ln)])), (s1, .inl (cI, 24, .inl (fun j => nI (sa j)))), (s2, .inl (cI, 24, .inl (fun j => nI (sb j)))), (s4, .inl (cI, 24, .inl (fun j => nI (su j))))]) (w2 := (fun u => [(s0, .inr (4, [.ref s1, .ref s2, .ref s3, .ref s4, .ref s5, .ref s6, .ref s7, .int (nI bn), .int (nI ln)])), (s1, .inl (cI, 24, .inl (fun j => nI (sa j)))), (s2, .inl (cI, 24, .inl (fun j => nI (sb j)))), (s4, .inl (cI, 24, .inl (fun j => nI (su j)))), (s7, .inl (cI, 10, .inl (gv_ko tt)))])) (va_runS (As := [.ref s7]) (rest := []) ⟨hx, hb, hml, hown, hts⟩ (ct_X4_knowOnlyFirst l D cI cJ s.heap.size s7 tt) (va_cwS 1 hts gX4_tryAllLines_X4_knowOnlyFirst rfl rfl rfl (by decide +kernel) ⟨Nat.le_of_ble_eq_true rfl, Nat.le_of_ble_eq_true rfl⟩) (gv_pS (wc := [(s7, .inl (cI, 10, .inl tt))]) hP hK hD hG [4] rfl (by decide)) rfl rfl hl.1 rfl (lv_room (Nat.le_of_ble_eq_true rfl)) dX4_tryAllLines_4 ⟨Nat.le_of_ble_eq_true rfl, Nat.le_of_ble_eq_true rfl⟩) hP hD hS hA [4] [0, 1, 2, 3] [0, 1, 2, 3, 4] rfl rfl (by decide) (by decide) (fun u => rfl) (by decide) (fun u H locs hr_2 hP hD hS => ?_)
  have hP : va_P D vwCl [(s0, .inr (4, [.ref s1, .ref s2, .ref s3, .ref s4, .ref s5, .ref s6, .ref s7, .int (nI bn), .int (nI ln)])), (s1, .inl (cI, 24, .inl (fun j => nI (sa j)))), (s2, .inl (cI, 24, .inl (fun j => nI (sb j)))), (s4, .inl (cI, 24, .inl (fun j => nI (su j)))), (s7, .inl (cI, 10, .inl (gv_ko tt)))] H := hP
  have hD : va_D A [(s0, .inr (4, [.ref s1, .ref s2, .ref s3, .ref s4, .ref s5, .ref s6, .ref s7, .int (nI bn), .int (nI ln)])), (s1, .inl (cI, 24, .inl (fun j => nI (sa j)))), (s2, .inl (cI, 24, .inl (fun j => nI (sb j)))), (s4, .inl (cI, 24, .inl (fun j => nI (su j)))), (s7, .inl (cI, 10, .inl (gv_ko tt)))] := hD
  refine lv_iconst (v := nI 1) hx hb dX4_tryAllLines_7 (by decide) ?_
  refine lv_istore_n (lv' := [(1, .int (nI 1)), (0, .ref s0)]) hx hb dX4_tryAllLines_8 rfl hl (by decide) rfl (fun ls hl => ?_)
  refine lv_iconst (v := nI 0) hx hb dX4_tryAllLines_9 (by decide) ?_
  refine lv_istore_n (lv' := [(2, .int (nI 0)), (1, .int (nI 1)), (0, .ref s0)]) hx hb dX4_tryAllLines_10 rfl hl (by decide) rfl (fun ls hl => ?_)
  refine gv_lm (σ := Nat × (Nat → Int32) × Int32) (fun zq H locs ls => match zq with | (ro, t, fl) => ro ≤ 10 ∧ gv_tal sa sb su ln (bn - ro) (t, fl) = gv_tal sa sb su ln bn (gv_ko tt, nI 1) ∧ va_P D vwCl [(s0, .inr (4, [.ref s1, .ref s2, .ref s3, .ref s4, .ref s5, .ref s6, .ref s7, .int (nI bn), .int (nI ln)])), (s1, .inl (cI, 24, .inl (fun j => nI (sa j)))), (s2, .inl (cI, 24, .inl (fun j => nI (sb j)))), (s4, .inl (cI, 24, .inl (fun j => nI (su j)))), (s7, .inl (cI, 10, .inl t))] H ∧ va_D A [(s0, .inr (4, [.ref s1, .ref s2, .ref s3, .ref s4, .ref s5, .ref s6, .ref s7, .int (nI bn), .int (nI ln)])), (s1, .inl (cI, 24, .inl (fun j => nI (sa j)))), (s2, .inl (cI, 24, .inl (fun j => nI (sb j)))), (s4, .inl (cI, 24, .inl (fun j => nI (su j)))), (s7, .inl (cI, 10, .inl t))] ∧ va_S A s.heap H locs ∧ lv_has ls 3 [(0, .ref s0), (1, .int fl), (2, .int (nI ro))]) (fun zq => match zq with | (ro, t, fl) => bn - ro) (0, gv_ko tt, nI 1) ⟨by omega, rfl, hP, hD, hS, lv_sub hl [2, 1, 0] rfl⟩ (fun zq H locs ls hI ih_11 => ?_)
  obtain ⟨ro, t, fl⟩ := zq
  obtain ⟨hro2, htal, hP, hD, hS, hl⟩ := hI
  have hro : ro < 2 ^ 31 ∨ bn ≤ ro := by omega
  refine lv_iload_n hx hb dX4_tryAllLines_11 rfl (lv_at hl 2 rfl) ?_
  refine lv_aload_n hx hb dX4_tryAllLines_12 rfl (lv_at hl 0 rfl) ?_
  refine va_get (D := D) (ci := 4) (v := .int (nI bn)) (C := RX4) (T := TX4) (N := 9) hx hb hts gv_in_X4_tryAllLines_X4 hown hK hP 0 rfl rfl 7 (by decide) (hts (.fieldLink RX4 33 "Gravimere$Survey" "benchmarks" "I") (by decide +kernel)) (fun _ h9 => h9) rfl dX4_tryAllLines_13 ?_
  refine lv_icmp_ge (tgt := 34) hx hb dX4_tryAllLines_16 (by decide) (fun c_16 => ?_) (fun c_16 => ?_)
  · skip
    have c_16 := (nI_leI (a := bn) (b := ro) (by omega) (by omega)).mp c_16
    have hpo : True := by
      trivial
    have hP9 : va_P D vwCl [(s0, .inr (4, [.ref s1, .ref s2, .ref s3, .ref s4, .ref s5, .ref s6, .ref s7, .int (nI bn), .int (nI ln)])), (s1, .inl (cI, 24, .inl (fun j => nI (sa j)))), (s2, .inl (cI, 24, .inl (fun j => nI (sb j)))), (s4, .inl (cI, 24, .inl (fun j => nI (su j)))), (s7, .inl (cI, 10, .inl (gv_tal sa sb su ln bn (gv_ko tt, nI 1))))] H := by rw [← htal]; first | (rw [show bn - ro = 0 by omega]; exact hP) | (rw [gv_tal_no c_20]; exact hP)
    have hD9 : va_D A [(s0, .inr (4, [.ref s1, .ref s2, .ref s3, .ref s4, .ref s5, .ref s6, .ref s7, .int (nI bn), .int (nI ln)])), (s1, .inl (cI, 24, .inl (fun j => nI (sa j)))), (s2, .inl (cI, 24, .inl (fun j => nI (sb j)))), (s4, .inl (cI, 24, .inl (fun j => nI (su j)))), (s7, .inl (cI, 10, .inl (gv_tal sa sb su ln bn (gv_ko tt, nI 1))))] := by rw [← htal]; first | (rw [show bn - ro = 0 by omega]; exact hD) | (rw [gv_tal_no c_20]; exact hD)
    exact W.vret hx hb hr (fun t9 ht9 hW9 => ⟨⟨(), rfl, hpo, by rw [ht9]; exact hP9, hD9⟩, hS.F ht9⟩) hS.2.2 dX4_tryAllLines_34
  · skip
    have c_16 := (not_congr (nI_leI (a := bn) (b := ro) (by omega) (by omega))).mp c_16
    refine lv_iload_n hx hb dX4_tryAllLines_19 rfl (lv_at hl 1 rfl) ?_
    refine lv_if_eq (tgt := 34) hx hb dX4_tryAllLines_20 (by decide) (fun c_20 => ?_) (fun c_20 => ?_)
    · skip
      have hpo : True := by
        trivial
      have hP9 : va_P D vwCl [(s0, .inr (4, [.ref s1, .ref s2, .ref s3, .ref s4, .ref s5, .ref s6, .ref s7, .int (nI bn), .int (nI ln)])), (s1, .inl (cI, 24, .inl (fun j => nI (sa j)))), (s2, .inl (cI, 24, .inl (fun j => nI (sb j)))), (s4, .inl (cI, 24, .inl (fun j => nI (su j)))), (s7, .inl (cI, 10, .inl (gv_tal sa sb su ln bn (gv_ko tt, nI 1))))] H := by rw [← htal]; first | (rw [show bn - ro = 0 by omega]; exact hP) | (rw [gv_tal_no c_20]; exact hP)
      have hD9 : va_D A [(s0, .inr (4, [.ref s1, .ref s2, .ref s3, .ref s4, .ref s5, .ref s6, .ref s7, .int (nI bn), .int (nI ln)])), (s1, .inl (cI, 24, .inl (fun j => nI (sa j)))), (s2, .inl (cI, 24, .inl (fun j => nI (sb j)))), (s4, .inl (cI, 24, .inl (fun j => nI (su j)))), (s7, .inl (cI, 10, .inl (gv_tal sa sb su ln bn (gv_ko tt, nI 1))))] := by rw [← htal]; first | (rw [show bn - ro = 0 by omega]; exact hD) | (rw [gv_tal_no c_20]; exact hD)
      exact W.vret hx hb hr (fun t9 ht9 hW9 => ⟨⟨(), rfl, hpo, by rw [ht9]; exact hP9, hD9⟩, hS.F ht9⟩) hS.2.2 dX4_tryAllLines_34
    · skip
      refine lv_aload_n hx hb dX4_tryAllLines_23 rfl (lv_at hl 0 rfl) ?_
      refine gv_mi (wc := [(s0, .inr (4, [.ref s1, .ref s2, .ref s3, .ref s4, .ref s5, .ref s6, .ref s7, .int (nI bn), .int (nI ln)])), (s1, .inl (cI, 24, .inl (fun j => nI (sa j)))), (s2, .inl (cI, 24, .inl (fun j => nI (sb j)))), (s4, .inl (cI, 24, .inl (fun j => nI (su j)))), (s7, .inl (cI, 10, .inl t))]) (wr := []) (w2 := (fun u => [(s0, .inr (4, [.ref s1, .ref s2, .ref s3, .ref s4, .ref s5, .ref s6, .ref s7, .int (nI bn), .int (nI ln)])), (s1, .inl (cI, 24, .inl (fun j => nI (sa j)))), (s2, .inl (cI, 24, .inl (fun j => nI (sb j)))), (s4, .inl (cI, 24, .inl (fun j => nI (su j)))), (s7, .inl (cI, 10, .inl ((gv_rnd sa sb su t ln).1)))])) (va_runV (As := []) (rest := []) ⟨hx, hb, hml, hown, hts⟩ (ct_X4_tryEachLine l D cI cJ H.size s0 s1 s2 s3 s4 s5 s6 s7 bn ln sa sb su t hsa hsb hln) (cwV 0 hts gX4_tryAllLines_X4_tryEachLine rfl rfl rfl (by decide +kernel) ⟨Nat.le_of_ble_eq_true rfl, Nat.le_of_ble_eq_true rfl⟩) (gv_pV (wc := [(s0, .inr (4, [.ref s1, .ref s2, .ref s3, .ref s4, .ref s5, .ref s6, .ref s7, .int (nI bn), .int (nI ln)])), (s1, .inl (cI, 24, .inl (fun j => nI (sa j)))), (s2, .inl (cI, 24, .inl (fun j => nI (sb j)))), (s4, .inl (cI, 24, .inl (fun j => nI (su j)))), (s7, .inl (cI, 10, .inl t))]) hP hK hD hG [0, 1, 2, 3, 4] rfl (by decide) 0 rfl rfl rfl) rfl rfl hl.1 rfl (lv_room (Nat.le_of_ble_eq_true rfl)) dX4_tryAllLines_24 ⟨Nat.le_of_ble_eq_true rfl, Nat.le_of_ble_eq_true rfl⟩) hP hD hS hA [0, 1, 2, 3, 4] [] [0, 1, 2, 3, 4] rfl rfl (by decide) (by decide) (fun u => rfl) (by decide) (fun rf u H locs hrf hP hD hS => ?_)
      have hP : va_P D vwCl [(s0, .inr (4, [.ref s1, .ref s2, .ref s3, .ref s4, .ref s5, .ref s6, .ref s7, .int (nI bn), .int (nI ln)])), (s1, .inl (cI, 24, .inl (fun j => nI (sa j)))), (s2, .inl (cI, 24, .inl (fun j => nI (sb j)))), (s4, .inl (cI, 24, .inl (fun j => nI (su j)))), (s7, .inl (cI, 10, .inl ((gv_rnd sa sb su t ln).1)))] H := hP
      have hD : va_D A [(s0, .inr (4, [.ref s1, .ref s2, .ref s3, .ref s4, .ref s5, .ref s6, .ref s7, .int (nI bn), .int (nI ln)])), (s1, .inl (cI, 24, .inl (fun j => nI (sa j)))), (s2, .inl (cI, 24, .inl (fun j => nI (sb j)))), (s4, .inl (cI, 24, .inl (fun j => nI (su j)))), (s7, .inl (cI, 10, .inl ((gv_rnd sa sb su t ln).1)))] := hD
      subst hrf
      refine lv_istore_n (lv' := [(1, .int ((gv_rnd sa sb su t ln).2)), (0, .ref s0), (2, .int (nI ro))]) hx hb dX4_tryAllLines_27 rfl hl (by decide) rfl (fun ls hl => ?_)
      refine lv_iinc (v := nI (ro + 1)) (lv' := [(2, .int (nI (ro + 1))), (1, .int ((gv_rnd sa sb su t ln).2)), (0, .ref s0)]) hx hb dX4_tryAllLines_28 hl (k := 2) rfl (nI_add ro 1) (by decide) rfl (fun ls hl => ?_)
      refine lv_goto (tgt := 11) hx hb dX4_tryAllLines_31 (by decide) ?_
      exact ih_11 (ro + 1, (gv_rnd sa sb su t ln).1, (gv_rnd sa sb su t ln).2) _ _ _ ⟨by omega, by rw [← htal, show bn - ro = (bn - (ro + 1)) + 1 by omega, gv_tal, if_neg c_20], hP, hD, hS, lv_sub hl [2, 1, 0] rfl⟩ (by simp only; omega)
end
section
theorem zz_last : True := trivial
end
