theorem gv_in_X4_findHeights_X4 : ∀ w ∈ wsX40, w ∈ wsX4_findHeights := by decide +kernel
theorem gv_in_X4_contradicts_X4 : ∀ w ∈ wsX40, w ∈ wsX4_contradicts := by decide +kernel
theorem gv_in_X4_makesLess_X4 : ∀ w ∈ wsX40, w ∈ wsX4_makesLess := by decide +kernel
theorem gv_in_X4_tryEachLine_X4 : ∀ w ∈ wsX40, w ∈ wsX4_tryEachLine := by decide +kernel
theorem gv_in_X4_tryAllLines_X4 : ∀ w ∈ wsX40, w ∈ wsX4_tryAllLines := by decide +kernel
set_option maxHeartbeats 4000000 in
set_option maxRecDepth 100000 in
theorem ct_X4_findHeights (l : Launch) (D : va_G) (cI cJ : ClassId) (sz : Nat) (s0 s1 s2 s3 s4 s5 s6 s7 bn ln : Nat) (sa sb su : Nat → Nat) (sr dd hh : Nat → Int32) (hsa : ∀ j, sa j < 10) (hsb : ∀ j, sb j < 10) (hln : ln ≤ 24) (hbn : bn ≤ 10) : Met l yX4_findHeights wsX4_findHeights ({ frames := 2, cells := 0, slots := 0, locals := 47 }) (va_Pc [.ref s0] (gv_B D cI cJ [(s0, .inr (4, [.ref s1, .ref s2, .ref s3, .ref s4, .ref s5, .ref s6, .ref s7, .int (nI bn), .int (nI ln)])), (s1, .inl (cI, 24, .inl (fun j => nI (sa j)))), (s2, .inl (cI, 24, .inl (fun j => nI (sb j)))), (s3, .inl (cI, 24, .inl sr)), (s4, .inl (cI, 24, .inl (fun j => nI (su j)))), (s5, .inl (cI, 10, .inl hh)), (s6, .inl (cI, 10, .inl dd))] sz)) (va_Qv (fun (u9 : Unit) => True) (fun (u9 : Unit) t9 => gv_W D (va_A [(s0, .inr (4, [.ref s1, .ref s2, .ref s3, .ref s4, .ref s5, .ref s6, .ref s7, .int (nI bn), .int (nI ln)])), (s1, .inl (cI, 24, .inl (fun j => nI (sa j)))), (s2, .inl (cI, 24, .inl (fun j => nI (sb j)))), (s3, .inl (cI, 24, .inl sr)), (s4, .inl (cI, 24, .inl (fun j => nI (su j)))), (s5, .inl (cI, 10, .inl hh)), (s6, .inl (cI, 10, .inl dd))] sz) [(s0, .inr (4, [.ref s1, .ref s2, .ref s3, .ref s4, .ref s5, .ref s6, .ref s7, .int (nI bn), .int (nI ln)])), (s1, .inl (cI, 24, .inl (fun j => nI (sa j)))), (s2, .inl (cI, 24, .inl (fun j => nI (sb j)))), (s3, .inl (cI, 24, .inl sr)), (s4, .inl (cI, 24, .inl (fun j => nI (su j)))), (s5, .inl (cI, 10, .inl ((gv_itr sa sb su sr ln (bn - 1) (gv_ko dd, upd hh 0 (nI 0))).2))), (s6, .inl (cI, 10, .inl ((gv_itr sa sb su sr ln (bn - 1) (gv_ko dd, upd hh 0 (nI 0))).1)))] t9) (va_A [(s0, .inr (4, [.ref s1, .ref s2, .ref s3, .ref s4, .ref s5, .ref s6, .ref s7, .int (nI bn), .int (nI ln)])), (s1, .inl (cI, 24, .inl (fun j => nI (sa j)))), (s2, .inl (cI, 24, .inl (fun j => nI (sb j)))), (s3, .inl (cI, 24, .inl sr)), (s4, .inl (cI, 24, .inl (fun j => nI (su j)))), (s5, .inl (cI, 10, .inl hh)), (s6, .inl (cI, 10, .inl dd))] sz)) 0 0 (va_A [(s0, .inr (4, [.ref s1, .ref s2, .ref s3, .ref s4, .ref s5, .ref s6, .ref s7, .int (nI bn), .int (nI ln)])), (s1, .inl (cI, 24, .inl (fun j => nI (sa j)))), (s2, .inl (cI, 24, .inl (fun j => nI (sb j)))), (s3, .inl (cI, 24, .inl sr)), (s4, .inl (cI, 24, .inl (fun j => nI (su j)))), (s5, .inl (cI, 10, .inl hh)), (s6, .inl (cI, 10, .inl dd))] sz) := by
  refine Met.ofW (cc := cX4_findHeights) (maxL := 3) (ret := none) (by decide) rfl ?_
  intro p e s m args below meth c s₁ B hml hv
  obtain ⟨rfl, hsz, hP, hK, hD0, hG⟩ := hv
  have hx := B.exec
  have hb := B.bytes
  have hr := B.returns
  have hts := atoms_spec (ws := wsX4_findHeights) B.pre
  have hown : s.vm.findClass RX4 = some m.cls := findClass_of_methodNamed B.named
  have hlocks := B.notSynchronized
  subst hsz
  have hD := hD0.self (sz := s.heap.size)
  generalize hAe : va_A [(s0, .inr (4, [.ref s1, .ref s2, .ref s3, .ref s4, .ref s5, .ref s6, .ref s7, .int (nI bn), .int (nI ln)])), (s1, .inl (cI, 24, .inl (fun j => nI (sa j)))), (s2, .inl (cI, 24, .inl (fun j => nI (sb j)))), (s3, .inl (cI, 24, .inl sr)), (s4, .inl (cI, 24, .inl (fun j => nI (su j)))), (s5, .inl (cI, 10, .inl hh)), (s6, .inl (cI, 10, .inl dd))] s.heap.size = A at hD ⊢
  have hA : ∀ q : Nat, s.heap.size ≤ q → A q := fun q h => by rw [← hAe]; exact Or.inr h
  have hS : va_S A s.heap s.heap [] := va_S.rf
  have hP : va_P D vwCl [(s0, .inr (4, [.ref s1, .ref s2, .ref s3, .ref s4, .ref s5, .ref s6, .ref s7, .int (nI bn), .int (nI ln)])), (s1, .inl (cI, 24, .inl (fun j => nI (sa j)))), (s2, .inl (cI, 24, .inl (fun j => nI (sb j)))), (s3, .inl (cI, 24, .inl sr)), (s4, .inl (cI, 24, .inl (fun j => nI (su j)))), (s5, .inl (cI, 10, .inl hh)), (s6, .inl (cI, 10, .inl dd))] s.heap := hP
  have hl := lv_entry ([.ref s0]) (n := 3) (Nat.le_of_ble_eq_true rfl)
  rw [lg_entry_eq]
  generalize (lg_sl ([.ref s0]) ++ List.replicate (3 - (lg_sl ([.ref s0])).length) Slot.unset).toArray = ls at hl ⊢
  have hl : lv_has ls 3 [(0, .ref s0)] := hl
  refine lv_aload_n hx hb dX4_findHeights_0 rfl (lv_at hl 0 rfl) ?_
  refine va_get (D := D) (ci := 4) (v := .ref s6) (C := RX4) (T := TX4) (N := 9) hx hb hts gv_in_X4_findHeights_X4 hown hK hP 0 rfl rfl 5 (by decide) (hts (.fieldLink RX4 27 "Gravimere$Survey" "doubts" "[I") (by decide +kernel)) (fun _ h9 => h9) rfl dX4_findHeights_1 ?_
  refine gv_mv (wc := [(s6, .inl (cI, 10, .inl dd))]) (wr := [(s0, .inr (4, [.ref s1, .ref s2, .ref s3, .ref s4, .ref s5, .ref s6, .ref s7, .int (nI bn), .int (nI ln)])), (s1, .inl (cI, 24, .inl (fun j => nI (sa j)))), (s2, .inl (cI, 24, .inl (fun j => nI (sb j)))), (s3, .inl (cI, 24, .inl sr)), (s4, .inl (cI, 24, .inl (fun j => nI (su j)))), (s5, .inl (cI, 10, .inl hh))]) (w2 := (fun u => [(s0, .inr (4, [.ref s1, .ref s2, .ref s3, .ref s4, .ref s5, .ref s6, .ref s7, .int (nI bn), .int (nI ln)])), (s1, .inl (cI, 24, .inl (fun j => nI (sa j)))), (s2, .inl (cI, 24, .inl (fun j => nI (sb j)))), (s3, .inl (cI, 24, .inl sr)), (s4, .inl (cI, 24, .inl (fun j => nI (su j)))), (s5, .inl (cI, 10, .inl hh)), (s6, .inl (cI, 10, .inl (gv_ko dd)))])) (va_runS (As := [.ref s6]) (rest := []) ⟨hx, hb, hml, hown, hts⟩ (ct_X4_knowOnlyFirst l D cI cJ s.heap.size s6 dd) (va_cwS 1 hts gX4_findHeights_X4_knowOnlyFirst rfl rfl rfl (by decide +kernel) ⟨Nat.le_of_ble_eq_true rfl, Nat.le_of_ble_eq_true rfl⟩) (gv_pS (wc := [(s6, .inl (cI, 10, .inl dd))]) hP hK hD hG [6] rfl (by decide)) rfl rfl hl.1 rfl (lv_room (Nat.le_of_ble_eq_true rfl)) dX4_findHeights_4 ⟨Nat.le_of_ble_eq_true rfl, Nat.le_of_ble_eq_true rfl⟩) hP hD hS hA [6] [0, 1, 2, 3, 4, 5] [0, 1, 2, 3, 4, 5, 6] rfl rfl (by decide) (by decide) (fun u => rfl) (by decide) (fun u H locs hr_2 hP hD hS => ?_)
  have hP : va_P D vwCl [(s0, .inr (4, [.ref s1, .ref s2, .ref s3, .ref s4, .ref s5, .ref s6, .ref s7, .int (nI bn), .int (nI ln)])), (s1, .inl (cI, 24, .inl (fun j => nI (sa j)))), (s2, .inl (cI, 24, .inl (fun j => nI (sb j)))), (s3, .inl (cI, 24, .inl sr)), (s4, .inl (cI, 24, .inl (fun j => nI (su j)))), (s5, .inl (cI, 10, .inl hh)), (s6, .inl (cI, 10, .inl (gv_ko dd)))] H := hP
  have hD : va_D A [(s0, .inr (4, [.ref s1, .ref s2, .ref s3, .ref s4, .ref s5, .ref s6, .ref s7, .int (nI bn), .int (nI ln)])), (s1, .inl (cI, 24, .inl (fun j => nI (sa j)))), (s2, .inl (cI, 24, .inl (fun j => nI (sb j)))), (s3, .inl (cI, 24, .inl sr)), (s4, .inl (cI, 24, .inl (fun j => nI (su j)))), (s5, .inl (cI, 10, .inl hh)), (s6, .inl (cI, 10, .inl (gv_ko dd)))] := hD
  refine lv_aload_n hx hb dX4_findHeights_7 rfl (lv_at hl 0 rfl) ?_
  refine va_get (D := D) (ci := 4) (v := .ref s5) (C := RX4) (T := TX4) (N := 9) hx hb hts gv_in_X4_findHeights_X4 hown hK hP 0 rfl rfl 4 (by decide) (hts (.fieldLink RX4 24 "Gravimere$Survey" "heights" "[I") (by decide +kernel)) (fun _ h9 => h9) rfl dX4_findHeights_8 ?_
  refine lv_iconst (v := nI 0) hx hb dX4_findHeights_11 (by decide) ?_
  refine lv_iconst (v := nI 0) hx hb dX4_findHeights_12 (by decide) ?_
  refine gv_is hx hb hK hP hD hS 5 (k := 0) rfl (by first | exact hsa _ | exact hsb _ | omega) (by decide) dX4_findHeights_13 (fun H locs hP hD hS => ?_)
  have hP : va_P D vwCl [(s0, .inr (4, [.ref s1, .ref s2, .ref s3, .ref s4, .ref s5, .ref s6, .ref s7, .int (nI bn), .int (nI ln)])), (s1, .inl (cI, 24, .inl (fun j => nI (sa j)))), (s2, .inl (cI, 24, .inl (fun j => nI (sb j)))), (s3, .inl (cI, 24, .inl sr)), (s4, .inl (cI, 24, .inl (fun j => nI (su j)))), (s5, .inl (cI, 10, .inl (upd hh 0 (nI 0)))), (s6, .inl (cI, 10, .inl (gv_ko dd)))] H := hP
  have hD : va_D A [(s0, .inr (4, [.ref s1, .ref s2, .ref s3, .ref s4, .ref s5, .ref s6, .ref s7, .int (nI bn), .int (nI ln)])), (s1, .inl (cI, 24, .inl (fun j => nI (sa j)))), (s2, .inl (cI, 24, .inl (fun j => nI (sb j)))), (s3, .inl (cI, 24, .inl sr)), (s4, .inl (cI, 24, .inl (fun j => nI (su j)))), (s5, .inl (cI, 10, .inl (upd hh 0 (nI 0)))), (s6, .inl (cI, 10, .inl (gv_ko dd)))] := hD
  refine lv_iconst (v := nI 1) hx hb dX4_findHeights_14 (by decide) ?_
  refine lv_istore_n (lv' := [(1, .int (nI 1)), (0, .ref s0)]) hx hb dX4_findHeights_15 rfl hl (by decide) rfl (fun ls hl => ?_)
  refine gv_lm (σ := Nat × (Nat → Int32) × (Nat → Int32)) (fun zq H locs ls => match zq with | (fo, d, h) => 1 ≤ fo ∧ fo ≤ 11 ∧ gv_itr sa sb su sr ln (bn - fo) (d, h) = gv_itr sa sb su sr ln (bn - 1) (gv_ko dd, upd hh 0 (nI 0)) ∧ va_P D vwCl [(s0, .inr (4, [.ref s1, .ref s2, .ref s3, .ref s4, .ref s5, .ref s6, .ref s7, .int (nI bn), .int (nI ln)])), (s1, .inl (cI, 24, .inl (fun j => nI (sa j)))), (s2, .inl (cI, 24, .inl (fun j => nI (sb j)))), (s3, .inl (cI, 24, .inl sr)), (s4, .inl (cI, 24, .inl (fun j => nI (su j)))), (s5, .inl (cI, 10, .inl h)), (s6, .inl (cI, 10, .inl d))] H ∧ va_D A [(s0, .inr (4, [.ref s1, .ref s2, .ref s3, .ref s4, .ref s5, .ref s6, .ref s7, .int (nI bn), .int (nI ln)])), (s1, .inl (cI, 24, .inl (fun j => nI (sa j)))), (s2, .inl (cI, 24, .inl (fun j => nI (sb j)))), (s3, .inl (cI, 24, .inl sr)), (s4, .inl (cI, 24, .inl (fun j => nI (su j)))), (s5, .inl (cI, 10, .inl h)), (s6, .inl (cI, 10, .inl d))] ∧ va_S A s.heap H locs ∧ lv_has ls 3 [(0, .ref s0), (1, .int (nI fo))]) (fun zq => match zq with | (fo, d, h) => bn - fo) (1, gv_ko dd, upd hh 0 (nI 0)) ⟨by omega, by omega, rfl, hP, hD, hS, lv_sub hl [1, 0] rfl⟩ (fun zq H locs ls hI ih_16 => ?_)
  obtain ⟨fo, d, h⟩ := zq
  obtain ⟨hfo, hfo2, hit, hP, hD, hS, hl⟩ := hI
  have hfoL : 1 ≤ fo := hfo
  refine lv_iload_n hx hb dX4_findHeights_16 rfl (lv_at hl 1 rfl) ?_
  refine lv_aload_n hx hb dX4_findHeights_17 rfl (lv_at hl 0 rfl) ?_
  refine va_get (D := D) (ci := 4) (v := .int (nI bn)) (C := RX4) (T := TX4) (N := 9) hx hb hts gv_in_X4_findHeights_X4 hown hK hP 0 rfl rfl 7 (by decide) (hts (.fieldLink RX4 33 "Gravimere$Survey" "benchmarks" "I") (by decide +kernel)) (fun _ h9 => h9) rfl dX4_findHeights_18 ?_
  refine lv_icmp_ge (tgt := 46) hx hb dX4_findHeights_21 (by decide) (fun c_21 => ?_) (fun c_21 => ?_)
  · skip
    have c_21 := (nI_leI (a := bn) (b := fo) (by omega) (by omega)).mp c_21
    have hpo : True := by
      trivial
    have hP9 : va_P D vwCl [(s0, .inr (4, [.ref s1, .ref s2, .ref s3, .ref s4, .ref s5, .ref s6, .ref s7, .int (nI bn), .int (nI ln)])), (s1, .inl (cI, 24, .inl (fun j => nI (sa j)))), (s2, .inl (cI, 24, .inl (fun j => nI (sb j)))), (s3, .inl (cI, 24, .inl sr)), (s4, .inl (cI, 24, .inl (fun j => nI (su j)))), (s5, .inl (cI, 10, .inl ((gv_itr sa sb su sr ln (bn - 1) (gv_ko dd, upd hh 0 (nI 0))).2))), (s6, .inl (cI, 10, .inl ((gv_itr sa sb su sr ln (bn - 1) (gv_ko dd, upd hh 0 (nI 0))).1)))] H := by rw [← hit, show bn - fo = 0 by omega]; exact hP
    have hD9 : va_D A [(s0, .inr (4, [.ref s1, .ref s2, .ref s3, .ref s4, .ref s5, .ref s6, .ref s7, .int (nI bn), .int (nI ln)])), (s1, .inl (cI, 24, .inl (fun j => nI (sa j)))), (s2, .inl (cI, 24, .inl (fun j => nI (sb j)))), (s3, .inl (cI, 24, .inl sr)), (s4, .inl (cI, 24, .inl (fun j => nI (su j)))), (s5, .inl (cI, 10, .inl ((gv_itr sa sb su sr ln (bn - 1) (gv_ko dd, upd hh 0 (nI 0))).2))), (s6, .inl (cI, 10, .inl ((gv_itr sa sb su sr ln (bn - 1) (gv_ko dd, upd hh 0 (nI 0))).1)))] := by rw [← hit, show bn - fo = 0 by omega]; exact hD
    exact W.vret hx hb hr (fun t9 ht9 hW9 => ⟨⟨(), rfl, hpo, by rw [ht9]; exact hP9, hD9⟩, hS.F ht9⟩) hS.2.2 dX4_findHeights_46
  · skip
    have c_21 := (not_congr (nI_leI (a := bn) (b := fo) (by omega) (by omega))).mp c_21
    refine lv_aload_n hx hb dX4_findHeights_24 rfl (lv_at hl 0 rfl) ?_
    refine gv_pi (va_runV (As := []) (rest := []) ⟨hx, hb, hml, hown, hts⟩ (ct_X4_surestLine l D cI cJ H.size s0 s1 s2 s3 s4 s5 s6 s7 bn ln sa sb su d hsa hsb hln) (cwV 0 hts gX4_findHeights_X4_surestLine rfl rfl rfl (by decide +kernel) ⟨Nat.le_of_ble_eq_true rfl, Nat.le_of_ble_eq_true rfl⟩) (gv_pV (wc := [(s0, .inr (4, [.ref s1, .ref s2, .ref s3, .ref s4, .ref s5, .ref s6, .ref s7, .int (nI bn), .int (nI ln)])), (s1, .inl (cI, 24, .inl (fun j => nI (sa j)))), (s2, .inl (cI, 24, .inl (fun j => nI (sb j)))), (s4, .inl (cI, 24, .inl (fun j => nI (su j)))), (s6, .inl (cI, 10, .inl d))]) hP hK hD hG [0, 1, 2, 4, 6] rfl (by decide) 0 rfl rfl rfl) rfl rfl hl.1 rfl (lv_room (Nat.le_of_ble_eq_true rfl)) dX4_findHeights_25 ⟨Nat.le_of_ble_eq_true rfl, Nat.le_of_ble_eq_true rfl⟩) (fun sl hsl => ?_)
    refine lv_istore_n (lv' := [(2, .int sl), (0, .ref s0), (1, .int (nI fo))]) hx hb dX4_findHeights_28 rfl hl (by decide) rfl (fun ls hl => ?_)
    refine lv_iload_n hx hb dX4_findHeights_29 rfl (lv_at hl 0 rfl) ?_
    refine lv_iconst (v := -1) hx hb dX4_findHeights_30 (by decide) ?_
    refine lv_icmp_ne (tgt := 35) hx hb dX4_findHeights_31 (by decide) (fun c_31 => ?_) (fun c_31 => ?_)
    · skip
      obtain ⟨j, hj, ej, -⟩ := gv_srl_n hln (by rw [← hsl]; exact c_31)
      have hsl2 : sl = nI j := hsl.trans (by rw [ej])
      have hgo := gv_itr_go (sr := sr) (q := (d, h)) (i := bn - fo) (j := bn - (fo + 1)) (k := j) (by omega) (by omega) (by rw [← hsl]; exact c_31) (by rw [ej])
      subst hsl2
      refine lv_aload_n hx hb dX4_findHeights_35 rfl (lv_at hl 1 rfl) ?_
      refine lv_iload_n hx hb dX4_findHeights_36 rfl (lv_at hl 0 rfl) ?_
      refine gv_mv (wc := [(s0, .inr (4, [.ref s1, .ref s2, .ref s3, .ref s4, .ref s5, .ref s6, .ref s7, .int (nI bn), .int (nI ln)])), (s1, .inl (cI, 24, .inl (fun j => nI (sa j)))), (s2, .inl (cI, 24, .inl (fun j => nI (sb j)))), (s3, .inl (cI, 24, .inl sr)), (s4, .inl (cI, 24, .inl (fun j => nI (su j)))), (s5, .inl (cI, 10, .inl h)), (s6, .inl (cI, 10, .inl d))]) (wr := []) (w2 := (fun u => [(s0, .inr (4, [.ref s1, .ref s2, .ref s3, .ref s4, .ref s5, .ref s6, .ref s7, .int (nI bn), .int (nI ln)])), (s1, .inl (cI, 24, .inl (fun j => nI (sa j)))), (s2, .inl (cI, 24, .inl (fun j => nI (sb j)))), (s3, .inl (cI, 24, .inl sr)), (s4, .inl (cI, 24, .inl (fun j => nI (su j)))), (s5, .inl (cI, 10, .inl ((gv_stp sa sb su sr (d, h) j).2))), (s6, .inl (cI, 10, .inl ((gv_stp sa sb su sr (d, h) j).1)))])) (va_runV (As := [.int (nI j)]) (rest := []) ⟨hx, hb, hml, hown, hts⟩ (ct_X4_goAlong l D cI cJ H.size s0 s1 s2 s3 s4 s5 s6 s7 bn ln sa sb su sr d h j hsa hsb (by omega)) (cwV 1 hts gX4_findHeights_X4_goAlong rfl rfl rfl (by decide +kernel) ⟨Nat.le_of_ble_eq_true rfl, Nat.le_of_ble_eq_true rfl⟩) (gv_pV (wc := [(s0, .inr (4, [.ref s1, .ref s2, .ref s3, .ref s4, .ref s5, .ref s6, .ref s7, .int (nI bn), .int (nI ln)])), (s1, .inl (cI, 24, .inl (fun j => nI (sa j)))), (s2, .inl (cI, 24, .inl (fun j => nI (sb j)))), (s3, .inl (cI, 24, .inl sr)), (s4, .inl (cI, 24, .inl (fun j => nI (su j)))), (s5, .inl (cI, 10, .inl h)), (s6, .inl (cI, 10, .inl d))]) hP hK hD hG [0, 1, 2, 3, 4, 5, 6] rfl (by decide) 0 rfl rfl rfl) rfl rfl hl.1 rfl (lv_room (Nat.le_of_ble_eq_true rfl)) dX4_findHeights_37 ⟨Nat.le_of_ble_eq_true rfl, Nat.le_of_ble_eq_true rfl⟩) hP hD hS hA [0, 1, 2, 3, 4, 5, 6] [] [0, 1, 2, 3, 4, 5, 6] rfl rfl (by decide) (by decide) (fun u => rfl) (by decide) (fun u H locs hr_4 hP hD hS => ?_)
      have hP : va_P D vwCl [(s0, .inr (4, [.ref s1, .ref s2, .ref s3, .ref s4, .ref s5, .ref s6, .ref s7, .int (nI bn), .int (nI ln)])), (s1, .inl (cI, 24, .inl (fun j => nI (sa j)))), (s2, .inl (cI, 24, .inl (fun j => nI (sb j)))), (s3, .inl (cI, 24, .inl sr)), (s4, .inl (cI, 24, .inl (fun j => nI (su j)))), (s5, .inl (cI, 10, .inl ((gv_stp sa sb su sr (d, h) j).2))), (s6, .inl (cI, 10, .inl ((gv_stp sa sb su sr (d, h) j).1)))] H := hP
      have hD : va_D A [(s0, .inr (4, [.ref s1, .ref s2, .ref s3, .ref s4, .ref s5, .ref s6, .ref s7, .int (nI bn), .int (nI ln)])), (s1, .inl (cI, 24, .inl (fun j => nI (sa j)))), (s2, .inl (cI, 24, .inl (fun j => nI (sb j)))), (s3, .inl (cI, 24, .inl sr)), (s4, .inl (cI, 24, .inl (fun j => nI (su j)))), (s5, .inl (cI, 10, .inl ((gv_stp sa sb su sr (d, h) j).2))), (s6, .inl (cI, 10, .inl ((gv_stp sa sb su sr (d, h) j).1)))] := hD
      refine lv_iinc (v := nI (fo + 1)) (lv' := [(1, .int (nI (fo + 1))), (2, .int (nI j)), (0, .ref s0)]) hx hb dX4_findHeights_40 hl (k := 2) rfl (nI_add fo 1) (by decide) rfl (fun ls hl => ?_)
      refine lv_goto (tgt := 16) hx hb dX4_findHeights_43 (by decide) ?_
      exact ih_16 (fo + 1, (gv_stp sa sb su sr (d, h) j).1, (gv_stp sa sb su sr (d, h) j).2) _ _ _ ⟨by omega, by omega, by rw [← hit, hgo], hP, hD, hS, lv_sub hl [2, 0] rfl⟩ (by simp only; omega)
    · skip
      have hpo : True := by
        trivial
      have hP9 : va_P D vwCl [(s0, .inr (4, [.ref s1, .ref s2, .ref s3, .ref s4, .ref s5, .ref s6, .ref s7, .int (nI bn), .int (nI ln)])), (s1, .inl (cI, 24, .inl (fun j => nI (sa j)))), (s2, .inl (cI, 24, .inl (fun j => nI (sb j)))), (s3, .inl (cI, 24, .inl sr)), (s4, .inl (cI, 24, .inl (fun j => nI (su j)))), (s5, .inl (cI, 10, .inl ((gv_itr sa sb su sr ln (bn - 1) (gv_ko dd, upd hh 0 (nI 0))).2))), (s6, .inl (cI, 10, .inl ((gv_itr sa sb su sr ln (bn - 1) (gv_ko dd, upd hh 0 (nI 0))).1)))] H := by rw [← hit, gv_itr_no (hsl.symm.trans c_31)]; exact hP
      have hD9 : va_D A [(s0, .inr (4, [.ref s1, .ref s2, .ref s3, .ref s4, .ref s5, .ref s6, .ref s7, .int (nI bn), .int (nI ln)])), (s1, .inl (cI, 24, .inl (fun j => nI (sa j)))), (s2, .inl (cI, 24, .inl (fun j => nI (sb j)))), (s3, .inl (cI, 24, .inl sr)), (s4, .inl (cI, 24, .inl (fun j => nI (su j)))), (s5, .inl (cI, 10, .inl ((gv_itr sa sb su sr ln (bn - 1) (gv_ko dd, upd hh 0 (nI 0))).2))), (s6, .inl (cI, 10, .inl ((gv_itr sa sb su sr ln (bn - 1) (gv_ko dd, upd hh 0 (nI 0))).1)))] := by rw [← hit, gv_itr_no (hsl.symm.trans c_31)]; exact hD
      exact W.vret hx hb hr (fun t9 ht9 hW9 => ⟨⟨(), rfl, hpo, by rw [ht9]; exact hP9, hD9⟩, hS.F ht9⟩) hS.2.2 dX4_findHeights_34
set_option maxHeartbeats 4000000 in
set_option maxRecDepth 100000 in
theorem ct_X4_contradicts (l : Launch) (D : va_G) (cI cJ : ClassId) (sz : Nat) (s0 s1 s2 s3 s4 s5 s6 s7 bn ln : Nat) (sa sb su : Nat → Nat) (sr dd hh : Nat → Int32) (k : Nat) (hsa : ∀ j, sa j < 10) (hsb : ∀ j, sb j < 10) (hk : k < 24) : Met l yX4_contradicts wsX4_contradicts ({ frames := 1, cells := 0, slots := 0, locals := 30 }) (va_Pc [.ref s0, .int (nI k)] (gv_B D cI cJ [(s0, .inr (4, [.ref s1, .ref s2, .ref s3, .ref s4, .ref s5, .ref s6, .ref s7, .int (nI bn), .int (nI ln)])), (s1, .inl (cI, 24, .inl (fun j => nI (sa j)))), (s2, .inl (cI, 24, .inl (fun j => nI (sb j)))), (s3, .inl (cI, 24, .inl sr)), (s4, .inl (cI, 24, .inl (fun j => nI (su j)))), (s5, .inl (cI, 10, .inl hh)), (s6, .inl (cI, 10, .inl dd))] sz)) (vp_Si (fun r9 : Int32 => (gv_con sa sb su sr dd hh k → r9 = nI 1) ∧ (¬ gv_con sa sb su sr dd hh k → r9 = nI 0))) 0 0 (fun _ => False) := by
  refine Met.ofW (cc := cX4_contradicts) (maxL := 5) (ret := (some .boolean)) (by decide) rfl ?_
  intro p e s m args below meth c s₁ B hml hv
  obtain ⟨rfl, hsz, hP, hK, hD0, hG⟩ := hv
  have hx := B.exec
  have hb := B.bytes
  have hr := B.returns
  have hts := atoms_spec (ws := wsX4_contradicts) B.pre
  have hown : s.vm.findClass RX4 = some m.cls := findClass_of_methodNamed B.named
  have hlocks := B.notSynchronized
  subst hsz
  have hD := hD0
  have hP : va_P D vwCl [(s0, .inr (4, [.ref s1, .ref s2, .ref s3, .ref s4, .ref s5, .ref s6, .ref s7, .int (nI bn), .int (nI ln)])), (s1, .inl (cI, 24, .inl (fun j => nI (sa j)))), (s2, .inl (cI, 24, .inl (fun j => nI (sb j)))), (s3, .inl (cI, 24, .inl sr)), (s4, .inl (cI, 24, .inl (fun j => nI (su j)))), (s5, .inl (cI, 10, .inl hh)), (s6, .inl (cI, 10, .inl dd))] s.heap := hP
  have hl := lv_entry ([.ref s0, .int (nI k)]) (n := 5) (Nat.le_of_ble_eq_true rfl)
  rw [lg_entry_eq]
  generalize (lg_sl ([.ref s0, .int (nI k)]) ++ List.replicate (5 - (lg_sl ([.ref s0, .int (nI k)])).length) Slot.unset).toArray = ls at hl ⊢
  have hl : lv_has ls 5 [(0, .ref s0), (1, .int (nI k))] := hl
  refine lv_aload_n hx hb dX4_contradicts_0 rfl (lv_at hl 0 rfl) ?_
  refine va_get (D := D) (ci := 4) (v := .ref s1) (C := RX4) (T := TX4) (N := 9) hx hb hts gv_in_X4_contradicts_X4 hown hK hP 0 rfl rfl 0 (by decide) (hts (.fieldLink RX4 9 "Gravimere$Survey" "starts" "[I") (by decide +kernel)) (fun _ h9 => h9) rfl dX4_contradicts_1 ?_
  refine lv_iload_n hx hb dX4_contradicts_4 rfl (lv_at hl 1 rfl) ?_
  refine gv_il hx hb hK hP 1 (k := k) rfl (by first | exact hsa _ | exact hsb _ | omega) (by decide) dX4_contradicts_5 ?_
  refine gv_wi (rfl) ?_
  refine lv_istore_n (lv' := [(2, .int (nI (sa k))), (0, .ref s0), (1, .int (nI k))]) hx hb dX4_contradicts_6 rfl hl (by decide) rfl (fun ls hl => ?_)
  refine lv_aload_n hx hb dX4_contradicts_7 rfl (lv_at hl 1 rfl) ?_
  refine va_get (D := D) (ci := 4) (v := .ref s2) (C := RX4) (T := TX4) (N := 9) hx hb hts gv_in_X4_contradicts_X4 hown hK hP 0 rfl rfl 1 (by decide) (hts (.fieldLink RX4 15 "Gravimere$Survey" "ends" "[I") (by decide +kernel)) (fun _ h9 => h9) rfl dX4_contradicts_8 ?_
  refine lv_iload_n hx hb dX4_contradicts_11 rfl (lv_at hl 2 rfl) ?_
  refine gv_il hx hb hK hP 2 (k := k) rfl (by first | exact hsa _ | exact hsb _ | omega) (by decide) dX4_contradicts_12 ?_
  refine gv_wi (rfl) ?_
  refine lv_istore_n (lv' := [(3, .int (nI (sb k))), (2, .int (nI (sa k))), (0, .ref s0), (1, .int (nI k))]) hx hb dX4_contradicts_13 rfl hl (by decide) rfl (fun ls hl => ?_)
  refine lv_aload_n hx hb dX4_contradicts_14 rfl (lv_at hl 2 rfl) ?_
  refine va_get (D := D) (ci := 4) (v := .ref s6) (C := RX4) (T := TX4) (N := 9) hx hb hts gv_in_X4_contradicts_X4 hown hK hP 0 rfl rfl 5 (by decide) (hts (.fieldLink RX4 27 "Gravimere$Survey" "doubts" "[I") (by decide +kernel)) (fun _ h9 => h9) rfl dX4_contradicts_15 ?_
  refine lv_iload_n hx hb dX4_contradicts_18 rfl (lv_at hl 1 rfl) ?_
  refine gv_il hx hb hK hP 6 (k := sa k) rfl (by first | exact hsa _ | exact hsb _ | omega) (by decide) dX4_contradicts_19 ?_
  refine lv_iconst (v := -1) hx hb dX4_contradicts_20 (by decide) ?_
  refine lv_icmp_eq (tgt := 34) hx hb dX4_contradicts_21 (by decide) (fun c_21 => ?_) (fun c_21 => ?_)
  · skip
    refine lv_iconst (v := nI 0) hx hb dX4_contradicts_34 (by decide) ?_
    have hpo : (gv_con sa sb su sr dd hh k → (nI 0) = nI 1) ∧ (¬ gv_con sa sb su sr dd hh k → (nI 0) = nI 0) := by
      exact ⟨fun z => by first | exact absurd c_21 z.1 | exact absurd c_31 z.2.1, fun _ => rfl⟩
    exact W.zret (v := nI 0) (ty := .boolean) hx hb hr rfl (fun t9 ht9 hW9 => ⟨(nI 0), rfl, hpo, ht9⟩) t_nil dX4_contradicts_35
  · skip
    refine lv_aload_n hx hb dX4_contradicts_24 rfl (lv_at hl 2 rfl) ?_
    refine va_get (D := D) (ci := 4) (v := .ref s6) (C := RX4) (T := TX4) (N := 9) hx hb hts gv_in_X4_contradicts_X4 hown hK hP 0 rfl rfl 5 (by decide) (hts (.fieldLink RX4 27 "Gravimere$Survey" "doubts" "[I") (by decide +kernel)) (fun _ h9 => h9) rfl dX4_contradicts_25 ?_
    refine lv_iload_n hx hb dX4_contradicts_28 rfl (lv_at hl 0 rfl) ?_
    refine gv_il hx hb hK hP 6 (k := sb k) rfl (by first | exact hsa _ | exact hsb _ | omega) (by decide) dX4_contradicts_29 ?_
    refine lv_iconst (v := -1) hx hb dX4_contradicts_30 (by decide) ?_
    refine lv_icmp_ne (tgt := 36) hx hb dX4_contradicts_31 (by decide) (fun c_31 => ?_) (fun c_31 => ?_)
    · skip
      refine lv_aload_n hx hb dX4_contradicts_36 rfl (lv_at hl 2 rfl) ?_
      refine va_get (D := D) (ci := 4) (v := .ref s3) (C := RX4) (T := TX4) (N := 9) hx hb hts gv_in_X4_contradicts_X4 hown hK hP 0 rfl rfl 2 (by decide) (hts (.fieldLink RX4 18 "Gravimere$Survey" "rises" "[I") (by decide +kernel)) (fun _ h9 => h9) rfl dX4_contradicts_37 ?_
      refine lv_iload_n hx hb dX4_contradicts_40 rfl (lv_at hl 3 rfl) ?_
      refine gv_il hx hb hK hP 3 (k := k) rfl (by first | exact hsa _ | exact hsb _ | omega) (by decide) dX4_contradicts_41 ?_
      refine lv_aload_n hx hb dX4_contradicts_42 rfl (lv_at hl 2 rfl) ?_
      refine va_get (D := D) (ci := 4) (v := .ref s5) (C := RX4) (T := TX4) (N := 9) hx hb hts gv_in_X4_contradicts_X4 hown hK hP 0 rfl rfl 4 (by decide) (hts (.fieldLink RX4 24 "Gravimere$Survey" "heights" "[I") (by decide +kernel)) (fun _ h9 => h9) rfl dX4_contradicts_43 ?_
      refine lv_iload_n hx hb dX4_contradicts_46 rfl (lv_at hl 0 rfl) ?_
      refine gv_il hx hb hK hP 5 (k := sb k) rfl (by first | exact hsa _ | exact hsb _ | omega) (by decide) dX4_contradicts_47 ?_
      refine lv_aload_n hx hb dX4_contradicts_48 rfl (lv_at hl 2 rfl) ?_
      refine va_get (D := D) (ci := 4) (v := .ref s5) (C := RX4) (T := TX4) (N := 9) hx hb hts gv_in_X4_contradicts_X4 hown hK hP 0 rfl rfl 4 (by decide) (hts (.fieldLink RX4 24 "Gravimere$Survey" "heights" "[I") (by decide +kernel)) (fun _ h9 => h9) rfl dX4_contradicts_49 ?_
      refine lv_iload_n hx hb dX4_contradicts_52 rfl (lv_at hl 1 rfl) ?_
      refine gv_il hx hb hK hP 5 (k := sa k) rfl (by first | exact hsa _ | exact hsb _ | omega) (by decide) dX4_contradicts_53 ?_
      refine lv_isub hx hb dX4_contradicts_54 ?_
      refine lv_isub hx hb dX4_contradicts_55 ?_
      refine va_mabs hx hb (hml.trans hl.1.symm) hown (hts (.methodLink RX4 56 yJ9_abs_0f7a4) (by decide +kernel)) (hts (.static yJ9_abs_0f7a4) (by decide +kernel)) (hts (.initialized RJ9) (by decide +kernel)) (hts (.code yJ9_abs_0f7a4 cJ9_abs_0f7a4 1 (some .int)) (by decide +kernel)) (Nat.le_of_ble_eq_true rfl) (Nat.le_of_ble_eq_true rfl) (Nat.le_of_ble_eq_true rfl) (Nat.le_of_ble_eq_true rfl) dX4_contradicts_56 ?_
      refine lv_istore (lv' := [(4, .int (if 0 ≤ ((sr k) - ((hh (sb k)) - (hh (sa k)))) then ((sr k) - ((hh (sb k)) - (hh (sa k)))) else 0 - ((sr k) - ((hh (sb k)) - (hh (sa k)))))), (3, .int (nI (sb k))), (2, .int (nI (sa k))), (0, .ref s0), (1, .int (nI k))]) hx hb dX4_contradicts_59 hl (by decide) rfl (fun ls hl => ?_)
      refine lv_iload hx hb dX4_contradicts_61 (lv_at hl 0 rfl) ?_
      refine lv_aload_n hx hb dX4_contradicts_63 rfl (lv_at hl 3 rfl) ?_
      refine va_get (D := D) (ci := 4) (v := .ref s4) (C := RX4) (T := TX4) (N := 9) hx hb hts gv_in_X4_contradicts_X4 hown hK hP 0 rfl rfl 3 (by decide) (hts (.fieldLink RX4 21 "Gravimere$Survey" "lineDoubts" "[I") (by decide +kernel)) (fun _ h9 => h9) rfl dX4_contradicts_64 ?_
      refine lv_iload_n hx hb dX4_contradicts_67 rfl (lv_at hl 4 rfl) ?_
      refine gv_il hx hb hK hP 4 (k := k) rfl (by first | exact hsa _ | exact hsb _ | omega) (by decide) dX4_contradicts_68 ?_
      refine gv_wi (rfl) ?_
      refine lv_aload_n hx hb dX4_contradicts_69 rfl (lv_at hl 3 rfl) ?_
      refine va_get (D := D) (ci := 4) (v := .ref s6) (C := RX4) (T := TX4) (N := 9) hx hb hts gv_in_X4_contradicts_X4 hown hK hP 0 rfl rfl 5 (by decide) (hts (.fieldLink RX4 27 "Gravimere$Survey" "doubts" "[I") (by decide +kernel)) (fun _ h9 => h9) rfl dX4_contradicts_70 ?_
      refine lv_iload_n hx hb dX4_contradicts_73 rfl (lv_at hl 2 rfl) ?_
      refine gv_il hx hb hK hP 6 (k := sa k) rfl (by first | exact hsa _ | exact hsb _ | omega) (by decide) dX4_contradicts_74 ?_
      refine lv_iadd hx hb dX4_contradicts_75 ?_
      refine lv_aload_n hx hb dX4_contradicts_76 rfl (lv_at hl 3 rfl) ?_
      refine va_get (D := D) (ci := 4) (v := .ref s6) (C := RX4) (T := TX4) (N := 9) hx hb hts gv_in_X4_contradicts_X4 hown hK hP 0 rfl rfl 5 (by decide) (hts (.fieldLink RX4 27 "Gravimere$Survey" "doubts" "[I") (by decide +kernel)) (fun _ h9 => h9) rfl dX4_contradicts_77 ?_
      refine lv_iload_n hx hb dX4_contradicts_80 rfl (lv_at hl 1 rfl) ?_
      refine gv_il hx hb hK hP 6 (k := sb k) rfl (by first | exact hsa _ | exact hsb _ | omega) (by decide) dX4_contradicts_81 ?_
      refine lv_iadd hx hb dX4_contradicts_82 ?_
      refine lv_icmp_le (tgt := 90) hx hb dX4_contradicts_83 (by decide) (fun c_83 => ?_) (fun c_83 => ?_)
      · skip
        refine lv_iconst (v := nI 0) hx hb dX4_contradicts_90 (by decide) ?_
        have hpo : (gv_con sa sb su sr dd hh k → (nI 0) = nI 1) ∧ (¬ gv_con sa sb su sr dd hh k → (nI 0) = nI 0) := by
          exact ⟨fun z => absurd z.2.2 (gv_len32 c_83), fun _ => rfl⟩
        exact W.zret (v := nI 0) (ty := .boolean) hx hb hr rfl (fun t9 ht9 hW9 => ⟨(nI 0), rfl, hpo, ht9⟩) t_nil dX4_contradicts_91
      · skip
        refine lv_iconst (v := nI 1) hx hb dX4_contradicts_86 (by decide) ?_
        refine lv_goto (tgt := 91) hx hb dX4_contradicts_87 (by decide) ?_
        have hpo : (gv_con sa sb su sr dd hh k → (nI 1) = nI 1) ∧ (¬ gv_con sa sb su sr dd hh k → (nI 1) = nI 0) := by
          exact ⟨fun _ => rfl, fun z => absurd ⟨c_21, c_31, gv_nle32 c_83⟩ z⟩
        exact W.zret (v := nI 1) (ty := .boolean) hx hb hr rfl (fun t9 ht9 hW9 => ⟨(nI 1), rfl, hpo, ht9⟩) t_nil dX4_contradicts_91
    · skip
      refine lv_iconst (v := nI 0) hx hb dX4_contradicts_34 (by decide) ?_
      have hpo : (gv_con sa sb su sr dd hh k → (nI 0) = nI 1) ∧ (¬ gv_con sa sb su sr dd hh k → (nI 0) = nI 0) := by
        exact ⟨fun z => by first | exact absurd c_21 z.1 | exact absurd c_31 z.2.1, fun _ => rfl⟩
      exact W.zret (v := nI 0) (ty := .boolean) hx hb hr rfl (fun t9 ht9 hW9 => ⟨(nI 0), rfl, hpo, ht9⟩) t_nil dX4_contradicts_35
set_option maxHeartbeats 4000000 in
set_option maxRecDepth 100000 in
theorem ct_X4_makesLess (l : Launch) (D : va_G) (cI cJ : ClassId) (sz : Nat) (s0 s1 s2 s3 s4 s5 s6 s7 bn ln : Nat) (tt : Nat → Int32) (f t u : Nat) (hf : f < 10) (ht : t < 10) : Met l yX4_makesLess wsX4_makesLess ({ frames := 0, cells := 0, slots := 0, locals := 0 }) (va_Pc [.ref s0, .int (nI f), .int (nI t), .int (nI u)] (gv_B D cI cJ [(s0, .inr (4, [.ref s1, .ref s2, .ref s3, .ref s4, .ref s5, .ref s6, .ref s7, .int (nI bn), .int (nI ln)])), (s7, .inl (cI, 10, .inl tt))] sz)) (va_Qi (fun (r9 : Int32) (u9 : Unit) => r9 = (gv_mkl tt f t (nI u)).2) (fun (u9 : Unit) t9 => gv_W D (va_A [(s0, .inr (4, [.ref s1, .ref s2, .ref s3, .ref s4, .ref s5, .ref s6, .ref s7, .int (nI bn), .int (nI ln)])), (s7, .inl (cI, 10, .inl tt))] sz) [(s0, .inr (4, [.ref s1, .ref s2, .ref s3, .ref s4, .ref s5, .ref s6, .ref s7, .int (nI bn), .int (nI ln)])), (s7, .inl (cI, 10, .inl ((gv_mkl tt f t (nI u)).1)))] t9) (va_A [(s0, .inr (4, [.ref s1, .ref s2, .ref s3, .ref s4, .ref s5, .ref s6, .ref s7, .int (nI bn), .int (nI ln)])), (s7, .inl (cI, 10, .inl tt))] sz)) 0 0 (va_A [(s0, .inr (4, [.ref s1, .ref s2, .ref s3, .ref s4, .ref s5, .ref s6, .ref s7, .int (nI bn), .int (nI ln)])), (s7, .inl (cI, 10, .inl tt))] sz) := by
  refine Met.ofW (cc := cX4_makesLess) (maxL := 5) (ret := (some .boolean)) (by decide) rfl ?_
  intro p e s m args below meth c s₁ B hml hv
  obtain ⟨rfl, hsz, hP, hK, hD0, hG⟩ := hv
  have hx := B.exec
  have hb := B.bytes
  have hr := B.returns
  have hts := atoms_spec (ws := wsX4_makesLess) B.pre
  have hown : s.vm.findClass RX4 = some m.cls := findClass_of_methodNamed B.named
  have hlocks := B.notSynchronized
  subst hsz
  have hD := hD0.self (sz := s.heap.size)
  generalize hAe : va_A [(s0, .inr (4, [.ref s1, .ref s2, .ref s3, .ref s4, .ref s5, .ref s6, .ref s7, .int (nI bn), .int (nI ln)])), (s7, .inl (cI, 10, .inl tt))] s.heap.size = A at hD ⊢
  have hA : ∀ q : Nat, s.heap.size ≤ q → A q := fun q h => by rw [← hAe]; exact Or.inr h
  have hS : va_S A s.heap s.heap [] := va_S.rf
  have hP : va_P D vwCl [(s0, .inr (4, [.ref s1, .ref s2, .ref s3, .ref s4, .ref s5, .ref s6, .ref s7, .int (nI bn), .int (nI ln)])), (s7, .inl (cI, 10, .inl tt))] s.heap := hP
  have hl := lv_entry ([.ref s0, .int (nI f), .int (nI t), .int (nI u)]) (n := 5) (Nat.le_of_ble_eq_true rfl)
  rw [lg_entry_eq]
  generalize (lg_sl ([.ref s0, .int (nI f), .int (nI t), .int (nI u)]) ++ List.replicate (5 - (lg_sl ([.ref s0, .int (nI f), .int (nI t), .int (nI u)])).length) Slot.unset).toArray = ls at hl ⊢
  have hl : lv_has ls 5 [(0, .ref s0), (1, .int (nI f)), (2, .int (nI t)), (3, .int (nI u))] := hl
  refine lv_aload_n hx hb dX4_makesLess_0 rfl (lv_at hl 0 rfl) ?_
  refine va_get (D := D) (ci := 4) (v := .ref s7) (C := RX4) (T := TX4) (N := 9) hx hb hts gv_in_X4_makesLess_X4 hown hK hP 0 rfl rfl 6 (by decide) (hts (.fieldLink RX4 30 "Gravimere$Survey" "triedDoubts" "[I") (by decide +kernel)) (fun _ h9 => h9) rfl dX4_makesLess_1 ?_
  refine lv_iload_n hx hb dX4_makesLess_4 rfl (lv_at hl 1 rfl) ?_
  refine gv_il hx hb hK hP 1 (k := f) rfl (by omega) (by decide) dX4_makesLess_5 ?_
  refine lv_iconst (v := -1) hx hb dX4_makesLess_6 (by decide) ?_
  refine lv_icmp_ne (tgt := 12) hx hb dX4_makesLess_7 (by decide) (fun c_7 => ?_) (fun c_7 => ?_)
  · skip
    refine lv_aload_n hx hb dX4_makesLess_12 rfl (lv_at hl 0 rfl) ?_
    refine va_get (D := D) (ci := 4) (v := .ref s7) (C := RX4) (T := TX4) (N := 9) hx hb hts gv_in_X4_makesLess_X4 hown hK hP 0 rfl rfl 6 (by decide) (hts (.fieldLink RX4 30 "Gravimere$Survey" "triedDoubts" "[I") (by decide +kernel)) (fun _ h9 => h9) rfl dX4_makesLess_13 ?_
    refine lv_iload_n hx hb dX4_makesLess_16 rfl (lv_at hl 1 rfl) ?_
    refine gv_il hx hb hK hP 1 (k := f) rfl (by omega) (by decide) dX4_makesLess_17 ?_
    refine lv_iload_n hx hb dX4_makesLess_18 rfl (lv_at hl 3 rfl) ?_
    refine lv_iadd hx hb dX4_makesLess_19 ?_
    refine lv_istore (lv' := [(4, .int ((tt f) + (nI u))), (0, .ref s0), (1, .int (nI f)), (2, .int (nI t)), (3, .int (nI u))]) hx hb dX4_makesLess_20 hl (by decide) rfl (fun ls hl => ?_)
    refine lv_aload_n hx hb dX4_makesLess_22 rfl (lv_at hl 1 rfl) ?_
    refine va_get (D := D) (ci := 4) (v := .ref s7) (C := RX4) (T := TX4) (N := 9) hx hb hts gv_in_X4_makesLess_X4 hown hK hP 0 rfl rfl 6 (by decide) (hts (.fieldLink RX4 30 "Gravimere$Survey" "triedDoubts" "[I") (by decide +kernel)) (fun _ h9 => h9) rfl dX4_makesLess_23 ?_
    refine lv_iload_n hx hb dX4_makesLess_26 rfl (lv_at hl 3 rfl) ?_
    refine gv_il hx hb hK hP 1 (k := t) rfl (by omega) (by decide) dX4_makesLess_27 ?_
    refine lv_iconst (v := -1) hx hb dX4_makesLess_28 (by decide) ?_
    refine lv_icmp_eq (tgt := 45) hx hb dX4_makesLess_29 (by decide) (fun c_29 => ?_) (fun c_29 => ?_)
    · skip
      refine lv_aload_n hx hb dX4_makesLess_45 rfl (lv_at hl 1 rfl) ?_
      refine va_get (D := D) (ci := 4) (v := .ref s7) (C := RX4) (T := TX4) (N := 9) hx hb hts gv_in_X4_makesLess_X4 hown hK hP 0 rfl rfl 6 (by decide) (hts (.fieldLink RX4 30 "Gravimere$Survey" "triedDoubts" "[I") (by decide +kernel)) (fun _ h9 => h9) rfl dX4_makesLess_46 ?_
      refine lv_iload_n hx hb dX4_makesLess_49 rfl (lv_at hl 3 rfl) ?_
      refine lv_iload hx hb dX4_makesLess_50 (lv_at hl 0 rfl) ?_
      refine gv_is hx hb hK hP hD hS 1 (k := t) rfl (by omega) (by decide) dX4_makesLess_52 (fun H locs hP hD hS => ?_)
      have hP : va_P D vwCl [(s0, .inr (4, [.ref s1, .ref s2, .ref s3, .ref s4, .ref s5, .ref s6, .ref s7, .int (nI bn), .int (nI ln)])), (s7, .inl (cI, 10, .inl (upd tt t ((tt f) + (nI u)))))] H := hP
      have hD : va_D A [(s0, .inr (4, [.ref s1, .ref s2, .ref s3, .ref s4, .ref s5, .ref s6, .ref s7, .int (nI bn), .int (nI ln)])), (s7, .inl (cI, 10, .inl (upd tt t ((tt f) + (nI u)))))] := hD
      refine lv_iconst (v := nI 1) hx hb dX4_makesLess_53 (by decide) ?_
      have hno : ¬ (¬ tt t = -1 ∧ tt t ≤ tt f + nI u) := fun z => by first | exact z.1 c_29 | exact gv_ltn32 c_40 z.2
      have hpo : (nI 1) = (gv_mkl tt f t (nI u)).2 := by
        rw [gv_mkl, if_neg c_7, if_neg hno]
      have hP9 : va_P D vwCl [(s0, .inr (4, [.ref s1, .ref s2, .ref s3, .ref s4, .ref s5, .ref s6, .ref s7, .int (nI bn), .int (nI ln)])), (s7, .inl (cI, 10, .inl ((gv_mkl tt f t (nI u)).1)))] H := by rw [gv_mkl, if_neg c_7, if_neg hno]; exact hP
      have hD9 : va_D A [(s0, .inr (4, [.ref s1, .ref s2, .ref s3, .ref s4, .ref s5, .ref s6, .ref s7, .int (nI bn), .int (nI ln)])), (s7, .inl (cI, 10, .inl ((gv_mkl tt f t (nI u)).1)))] := by rw [gv_mkl, if_neg c_7, if_neg hno]; exact hD
      exact W.zret (v := nI 1) (ty := .boolean) hx hb hr rfl (fun t9 ht9 hW9 => ⟨⟨(nI 1), (), rfl, hpo, by rw [ht9]; exact hP9, hD9⟩, hS.F ht9⟩) hS.2.2 dX4_makesLess_54
    · skip
      refine lv_aload_n hx hb dX4_makesLess_32 rfl (lv_at hl 1 rfl) ?_
      refine va_get (D := D) (ci := 4) (v := .ref s7) (C := RX4) (T := TX4) (N := 9) hx hb hts gv_in_X4_makesLess_X4 hown hK hP 0 rfl rfl 6 (by decide) (hts (.fieldLink RX4 30 "Gravimere$Survey" "triedDoubts" "[I") (by decide +kernel)) (fun _ h9 => h9) rfl dX4_makesLess_33 ?_
      refine lv_iload_n hx hb dX4_makesLess_36 rfl (lv_at hl 3 rfl) ?_
      refine gv_il hx hb hK hP 1 (k := t) rfl (by omega) (by decide) dX4_makesLess_37 ?_
      refine lv_iload hx hb dX4_makesLess_38 (lv_at hl 0 rfl) ?_
      refine lv_icmp_gt (tgt := 45) hx hb dX4_makesLess_40 (by decide) (fun c_40 => ?_) (fun c_40 => ?_)
      · skip
        refine lv_aload_n hx hb dX4_makesLess_45 rfl (lv_at hl 1 rfl) ?_
        refine va_get (D := D) (ci := 4) (v := .ref s7) (C := RX4) (T := TX4) (N := 9) hx hb hts gv_in_X4_makesLess_X4 hown hK hP 0 rfl rfl 6 (by decide) (hts (.fieldLink RX4 30 "Gravimere$Survey" "triedDoubts" "[I") (by decide +kernel)) (fun _ h9 => h9) rfl dX4_makesLess_46 ?_
        refine lv_iload_n hx hb dX4_makesLess_49 rfl (lv_at hl 3 rfl) ?_
        refine lv_iload hx hb dX4_makesLess_50 (lv_at hl 0 rfl) ?_
        refine gv_is hx hb hK hP hD hS 1 (k := t) rfl (by omega) (by decide) dX4_makesLess_52 (fun H locs hP hD hS => ?_)
        have hP : va_P D vwCl [(s0, .inr (4, [.ref s1, .ref s2, .ref s3, .ref s4, .ref s5, .ref s6, .ref s7, .int (nI bn), .int (nI ln)])), (s7, .inl (cI, 10, .inl (upd tt t ((tt f) + (nI u)))))] H := hP
        have hD : va_D A [(s0, .inr (4, [.ref s1, .ref s2, .ref s3, .ref s4, .ref s5, .ref s6, .ref s7, .int (nI bn), .int (nI ln)])), (s7, .inl (cI, 10, .inl (upd tt t ((tt f) + (nI u)))))] := hD
        refine lv_iconst (v := nI 1) hx hb dX4_makesLess_53 (by decide) ?_
        have hno : ¬ (¬ tt t = -1 ∧ tt t ≤ tt f + nI u) := fun z => by first | exact z.1 c_29 | exact gv_ltn32 c_40 z.2
        have hpo : (nI 1) = (gv_mkl tt f t (nI u)).2 := by
          rw [gv_mkl, if_neg c_7, if_neg hno]
        have hP9 : va_P D vwCl [(s0, .inr (4, [.ref s1, .ref s2, .ref s3, .ref s4, .ref s5, .ref s6, .ref s7, .int (nI bn), .int (nI ln)])), (s7, .inl (cI, 10, .inl ((gv_mkl tt f t (nI u)).1)))] H := by rw [gv_mkl, if_neg c_7, if_neg hno]; exact hP
        have hD9 : va_D A [(s0, .inr (4, [.ref s1, .ref s2, .ref s3, .ref s4, .ref s5, .ref s6, .ref s7, .int (nI bn), .int (nI ln)])), (s7, .inl (cI, 10, .inl ((gv_mkl tt f t (nI u)).1)))] := by rw [gv_mkl, if_neg c_7, if_neg hno]; exact hD
        exact W.zret (v := nI 1) (ty := .boolean) hx hb hr rfl (fun t9 ht9 hW9 => ⟨⟨(nI 1), (), rfl, hpo, by rw [ht9]; exact hP9, hD9⟩, hS.F ht9⟩) hS.2.2 dX4_makesLess_54
      · skip
        refine lv_iconst (v := nI 0) hx hb dX4_makesLess_43 (by decide) ?_
        have hpo : (nI 0) = (gv_mkl tt f t (nI u)).2 := by
          rw [gv_mkl, if_neg c_7, if_pos ⟨c_29, gv_nlt32 c_40⟩]
        have hP9 : va_P D vwCl [(s0, .inr (4, [.ref s1, .ref s2, .ref s3, .ref s4, .ref s5, .ref s6, .ref s7, .int (nI bn), .int (nI ln)])), (s7, .inl (cI, 10, .inl ((gv_mkl tt f t (nI u)).1)))] s.heap := by rw [gv_mkl, if_neg c_7, if_pos ⟨c_29, gv_nlt32 c_40⟩]; exact hP
        have hD9 : va_D A [(s0, .inr (4, [.ref s1, .ref s2, .ref s3, .ref s4, .ref s5, .ref s6, .ref s7, .int (nI bn), .int (nI ln)])), (s7, .inl (cI, 10, .inl ((gv_mkl tt f t (nI u)).1)))] := by rw [gv_mkl, if_neg c_7, if_pos ⟨c_29, gv_nlt32 c_40⟩]; exact hD
        exact W.zret (v := nI 0) (ty := .boolean) hx hb hr rfl (fun t9 ht9 hW9 => ⟨⟨(nI 0), (), rfl, hpo, by rw [ht9]; exact hP9, hD9⟩, hS.F ht9⟩) hS.2.2 dX4_makesLess_44
  · skip
    refine lv_iconst (v := nI 0) hx hb dX4_makesLess_10 (by decide) ?_
    have hpo : (nI 0) = (gv_mkl tt f t (nI u)).2 := by
      rw [gv_mkl, if_pos c_7]
    have hP9 : va_P D vwCl [(s0, .inr (4, [.ref s1, .ref s2, .ref s3, .ref s4, .ref s5, .ref s6, .ref s7, .int (nI bn), .int (nI ln)])), (s7, .inl (cI, 10, .inl ((gv_mkl tt f t (nI u)).1)))] s.heap := by rw [gv_mkl, if_pos c_7]; exact hP
    have hD9 : va_D A [(s0, .inr (4, [.ref s1, .ref s2, .ref s3, .ref s4, .ref s5, .ref s6, .ref s7, .int (nI bn), .int (nI ln)])), (s7, .inl (cI, 10, .inl ((gv_mkl tt f t (nI u)).1)))] := by rw [gv_mkl, if_pos c_7]; exact hD
    exact W.zret (v := nI 0) (ty := .boolean) hx hb hr rfl (fun t9 ht9 hW9 => ⟨⟨(nI 0), (), rfl, hpo, by rw [ht9]; exact hP9, hD9⟩, hS.F ht9⟩) hS.2.2 dX4_makesLess_11
set_option maxHeartbeats 4000000 in
set_option maxRecDepth 100000 in
theorem ct_X4_tryEachLine (l : Launch) (D : va_G) (cI cJ : ClassId) (sz : Nat) (s0 s1 s2 s3 s4 s5 s6 s7 bn ln : Nat) (sa sb su : Nat → Nat) (tt : Nat → Int32) (hsa : ∀ j, sa j < 10) (hsb : ∀ j, sb j < 10) (hln : ln ≤ 24) : Met l yX4_tryEachLine wsX4_tryEachLine ({ frames := 1, cells := 0, slots := 0, locals := 24 }) (va_Pc [.ref s0] (gv_B D cI cJ [(s0, .inr (4, [.ref s1, .ref s2, .ref s3, .ref s4, .ref s5, .ref s6, .ref s7, .int (nI bn), .int (nI ln)])), (s1, .inl (cI, 24, .inl (fun j => nI (sa j)))), (s2, .inl (cI, 24, .inl (fun j => nI (sb j)))), (s4, .inl (cI, 24, .inl (fun j => nI (su j)))), (s7, .inl (cI, 10, .inl tt))] sz)) (va_Qi (fun (r9 : Int32) (u9 : Unit) => r9 = (gv_rnd sa sb su tt ln).2) (fun (u9 : Unit) t9 => gv_W D (va_A [(s0, .inr (4, [.ref s1, .ref s2, .ref s3, .ref s4, .ref s5, .ref s6, .ref s7, .int (nI bn), .int (nI ln)])), (s1, .inl (cI, 24, .inl (fun j => nI (sa j)))), (s2, .inl (cI, 24, .inl (fun j => nI (sb j)))), (s4, .inl (cI, 24, .inl (fun j => nI (su j)))), (s7, .inl (cI, 10, .inl tt))] sz) [(s0, .inr (4, [.ref s1, .ref s2, .ref s3, .ref s4, .ref s5, .ref s6, .ref s7, .int (nI bn), .int (nI ln)])), (s1, .inl (cI, 24, .inl (fun j => nI (sa j)))), (s2, .inl (cI, 24, .inl (fun j => nI (sb j)))), (s4, .inl (cI, 24, .inl (fun j => nI (su j)))), (s7, .inl (cI, 10, .inl ((gv_rnd sa sb su tt ln).1)))] t9) (va_A [(s0, .inr (4, [.ref s1, .ref s2, .ref s3, .ref s4, .ref s5, .ref s6, .ref s7, .int (nI bn), .int (nI ln)])), (s1, .inl (cI, 24, .inl (fun j => nI (sa j)))), (s2, .inl (cI, 24, .inl (fun j => nI (sb j)))), (s4, .inl (cI, 24, .inl (fun j => nI (su j)))), (s7, .inl (cI, 10, .inl tt))] sz)) 0 0 (va_A [(s0, .inr (4, [.ref s1, .ref s2, .ref s3, .ref s4, .ref s5, .ref s6, .ref s7, .int (nI bn), .int (nI ln)])), (s1, .inl (cI, 24, .inl (fun j => nI (sa j)))), (s2, .inl (cI, 24, .inl (fun j => nI (sb j)))), (s4, .inl (cI, 24, .inl (fun j => nI (su j)))), (s7, .inl (cI, 10, .inl tt))] sz) := by
  refine Met.ofW (cc := cX4_tryEachLine) (maxL := 3) (ret := (some .boolean)) (by decide) rfl ?_
  intro p e s m args below meth c s₁ B hml hv
  obtain ⟨rfl, hsz, hP, hK, hD0, hG⟩ := hv
  have hx := B.exec
  have hb := B.bytes
  have hr := B.returns
  have hts := atoms_spec (ws := wsX4_tryEachLine) B.pre
  have hown : s.vm.findClass RX4 = some m.cls := findClass_of_methodNamed B.named
  have hlocks := B.notSynchronized
  subst hsz
  have hD := hD0.self (sz := s.heap.size)
  generalize hAe : va_A [(s0, .inr (4, [.ref s1, .ref s2, .ref s3, .ref s4, .ref s5, .ref s6, .ref s7, .int (nI bn), .int (nI ln)])), (s1, .inl (cI, 24, .inl (fun j => nI (sa j)))), (s2, .inl (cI, 24, .inl (fun j => nI (sb j)))), (s4, .inl (cI, 24, .inl (fun j => nI (su j)))), (s7, .inl (cI, 10, .inl tt))] s.heap.size = A at hD ⊢
  have hA : ∀ q : Nat, s.heap.size ≤ q → A q := fun q h => by rw [← hAe]; exact Or.inr h
  have hS : va_S A s.heap s.heap [] := va_S.rf
  have hP : va_P D vwCl [(s0, .inr (4, [.ref s1, .ref s2, .ref s3, .ref s4, .ref s5, .ref s6, .ref s7, .int (nI bn), .int (nI ln)])), (s1, .inl (cI, 24, .inl (fun j => nI (sa j)))), (s2, .inl (cI, 24, .inl (fun j => nI (sb j)))), (s4, .inl (cI, 24, .inl (fun j => nI (su j)))), (s7, .inl (cI, 10, .inl tt))] s.heap := hP
  have hl := lv_entry ([.ref s0]) (n := 3) (Nat.le_of_ble_eq_true rfl)
  rw [lg_entry_eq]
  generalize (lg_sl ([.ref s0]) ++ List.replicate (3 - (lg_sl ([.ref s0])).length) Slot.unset).toArray = ls at hl ⊢
  have hl : lv_has ls 3 [(0, .ref s0)] := hl
  refine lv_iconst (v := nI 0) hx hb dX4_tryEachLine_0 (by decide) ?_
  refine lv_istore_n (lv' := [(1, .int (nI 0)), (0, .ref s0)]) hx hb dX4_tryEachLine_1 rfl hl (by decide) rfl (fun ls hl => ?_)
  refine lv_iconst (v := nI 0) hx hb dX4_tryEachLine_2 (by decide) ?_
  refine lv_istore_n (lv' := [(2, .int (nI 0)), (1, .int (nI 0)), (0, .ref s0)]) hx hb dX4_tryEachLine_3 rfl hl (by decide) rfl (fun ls hl => ?_)
  refine gv_lm (σ := Nat × (Nat → Int32) × Int32) (fun zq H locs ls => match zq with | (k, t, fl) => k ≤ ln ∧ (t, fl) = gv_rnd sa sb su tt k ∧ (fl = nI 0 ∨ fl = nI 1) ∧ va_P D vwCl [(s0, .inr (4, [.ref s1, .ref s2, .ref s3, .ref s4, .ref s5, .ref s6, .ref s7, .int (nI bn), .int (nI ln)])), (s1, .inl (cI, 24, .inl (fun j => nI (sa j)))), (s2, .inl (cI, 24, .inl (fun j => nI (sb j)))), (s4, .inl (cI, 24, .inl (fun j => nI (su j)))), (s7, .inl (cI, 10, .inl t))] H ∧ va_D A [(s0, .inr (4, [.ref s1, .ref s2, .ref s3, .ref s4, .ref s5, .ref s6, .ref s7, .int (nI bn), .int (nI ln)])), (s1, .inl (cI, 24, .inl (fun j => nI (sa j)))), (s2, .inl (cI, 24, .inl (fun j => nI (sb j)))), (s4, .inl (cI, 24, .inl (fun j => nI (su j)))), (s7, .inl (cI, 10, .inl t))] ∧ va_S A s.heap H locs ∧ lv_has ls 3 [(0, .ref s0), (1, .int fl), (2, .int (nI k))]) (fun zq => match zq with | (k, t, fl) => ln - k) (0, tt, nI 0) ⟨by omega, rfl, Or.inl rfl, hP, hD, hS, lv_sub hl [2, 1, 0] rfl⟩ (fun zq H locs ls hI ih_4 => ?_)
  obtain ⟨k, t, fl⟩ := zq
  obtain ⟨hk, het, hfl, hP, hD, hS, hl⟩ := hI
  refine lv_iload_n hx hb dX4_tryEachLine_4 rfl (lv_at hl 2 rfl) ?_
  refine lv_aload_n hx hb dX4_tryEachLine_5 rfl (lv_at hl 0 rfl) ?_
  refine va_get (D := D) (ci := 4) (v := .int (nI ln)) (C := RX4) (T := TX4) (N := 9) hx hb hts gv_in_X4_tryEachLine_X4 hown hK hP 0 rfl rfl 8 (by decide) (hts (.fieldLink RX4 37 "Gravimere$Survey" "lines" "I") (by decide +kernel)) (fun _ h9 => h9) rfl dX4_tryEachLine_6 ?_
  refine lv_icmp_ge (tgt := 70) hx hb dX4_tryEachLine_9 (by decide) (fun c_9 => ?_) (fun c_9 => ?_)
  · skip
    have c_9 := (nI_leI (a := ln) (b := k) (by omega) (by omega)).mp c_9
    refine lv_iload_n hx hb dX4_tryEachLine_70 rfl (lv_at hl 1 rfl) ?_
    have hkl : k = ln := by omega
    rw [hkl] at het
    have hz1 : t = (gv_rnd sa sb su tt ln).1 := congrArg Prod.fst het
    have hpo : fl = (gv_rnd sa sb su tt ln).2 := by
      exact congrArg Prod.snd het
    have hP9 : va_P D vwCl [(s0, .inr (4, [.ref s1, .ref s2, .ref s3, .ref s4, .ref s5, .ref s6, .ref s7, .int (nI bn), .int (nI ln)])), (s1, .inl (cI, 24, .inl (fun j => nI (sa j)))), (s2, .inl (cI, 24, .inl (fun j => nI (sb j)))), (s4, .inl (cI, 24, .inl (fun j => nI (su j)))), (s7, .inl (cI, 10, .inl ((gv_rnd sa sb su tt ln).1)))] H := by rw [← hz1]; exact hP
    have hD9 : va_D A [(s0, .inr (4, [.ref s1, .ref s2, .ref s3, .ref s4, .ref s5, .ref s6, .ref s7, .int (nI bn), .int (nI ln)])), (s1, .inl (cI, 24, .inl (fun j => nI (sa j)))), (s2, .inl (cI, 24, .inl (fun j => nI (sb j)))), (s4, .inl (cI, 24, .inl (fun j => nI (su j)))), (s7, .inl (cI, 10, .inl ((gv_rnd sa sb su tt ln).1)))] := by rw [← hz1]; exact hD
    exact W.zret (v := fl) (ty := .boolean) hx hb hr (gv_nz (by rcases hfl with h | h <;> rw [h] <;> first | exact Or.inl rfl | exact Or.inr rfl)) (fun t9 ht9 hW9 => ⟨⟨fl, (), rfl, hpo, by rw [ht9]; exact hP9, hD9⟩, hS.F ht9⟩) hS.2.2 dX4_tryEachLine_71
  · skip
    have c_9 := (not_congr (nI_leI (a := ln) (b := k) (by omega) (by omega))).mp c_9
    refine lv_aload_n hx hb dX4_tryEachLine_12 rfl (lv_at hl 0 rfl) ?_
    refine lv_aload_n hx hb dX4_tryEachLine_13 rfl (lv_at hl 0 rfl) ?_
    refine va_get (D := D) (ci := 4) (v := .ref s1) (C := RX4) (T := TX4) (N := 9) hx hb hts gv_in_X4_tryEachLine_X4 hown hK hP 0 rfl rfl 0 (by decide) (hts (.fieldLink RX4 9 "Gravimere$Survey" "starts" "[I") (by decide +kernel)) (fun _ h9 => h9) rfl dX4_tryEachLine_14 ?_
    refine lv_iload_n hx hb dX4_tryEachLine_17 rfl (lv_at hl 2 rfl) ?_
    refine gv_il hx hb hK hP 1 (k := k) rfl (by first | exact hsa _ | exact hsb _ | omega) (by decide) dX4_tryEachLine_18 ?_
    refine gv_wi (rfl) ?_
    refine lv_aload_n hx hb dX4_tryEachLine_19 rfl (lv_at hl 0 rfl) ?_
    refine va_get (D := D) (ci := 4) (v := .ref s2) (C := RX4) (T := TX4) (N := 9) hx hb hts gv_in_X4_tryEachLine_X4 hown hK hP 0 rfl rfl 1 (by decide) (hts (.fieldLink RX4 15 "Gravimere$Survey" "ends" "[I") (by decide +kernel)) (fun _ h9 => h9) rfl dX4_tryEachLine_20 ?_
    refine lv_iload_n hx hb dX4_tryEachLine_23 rfl (lv_at hl 2 rfl) ?_
    refine gv_il hx hb hK hP 2 (k := k) rfl (by first | exact hsa _ | exact hsb _ | omega) (by decide) dX4_tryEachLine_24 ?_
    refine gv_wi (rfl) ?_
    refine lv_aload_n hx hb dX4_tryEachLine_25 rfl (lv_at hl 0 rfl) ?_
    refine va_get (D := D) (ci := 4) (v := .ref s4) (C := RX4) (T := TX4) (N := 9) hx hb hts gv_in_X4_tryEachLine_X4 hown hK hP 0 rfl rfl 3 (by decide) (hts (.fieldLink RX4 21 "Gravimere$Survey" "lineDoubts" "[I") (by decide +kernel)) (fun _ h9 => h9) rfl dX4_tryEachLine_26 ?_
    refine lv_iload_n hx hb dX4_tryEachLine_29 rfl (lv_at hl 2 rfl) ?_
    refine gv_il hx hb hK hP 3 (k := k) rfl (by first | exact hsa _ | exact hsb _ | omega) (by decide) dX4_tryEachLine_30 ?_
    refine gv_wi (rfl) ?_
    refine gv_mi (wc := [(s0, .inr (4, [.ref s1, .ref s2, .ref s3, .ref s4, .ref s5, .ref s6, .ref s7, .int (nI bn), .int (nI ln)])), (s7, .inl (cI, 10, .inl t))]) (wr := [(s1, .inl (cI, 24, .inl (fun j => nI (sa j)))), (s2, .inl (cI, 24, .inl (fun j => nI (sb j)))), (s4, .inl (cI, 24, .inl (fun j => nI (su j))))]) (w2 := (fun u => [(s0, .inr (4, [.ref s1, .ref s2, .ref s3, .ref s4, .ref s5, .ref s6, .ref s7, .int (nI bn), .int (nI ln)])), (s1, .inl (cI, 24, .inl (fun j => nI (sa j)))), (s2, .inl (cI, 24, .inl (fun j => nI (sb j)))), (s4, .inl (cI, 24, .inl (fun j => nI (su j)))), (s7, .inl (cI, 10, .inl ((gv_mkl t (sa k) (sb k) (nI (su k))).1)))])) (va_runV (As := [.int (nI (sa k)), .int (nI (sb k)), .int (nI (su k))]) (rest := []) ⟨hx, hb, hml, hown, hts⟩ (ct_X4_makesLess l D cI cJ H.size s0 s1 s2 s3 s4 s5 s6 s7 bn ln t (sa k) (sb k) (su k) (hsa k) (hsb k)) (cwV 3 hts gX4_tryEachLine_X4_makesLess rfl rfl rfl (by decide +kernel) ⟨Nat.le_of_ble_eq_true rfl, Nat.le_of_ble_eq_true rfl⟩) (gv_pV (wc := [(s0, .inr (4, [.ref s1, .ref s2, .ref s3, .ref s4, .ref s5, .ref s6, .ref s7, .int (nI bn), .int (nI ln)])), (s7, .inl (cI, 10, .inl t))]) hP hK hD hG [0, 4] rfl (by decide) 0 rfl rfl rfl) rfl rfl hl.1 rfl (lv_room (Nat.le_of_ble_eq_true rfl)) dX4_tryEachLine_31 ⟨Nat.le_of_ble_eq_true rfl, Nat.le_of_ble_eq_true rfl⟩) hP hD hS hA [0, 4] [1, 2, 3] [3, 0, 1, 2, 4] rfl rfl (by decide) (by decide) (fun u => rfl) (by decide) (fun r1 u H locs hr1 hP hD hS => ?_)
    have hP : va_P D vwCl [(s0, .inr (4, [.ref s1, .ref s2, .ref s3, .ref s4, .ref s5, .ref s6, .ref s7, .int (nI bn), .int (nI ln)])), (s1, .inl (cI, 24, .inl (fun j => nI (sa j)))), (s2, .inl (cI, 24, .inl (fun j => nI (sb j)))), (s4, .inl (cI, 24, .inl (fun j => nI (su j)))), (s7, .inl (cI, 10, .inl ((gv_mkl t (sa k) (sb k) (nI (su k))).1)))] H := hP
    have hD : va_D A [(s0, .inr (4, [.ref s1, .ref s2, .ref s3, .ref s4, .ref s5, .ref s6, .ref s7, .int (nI bn), .int (nI ln)])), (s1, .inl (cI, 24, .inl (fun j => nI (sa j)))), (s2, .inl (cI, 24, .inl (fun j => nI (sb j)))), (s4, .inl (cI, 24, .inl (fun j => nI (su j)))), (s7, .inl (cI, 10, .inl ((gv_mkl t (sa k) (sb k) (nI (su k))).1)))] := hD
    refine lv_if_ne (tgt := 62) hx hb dX4_tryEachLine_34 (by decide) (fun c_34 => ?_) (fun c_34 => ?_)
    · skip
      refine lv_iconst (v := nI 1) hx hb dX4_tryEachLine_62 (by decide) ?_
      refine lv_istore_n (lv' := [(1, .int (nI 1)), (0, .ref s0), (2, .int (nI k))]) hx hb dX4_tryEachLine_63 rfl hl (by decide) rfl (fun ls hl => ?_)
      refine lv_iinc (v := nI (k + 1)) (lv' := [(2, .int (nI (k + 1))), (1, .int (nI 1)), (0, .ref s0)]) hx hb dX4_tryEachLine_64 hl (k := 2) rfl (nI_add k 1) (by decide) rfl (fun ls hl => ?_)
      refine lv_goto (tgt := 4) hx hb dX4_tryEachLine_67 (by decide) ?_
      exact ih_4 (k + 1, (gv_mkl t (sa k) (sb k) (nI (su k))).1, nI 1) _ _ _ ⟨by omega, by rw [gv_rnd, ← het, gv_ln1]; first | rw [if_pos (by rw [← hr1]; exact c_34)] | rw [if_neg (by rw [← hr1]; exact fun z => z c_34), if_pos (by rw [← hr2]; exact c_59)] | rw [if_neg (by rw [← hr1]; exact fun z => z c_34), if_neg (by rw [← hr2]; exact fun z => z c_59)], by first | exact hfl | exact Or.inr rfl, hP, hD, hS, lv_sub hl [2, 1, 0] rfl⟩ (by simp only; omega)
    · skip
      refine lv_aload_n hx hb dX4_tryEachLine_37 rfl (lv_at hl 0 rfl) ?_
      refine lv_aload_n hx hb dX4_tryEachLine_38 rfl (lv_at hl 0 rfl) ?_
      refine va_get (D := D) (ci := 4) (v := .ref s2) (C := RX4) (T := TX4) (N := 9) hx hb hts gv_in_X4_tryEachLine_X4 hown hK hP 0 rfl rfl 1 (by decide) (hts (.fieldLink RX4 15 "Gravimere$Survey" "ends" "[I") (by decide +kernel)) (fun _ h9 => h9) rfl dX4_tryEachLine_39 ?_
      refine lv_iload_n hx hb dX4_tryEachLine_42 rfl (lv_at hl 2 rfl) ?_
      refine gv_il hx hb hK hP 2 (k := k) rfl (by first | exact hsa _ | exact hsb _ | omega) (by decide) dX4_tryEachLine_43 ?_
      refine gv_wi (rfl) ?_
      refine lv_aload_n hx hb dX4_tryEachLine_44 rfl (lv_at hl 0 rfl) ?_
      refine va_get (D := D) (ci := 4) (v := .ref s1) (C := RX4) (T := TX4) (N := 9) hx hb hts gv_in_X4_tryEachLine_X4 hown hK hP 0 rfl rfl 0 (by decide) (hts (.fieldLink RX4 9 "Gravimere$Survey" "starts" "[I") (by decide +kernel)) (fun _ h9 => h9) rfl dX4_tryEachLine_45 ?_
      refine lv_iload_n hx hb dX4_tryEachLine_48 rfl (lv_at hl 2 rfl) ?_
      refine gv_il hx hb hK hP 1 (k := k) rfl (by first | exact hsa _ | exact hsb _ | omega) (by decide) dX4_tryEachLine_49 ?_
      refine gv_wi (rfl) ?_
      refine lv_aload_n hx hb dX4_tryEachLine_50 rfl (lv_at hl 0 rfl) ?_
      refine va_get (D := D) (ci := 4) (v := .ref s4) (C := RX4) (T := TX4) (N := 9) hx hb hts gv_in_X4_tryEachLine_X4 hown hK hP 0 rfl rfl 3 (by decide) (hts (.fieldLink RX4 21 "Gravimere$Survey" "lineDoubts" "[I") (by decide +kernel)) (fun _ h9 => h9) rfl dX4_tryEachLine_51 ?_
      refine lv_iload_n hx hb dX4_tryEachLine_54 rfl (lv_at hl 2 rfl) ?_
      refine gv_il hx hb hK hP 3 (k := k) rfl (by first | exact hsa _ | exact hsb _ | omega) (by decide) dX4_tryEachLine_55 ?_
      refine gv_wi (rfl) ?_
      refine gv_mi (wc := [(s0, .inr (4, [.ref s1, .ref s2, .ref s3, .ref s4, .ref s5, .ref s6, .ref s7, .int (nI bn), .int (nI ln)])), (s7, .inl (cI, 10, .inl ((gv_mkl t (sa k) (sb k) (nI (su k))).1)))]) (wr := [(s1, .inl (cI, 24, .inl (fun j => nI (sa j)))), (s2, .inl (cI, 24, .inl (fun j => nI (sb j)))), (s4, .inl (cI, 24, .inl (fun j => nI (su j))))]) (w2 := (fun u => [(s0, .inr (4, [.ref s1, .ref s2, .ref s3, .ref s4, .ref s5, .ref s6, .ref s7, .int (nI bn), .int (nI ln)])), (s1, .inl (cI, 24, .inl (fun j => nI (sa j)))), (s2, .inl (cI, 24, .inl (fun j => nI (sb j)))), (s4, .inl (cI, 24, .inl (fun j => nI (su j)))), (s7, .inl (cI, 10, .inl ((gv_mkl (gv_mkl t (sa k) (sb k) (nI (su k))).1 (sb k) (sa k) (nI (su k))).1)))])) (va_runV (As := [.int (nI (sb k)), .int (nI (sa k)), .int (nI (su k))]) (rest := []) ⟨hx, hb, hml, hown, hts⟩ (ct_X4_makesLess l D cI cJ H.size s0 s1 s2 s3 s4 s5 s6 s7 bn ln (gv_mkl t (sa k) (sb k) (nI (su k))).1 (sb k) (sa k) (su k) (hsb k) (hsa k)) (cwV 3 hts gX4_tryEachLine_X4_makesLess rfl rfl rfl (by decide +kernel) ⟨Nat.le_of_ble_eq_true rfl, Nat.le_of_ble_eq_true rfl⟩) (gv_pV (wc := [(s0, .inr (4, [.ref s1, .ref s2, .ref s3, .ref s4, .ref s5, .ref s6, .ref s7, .int (nI bn), .int (nI ln)])), (s7, .inl (cI, 10, .inl ((gv_mkl t (sa k) (sb k) (nI (su k))).1)))]) hP hK hD hG [0, 4] rfl (by decide) 0 rfl rfl rfl) rfl rfl hl.1 rfl (lv_room (Nat.le_of_ble_eq_true rfl)) dX4_tryEachLine_56 ⟨Nat.le_of_ble_eq_true rfl, Nat.le_of_ble_eq_true rfl⟩) hP hD hS hA [0, 4] [1, 2, 3] [3, 0, 1, 2, 4] rfl rfl (by decide) (by decide) (fun u => rfl) (by decide) (fun r2 u H locs hr2 hP hD hS => ?_)
      have hP : va_P D vwCl [(s0, .inr (4, [.ref s1, .ref s2, .ref s3, .ref s4, .ref s5, .ref s6, .ref s7, .int (nI bn), .int (nI ln)])), (s1, .inl (cI, 24, .inl (fun j => nI (sa j)))), (s2, .inl (cI, 24, .inl (fun j => nI (sb j)))), (s4, .inl (cI, 24, .inl (fun j => nI (su j)))), (s7, .inl (cI, 10, .inl ((gv_mkl (gv_mkl t (sa k) (sb k) (nI (su k))).1 (sb k) (sa k) (nI (su k))).1)))] H := hP
      have hD : va_D A [(s0, .inr (4, [.ref s1, .ref s2, .ref s3, .ref s4, .ref s5, .ref s6, .ref s7, .int (nI bn), .int (nI ln)])), (s1, .inl (cI, 24, .inl (fun j => nI (sa j)))), (s2, .inl (cI, 24, .inl (fun j => nI (sb j)))), (s4, .inl (cI, 24, .inl (fun j => nI (su j)))), (s7, .inl (cI, 10, .inl ((gv_mkl (gv_mkl t (sa k) (sb k) (nI (su k))).1 (sb k) (sa k) (nI (su k))).1)))] := hD
      refine lv_if_eq (tgt := 64) hx hb dX4_tryEachLine_59 (by decide) (fun c_59 => ?_) (fun c_59 => ?_)
      · skip
        refine lv_iinc (v := nI (k + 1)) (lv' := [(2, .int (nI (k + 1))), (0, .ref s0), (1, .int fl)]) hx hb dX4_tryEachLine_64 hl (k := 2) rfl (nI_add k 1) (by decide) rfl (fun ls hl => ?_)
        refine lv_goto (tgt := 4) hx hb dX4_tryEachLine_67 (by decide) ?_
        exact ih_4 (k + 1, (gv_mkl (gv_mkl t (sa k) (sb k) (nI (su k))).1 (sb k) (sa k) (nI (su k))).1, fl) _ _ _ ⟨by omega, by rw [gv_rnd, ← het, gv_ln1]; first | rw [if_pos (by rw [← hr1]; exact c_34)] | rw [if_neg (by rw [← hr1]; exact fun z => z c_34), if_pos (by rw [← hr2]; exact c_59)] | rw [if_neg (by rw [← hr1]; exact fun z => z c_34), if_neg (by rw [← hr2]; exact fun z => z c_59)], by first | exact hfl | exact Or.inr rfl, hP, hD, hS, lv_sub hl [1, 2, 0] rfl⟩ (by simp only; omega)
      · skip
        refine lv_iconst (v := nI 1) hx hb dX4_tryEachLine_62 (by decide) ?_
        refine lv_istore_n (lv' := [(1, .int (nI 1)), (0, .ref s0), (2, .int (nI k))]) hx hb dX4_tryEachLine_63 rfl hl (by decide) rfl (fun ls hl => ?_)
        refine lv_iinc (v := nI (k + 1)) (lv' := [(2, .int (nI (k + 1))), (1, .int (nI 1)), (0, .ref s0)]) hx hb dX4_tryEachLine_64 hl (k := 2) rfl (nI_add k 1) (by decide) rfl (fun ls hl => ?_)
        refine lv_goto (tgt := 4) hx hb dX4_tryEachLine_67 (by decide) ?_
        exact ih_4 (k + 1, (gv_mkl (gv_mkl t (sa k) (sb k) (nI (su k))).1 (sb k) (sa k) (nI (su k))).1, nI 1) _ _ _ ⟨by omega, by rw [gv_rnd, ← het, gv_ln1]; first | rw [if_pos (by rw [← hr1]; exact c_34)] | rw [if_neg (by rw [← hr1]; exact fun z => z c_34), if_pos (by rw [← hr2]; exact c_59)] | rw [if_neg (by rw [← hr1]; exact fun z => z c_34), if_neg (by rw [← hr2]; exact fun z => z c_59)], by first | exact hfl | exact Or.inr rfl, hP, hD, hS, lv_sub hl [2, 1, 0] rfl⟩ (by simp only; omega)
set_option maxHeartbeats 4000000 in
set_option maxRecDepth 100000 in
theorem ct_X4_tryAllLines (l : Launch) (D : va_G) (cI cJ : ClassId) (sz : Nat) (s0 s1 s2 s3 s4 s5 s6 s7 bn ln : Nat) (sa sb su : Nat → Nat) (tt : Nat → Int32) (hsa : ∀ j, sa j < 10) (hsb : ∀ j, sb j < 10) (hln : ln ≤ 24) (hbn : bn ≤ 10) : Met l yX4_tryAllLines wsX4_tryAllLines ({ frames := 2, cells := 0, slots := 0, locals := 46 }) (va_Pc [.ref s0] (gv_B D cI cJ [(s0, .inr (4, [.ref s1, .ref s2, .ref s3, .ref s4, .ref s5, .ref s6, .ref s7, .int (nI bn), .int (nI ln)])), (s1, .inl (cI, 24, .inl (fun j => nI (sa j)))), (s2, .inl (cI, 24, .inl (fun j => nI (sb j)))), (s4, .inl (cI, 24, .inl (fun j => nI (su j)))), (s7, .inl (cI, 10, .inl tt))] sz)) (va_Qv (fun (u9 : Unit) => True) (fun (u9 : Unit) t9 => gv_W D (va_A [(s0, .inr (4, [.ref s1, .ref s2, .ref s3, .ref s4, .ref s5, .ref s6, .ref s7, .int (nI bn), .int (nI ln)])), (s1, .inl (cI, 24, .inl (fun j => nI (sa j)))), (s2, .inl (cI, 24, .inl (fun j => nI (sb j)))), (s4, .inl (cI, 24, .inl (fun j => nI (su j)))), (s7, .inl (cI, 10, .inl tt))] sz) [(s0, .inr (4, [.ref s1, .ref s2, .ref s3, .ref s4, .ref s5, .ref s6, .ref s7, .int (nI bn), .int (nI ln)])), (s1, .inl (cI, 24, .inl (fun j => nI (sa j)))), (s2, .inl (cI, 24, .inl (fun j => nI (sb j)))), (s4, .inl (cI, 24, .inl (fun j => nI (su j)))), (s7, .inl (cI, 10, .inl (gv_tal sa sb su ln bn (gv_ko tt, nI 1))))] t9) (va_A [(s0, .inr (4, [.ref s1, .ref s2, .ref s3, .ref s4, .ref s5, .ref s6, .ref s7, .int (nI bn), .int (nI ln)])), (s1, .inl (cI, 24, .inl (fun j => nI (sa j)))), (s2, .inl (cI, 24, .inl (fun j => nI (sb j)))), (s4, .inl (cI, 24, .inl (fun j => nI (su j)))), (s7, .inl (cI, 10, .inl tt))] sz)) 0 0 (va_A [(s0, .inr (4, [.ref s1, .ref s2, .ref s3, .ref s4, .ref s5, .ref s6, .ref s7, .int (nI bn), .int (nI ln)])), (s1, .inl (cI, 24, .inl (fun j => nI (sa j)))), (s2, .inl (cI, 24, .inl (fun j => nI (sb j)))), (s4, .inl (cI, 24, .inl (fun j => nI (su j)))), (s7, .inl (cI, 10, .inl tt))] sz) := by
  refine Met.ofW (cc := cX4_tryAllLines) (maxL := 3) (ret := none) (by decide) rfl ?_
  intro p e s m args below meth c s₁ B hml hv
  obtain ⟨rfl, hsz, hP, hK, hD0, hG⟩ := hv
  have hx := B.exec
  have hb := B.bytes
  have hr := B.returns
  have hts := atoms_spec (ws := wsX4_tryAllLines) B.pre
  have hown : s.vm.findClass RX4 = some m.cls := findClass_of_methodNamed B.named
  have hlocks := B.notSynchronized
  subst hsz
  have hD := hD0.self (sz := s.heap.size)
  generalize hAe : va_A [(s0, .inr (4, [.ref s1, .ref s2, .ref s3, .ref s4, .ref s5, .ref s6, .ref s7, .int (nI bn), .int (nI ln)])), (s1, .inl (cI, 24, .inl (fun j => nI (sa j)))), (s2, .inl (cI, 24, .inl (fun j => nI (sb j)))), (s4, .inl (cI, 24, .inl (fun j => nI (su j)))), (s7, .inl (cI, 10, .inl tt))] s.heap.size = A at hD ⊢
  have hA : ∀ q : Nat, s.heap.size ≤ q → A q := fun q h => by rw [← hAe]; exact Or.inr h
  have hS : va_S A s.heap s.heap [] := va_S.rf
  have hP : va_P D vwCl [(s0, .inr (4, [.ref s1, .ref s2, .ref s3, .ref s4, .ref s5, .ref s6, .ref s7, .int (nI bn), .int (nI ln)])), (s1, .inl (cI, 24, .inl (fun j => nI (sa j)))), (s2, .inl (cI, 24, .inl (fun j => nI (sb j)))), (s4, .inl (cI, 24, .inl (fun j => nI (su j)))), (s7, .inl (cI, 10, .inl tt))] s.heap := hP
  have hl := lv_entry ([.ref s0]) (n := 3) (Nat.le_of_ble_eq_true rfl)
  rw [lg_entry_eq]
  generalize (lg_sl ([.ref s0]) ++ List.replicate (3 - (lg_sl ([.ref s0])).length) Slot.unset).toArray = ls at hl ⊢
  have hl : lv_has ls 3 [(0, .ref s0)] := hl
  refine lv_aload_n hx hb dX4_tryAllLines_0 rfl (lv_at hl 0 rfl) ?_
  refine va_get (D := D) (ci := 4) (v := .ref s7) (C := RX4) (T := TX4) (N := 9) hx hb hts gv_in_X4_tryAllLines_X4 hown hK hP 0 rfl rfl 6 (by decide) (hts (.fieldLink RX4 30 "Gravimere$Survey" "triedDoubts" "[I") (by decide +kernel)) (fun _ h9 => h9) rfl dX4_tryAllLines_1 ?_
  refine gv_mv (wc := [(s7, .inl (cI, 10, .inl tt))]) (wr := [(s0, .inr (4, [.ref s1, .ref s2, .ref s3, .ref s4, .ref s5, .ref s6, .ref s7, .int (nI bn), .int (nI ln)])), (s1, .inl (cI, 24, .inl (fun j => nI (sa j)))), (s2, .inl (cI, 24, .inl (fun j => nI (sb j)))), (s4, .inl (cI, 24, .inl (fun j => nI (su j))))]) (w2 := (fun u => [(s0, .inr (4, [.ref s1, .ref s2, .ref s3, .ref s4, .ref s5, .ref s6, .ref s7, .int (nI bn), .int (nI ln)])), (s1, .inl (cI, 24, .inl (fun j => nI (sa j)))), (s2, .inl (cI, 24, .inl (fun j => nI (sb j)))), (s4, .inl (cI, 24, .inl (fun j => nI (su j)))), (s7, .inl (cI, 10, .inl (gv_ko tt)))])) (va_runS (As := [.ref s7]) (rest := []) ⟨hx, hb, hml, hown, hts⟩ (ct_X4_knowOnlyFirst l D cI cJ s.heap.size s7 tt) (va_cwS 1 hts gX4_tryAllLines_X4_knowOnlyFirst rfl rfl rfl (by decide +kernel) ⟨Nat.le_of_ble_eq_true rfl, Nat.le_of_ble_eq_true rfl⟩) (gv_pS (wc := [(s7, .inl (cI, 10, .inl tt))]) hP hK hD hG [4] rfl (by decide)) rfl rfl hl.1 rfl (lv_room (Nat.le_of_ble_eq_true rfl)) dX4_tryAllLines_4 ⟨Nat.le_of_ble_eq_true rfl, Nat.le_of_ble_eq_true rfl⟩) hP hD hS hA [4] [0, 1, 2, 3] [0, 1, 2, 3, 4] rfl rfl (by decide) (by decide) (fun u => rfl) (by decide) (fun u H locs hr_2 hP hD hS => ?_)
  have hP : va_P D vwCl [(s0, .inr (4, [.ref s1, .ref s2, .ref s3, .ref s4, .ref s5, .ref s6, .ref s7, .int (nI bn), .int (nI ln)])), (s1, .inl (cI, 24, .inl (fun j => nI (sa j)))), (s2, .inl (cI, 24, .inl (fun j => nI (sb j)))), (s4, .inl (cI, 24, .inl (fun j => nI (su j)))), (s7, .inl (cI, 10, .inl (gv_ko tt)))] H := hP
  have hD : va_D A [(s0, .inr (4, [.ref s1, .ref s2, .ref s3, .ref s4, .ref s5, .ref s6, .ref s7, .int (nI bn), .int (nI ln)])), (s1, .inl (cI, 24, .inl (fun j => nI (sa j)))), (s2, .inl (cI, 24, .inl (fun j => nI (sb j)))), (s4, .inl (cI, 24, .inl (fun j => nI (su j)))), (s7, .inl (cI, 10, .inl (gv_ko tt)))] := hD
  refine lv_iconst (v := nI 1) hx hb dX4_tryAllLines_7 (by decide) ?_
  refine lv_istore_n (lv' := [(1, .int (nI 1)), (0, .ref s0)]) hx hb dX4_tryAllLines_8 rfl hl (by decide) rfl (fun ls hl => ?_)
  refine lv_iconst (v := nI 0) hx hb dX4_tryAllLines_9 (by decide) ?_
  refine lv_istore_n (lv' := [(2, .int (nI 0)), (1, .int (nI 1)), (0, .ref s0)]) hx hb dX4_tryAllLines_10 rfl hl (by decide) rfl (fun ls hl => ?_)
  refine gv_lm (σ := Nat × (Nat → Int32) × Int32) (fun zq H locs ls => match zq with | (ro, t, fl) => ro ≤ 10 ∧ gv_tal sa sb su ln (bn - ro) (t, fl) = gv_tal sa sb su ln bn (gv_ko tt, nI 1) ∧ va_P D vwCl [(s0, .inr (4, [.ref s1, .ref s2, .ref s3, .ref s4, .ref s5, .ref s6, .ref s7, .int (nI bn), .int (nI ln)])), (s1, .inl (cI, 24, .inl (fun j => nI (sa j)))), (s2, .inl (cI, 24, .inl (fun j => nI (sb j)))), (s4, .inl (cI, 24, .inl (fun j => nI (su j)))), (s7, .inl (cI, 10, .inl t))] H ∧ va_D A [(s0, .inr (4, [.ref s1, .ref s2, .ref s3, .ref s4, .ref s5, .ref s6, .ref s7, .int (nI bn), .int (nI ln)])), (s1, .inl (cI, 24, .inl (fun j => nI (sa j)))), (s2, .inl (cI, 24, .inl (fun j => nI (sb j)))), (s4, .inl (cI, 24, .inl (fun j => nI (su j)))), (s7, .inl (cI, 10, .inl t))] ∧ va_S A s.heap H locs ∧ lv_has ls 3 [(0, .ref s0), (1, .int fl), (2, .int (nI ro))]) (fun zq => match zq with | (ro, t, fl) => bn - ro) (0, gv_ko tt, nI 1) ⟨by omega, rfl, hP, hD, hS, lv_sub hl [2, 1, 0] rfl⟩ (fun zq H locs ls hI ih_11 => ?_)
  obtain ⟨ro, t, fl⟩ := zq
  obtain ⟨hro2, htal, hP, hD, hS, hl⟩ := hI
  have hro : ro < 2 ^ 31 ∨ bn ≤ ro := by omega
  refine lv_iload_n hx hb dX4_tryAllLines_11 rfl (lv_at hl 2 rfl) ?_
  refine lv_aload_n hx hb dX4_tryAllLines_12 rfl (lv_at hl 0 rfl) ?_
  refine va_get (D := D) (ci := 4) (v := .int (nI bn)) (C := RX4) (T := TX4) (N := 9) hx hb hts gv_in_X4_tryAllLines_X4 hown hK hP 0 rfl rfl 7 (by decide) (hts (.fieldLink RX4 33 "Gravimere$Survey" "benchmarks" "I") (by decide +kernel)) (fun _ h9 => h9) rfl dX4_tryAllLines_13 ?_
  refine lv_icmp_ge (tgt := 34) hx hb dX4_tryAllLines_16 (by decide) (fun c_16 => ?_) (fun c_16 => ?_)
  · skip
    have c_16 := (nI_leI (a := bn) (b := ro) (by omega) (by omega)).mp c_16
    have hpo : True := by
      trivial
    have hP9 : va_P D vwCl [(s0, .inr (4, [.ref s1, .ref s2, .ref s3, .ref s4, .ref s5, .ref s6, .ref s7, .int (nI bn), .int (nI ln)])), (s1, .inl (cI, 24, .inl (fun j => nI (sa j)))), (s2, .inl (cI, 24, .inl (fun j => nI (sb j)))), (s4, .inl (cI, 24, .inl (fun j => nI (su j)))), (s7, .inl (cI, 10, .inl (gv_tal sa sb su ln bn (gv_ko tt, nI 1))))] H := by rw [← htal]; first | (rw [show bn - ro = 0 by omega]; exact hP) | (rw [gv_tal_no c_20]; exact hP)
    have hD9 : va_D A [(s0, .inr (4, [.ref s1, .ref s2, .ref s3, .ref s4, .ref s5, .ref s6, .ref s7, .int (nI bn), .int (nI ln)])), (s1, .inl (cI, 24, .inl (fun j => nI (sa j)))), (s2, .inl (cI, 24, .inl (fun j => nI (sb j)))), (s4, .inl (cI, 24, .inl (fun j => nI (su j)))), (s7, .inl (cI, 10, .inl (gv_tal sa sb su ln bn (gv_ko tt, nI 1))))] := by rw [← htal]; first | (rw [show bn - ro = 0 by omega]; exact hD) | (rw [gv_tal_no c_20]; exact hD)
    exact W.vret hx hb hr (fun t9 ht9 hW9 => ⟨⟨(), rfl, hpo, by rw [ht9]; exact hP9, hD9⟩, hS.F ht9⟩) hS.2.2 dX4_tryAllLines_34
  · skip
    have c_16 := (not_congr (nI_leI (a := bn) (b := ro) (by omega) (by omega))).mp c_16
    refine lv_iload_n hx hb dX4_tryAllLines_19 rfl (lv_at hl 1 rfl) ?_
    refine lv_if_eq (tgt := 34) hx hb dX4_tryAllLines_20 (by decide) (fun c_20 => ?_) (fun c_20 => ?_)
    · skip
      have hpo : True := by
        trivial
      have hP9 : va_P D vwCl [(s0, .inr (4, [.ref s1, .ref s2, .ref s3, .ref s4, .ref s5, .ref s6, .ref s7, .int (nI bn), .int (nI ln)])), (s1, .inl (cI, 24, .inl (fun j => nI (sa j)))), (s2, .inl (cI, 24, .inl (fun j => nI (sb j)))), (s4, .inl (cI, 24, .inl (fun j => nI (su j)))), (s7, .inl (cI, 10, .inl (gv_tal sa sb su ln bn (gv_ko tt, nI 1))))] H := by rw [← htal]; first | (rw [show bn - ro = 0 by omega]; exact hP) | (rw [gv_tal_no c_20]; exact hP)
      have hD9 : va_D A [(s0, .inr (4, [.ref s1, .ref s2, .ref s3, .ref s4, .ref s5, .ref s6, .ref s7, .int (nI bn), .int (nI ln)])), (s1, .inl (cI, 24, .inl (fun j => nI (sa j)))), (s2, .inl (cI, 24, .inl (fun j => nI (sb j)))), (s4, .inl (cI, 24, .inl (fun j => nI (su j)))), (s7, .inl (cI, 10, .inl (gv_tal sa sb su ln bn (gv_ko tt, nI 1))))] := by rw [← htal]; first | (rw [show bn - ro = 0 by omega]; exact hD) | (rw [gv_tal_no c_20]; exact hD)
      exact W.vret hx hb hr (fun t9 ht9 hW9 => ⟨⟨(), rfl, hpo, by rw [ht9]; exact hP9, hD9⟩, hS.F ht9⟩) hS.2.2 dX4_tryAllLines_34
    · skip
      refine lv_aload_n hx hb dX4_tryAllLines_23 rfl (lv_at hl 0 rfl) ?_
      refine gv_mi (wc := [(s0, .inr (4, [.ref s1, .ref s2, .ref s3, .ref s4, .ref s5, .ref s6, .ref s7, .int (nI bn), .int (nI ln)])), (s1, .inl (cI, 24, .inl (fun j => nI (sa j)))), (s2, .inl (cI, 24, .inl (fun j => nI (sb j)))), (s4, .inl (cI, 24, .inl (fun j => nI (su j)))), (s7, .inl (cI, 10, .inl t))]) (wr := []) (w2 := (fun u => [(s0, .inr (4, [.ref s1, .ref s2, .ref s3, .ref s4, .ref s5, .ref s6, .ref s7, .int (nI bn), .int (nI ln)])), (s1, .inl (cI, 24, .inl (fun j => nI (sa j)))), (s2, .inl (cI, 24, .inl (fun j => nI (sb j)))), (s4, .inl (cI, 24, .inl (fun j => nI (su j)))), (s7, .inl (cI, 10, .inl ((gv_rnd sa sb su t ln).1)))])) (va_runV (As := []) (rest := []) ⟨hx, hb, hml, hown, hts⟩ (ct_X4_tryEachLine l D cI cJ H.size s0 s1 s2 s3 s4 s5 s6 s7 bn ln sa sb su t hsa hsb hln) (cwV 0 hts gX4_tryAllLines_X4_tryEachLine rfl rfl rfl (by decide +kernel) ⟨Nat.le_of_ble_eq_true rfl, Nat.le_of_ble_eq_true rfl⟩) (gv_pV (wc := [(s0, .inr (4, [.ref s1, .ref s2, .ref s3, .ref s4, .ref s5, .ref s6, .ref s7, .int (nI bn), .int (nI ln)])), (s1, .inl (cI, 24, .inl (fun j => nI (sa j)))), (s2, .inl (cI, 24, .inl (fun j => nI (sb j)))), (s4, .inl (cI, 24, .inl (fun j => nI (su j)))), (s7, .inl (cI, 10, .inl t))]) hP hK hD hG [0, 1, 2, 3, 4] rfl (by decide) 0 rfl rfl rfl) rfl rfl hl.1 rfl (lv_room (Nat.le_of_ble_eq_true rfl)) dX4_tryAllLines_24 ⟨Nat.le_of_ble_eq_true rfl, Nat.le_of_ble_eq_true rfl⟩) hP hD hS hA [0, 1, 2, 3, 4] [] [0, 1, 2, 3, 4] rfl rfl (by decide) (by decide) (fun u => rfl) (by decide) (fun rf u H locs hrf hP hD hS => ?_)
      have hP : va_P D vwCl [(s0, .inr (4, [.ref s1, .ref s2, .ref s3, .ref s4, .ref s5, .ref s6, .ref s7, .int (nI bn), .int (nI ln)])), (s1, .inl (cI, 24, .inl (fun j => nI (sa j)))), (s2, .inl (cI, 24, .inl (fun j => nI (sb j)))), (s4, .inl (cI, 24, .inl (fun j => nI (su j)))), (s7, .inl (cI, 10, .inl ((gv_rnd sa sb su t ln).1)))] H := hP
      have hD : va_D A [(s0, .inr (4, [.ref s1, .ref s2, .ref s3, .ref s4, .ref s5, .ref s6, .ref s7, .int (nI bn), .int (nI ln)])), (s1, .inl (cI, 24, .inl (fun j => nI (sa j)))), (s2, .inl (cI, 24, .inl (fun j => nI (sb j)))), (s4, .inl (cI, 24, .inl (fun j => nI (su j)))), (s7, .inl (cI, 10, .inl ((gv_rnd sa sb su t ln).1)))] := hD
      subst hrf
      refine lv_istore_n (lv' := [(1, .int ((gv_rnd sa sb su t ln).2)), (0, .ref s0), (2, .int (nI ro))]) hx hb dX4_tryAllLines_27 rfl hl (by decide) rfl (fun ls hl => ?_)
      refine lv_iinc (v := nI (ro + 1)) (lv' := [(2, .int (nI (ro + 1))), (1, .int ((gv_rnd sa sb su t ln).2)), (0, .ref s0)]) hx hb dX4_tryAllLines_28 hl (k := 2) rfl (nI_add ro 1) (by decide) rfl (fun ls hl => ?_)
      refine lv_goto (tgt := 11) hx hb dX4_tryAllLines_31 (by decide) ?_
      exact ih_11 (ro + 1, (gv_rnd sa sb su t ln).1, (gv_rnd sa sb su t ln).2) _ _ _ ⟨by omega, by rw [← htal, show bn - ro = (bn - (ro + 1)) + 1 by omega, gv_tal, if_neg c_20], hP, hD, hS, lv_sub hl [2, 1, 0] rfl⟩ (by simp only; omega)
