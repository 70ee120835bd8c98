theorem gv_in_X4_addBenchmark_X4 : ∀ w ∈ wsX40, w ∈ wsX4_addBenchmark := by decide +kernel
theorem gv_in_X4_addLine_X4 : ∀ w ∈ wsX40, w ∈ wsX4_addLine := by decide +kernel
theorem gv_in_X4_doubtBeyond_X4 : ∀ w ∈ wsX40, w ∈ wsX4_doubtBeyond := by decide +kernel
theorem gv_in_X4_surestLine_X4 : ∀ w ∈ wsX40, w ∈ wsX4_surestLine := by decide +kernel
theorem gv_in_X4_goAlong_X4 : ∀ w ∈ wsX40, w ∈ wsX4_goAlong := by decide +kernel
set_option maxHeartbeats 4000000 in
set_option maxRecDepth 100000 in
theorem ct_X4_addBenchmark (l : Launch) (D : va_G) (cI cJ : ClassId) (sz : Nat) (s0 s1 s2 s3 s4 s5 s6 s7 bn ln : Nat)  : Met l yX4_addBenchmark wsX4_addBenchmark ({ frames := 0, cells := 0, slots := 0, locals := 0 }) (va_Pc [.ref s0] (gv_B D cI cJ [(s0, .inr (4, [.ref s1, .ref s2, .ref s3, .ref s4, .ref s5, .ref s6, .ref s7, .int (nI bn), .int (nI ln)]))] sz)) (va_Qi (fun (r9 : Int32) (u9 : Unit) => r9 = nI bn) (fun (u9 : Unit) t9 => gv_W D (va_A [(s0, .inr (4, [.ref s1, .ref s2, .ref s3, .ref s4, .ref s5, .ref s6, .ref s7, .int (nI bn), .int (nI ln)]))] sz) [(s0, .inr (4, [.ref s1, .ref s2, .ref s3, .ref s4, .ref s5, .ref s6, .ref s7, .int (nI (bn + 1)), .int (nI ln)]))] t9) (va_A [(s0, .inr (4, [.ref s1, .ref s2, .ref s3, .ref s4, .ref s5, .ref s6, .ref s7, .int (nI bn), .int (nI ln)]))] sz)) 0 0 (va_A [(s0, .inr (4, [.ref s1, .ref s2, .ref s3, .ref s4, .ref s5, .ref s6, .ref s7, .int (nI bn), .int (nI ln)]))] sz) := by
  refine Met.ofW (cc := cX4_addBenchmark) (maxL := 1) (ret := (some .int)) (by decide) rfl ?_
  intro p e s m args below meth c s₁ B hml hv
  obtain ⟨rfl, hsz, hP, hK, hD0, hG⟩ := hv
  have hx := B.exec
  have hb := B.bytes
  have hr := B.returns
  have hts := atoms_spec (ws := wsX4_addBenchmark) B.pre
  have hown : s.vm.findClass RX4 = some m.cls := findClass_of_methodNamed B.named
  have hlocks := B.notSynchronized
  subst hsz
  have hD := hD0.self (sz := s.heap.size)
  generalize hAe : va_A [(s0, .inr (4, [.ref s1, .ref s2, .ref s3, .ref s4, .ref s5, .ref s6, .ref s7, .int (nI bn), .int (nI ln)]))] s.heap.size = A at hD ⊢
  have hA : ∀ q : Nat, s.heap.size ≤ q → A q := fun q h => by rw [← hAe]; exact Or.inr h
  have hS : va_S A s.heap s.heap [] := va_S.rf
  have hP : va_P D vwCl [(s0, .inr (4, [.ref s1, .ref s2, .ref s3, .ref s4, .ref s5, .ref s6, .ref s7, .int (nI bn), .int (nI ln)]))] s.heap := hP
  have hl := lv_entry ([.ref s0]) (n := 1) (Nat.le_of_ble_eq_true rfl)
  rw [lg_entry_eq]
  generalize (lg_sl ([.ref s0]) ++ List.replicate (1 - (lg_sl ([.ref s0])).length) Slot.unset).toArray = ls at hl ⊢
  have hl : lv_has ls 1 [(0, .ref s0)] := hl
  refine lv_aload_n hx hb dX4_addBenchmark_0 rfl (lv_at hl 0 rfl) ?_
  refine lv_dup hx hb dX4_addBenchmark_1 rfl ?_
  refine va_get (D := D) (ci := 4) (v := .int (nI bn)) (C := RX4) (T := TX4) (N := 9) hx hb hts gv_in_X4_addBenchmark_X4 hown hK hP 0 rfl rfl 7 (by decide) (hts (.fieldLink RX4 33 "Gravimere$Survey" "benchmarks" "I") (by decide +kernel)) (fun _ h9 => h9) rfl dX4_addBenchmark_2 ?_
  refine lv_iconst (v := nI 1) hx hb dX4_addBenchmark_5 (by decide) ?_
  refine lv_iadd hx hb dX4_addBenchmark_6 ?_
  refine gv_wi (nI_add bn 1) ?_
  refine va_put (D := D) (ci := 4) (v := .int (nI (bn + 1))) (ty := .int) (C := RX4) (T := TX4) (N := 9) hx hb hts gv_in_X4_addBenchmark_X4 tyX4 tyX4_ok nmX4 hown hK hP hD hS 0 rfl rfl 7 (by decide) (hts (.fieldLink RX4 33 "Gravimere$Survey" "benchmarks" "I") (by decide +kernel)) (fun _ h9 => h9) rfl (by decide +kernel) rfl rfl (Nat.le_of_ble_eq_true rfl) dX4_addBenchmark_7 (fun H locs hP hD hS => ?_)
  have hP : va_P D vwCl [(s0, .inr (4, [.ref s1, .ref s2, .ref s3, .ref s4, .ref s5, .ref s6, .ref s7, .int (nI (bn + 1)), .int (nI ln)]))] H := hP
  have hD : va_D A [(s0, .inr (4, [.ref s1, .ref s2, .ref s3, .ref s4, .ref s5, .ref s6, .ref s7, .int (nI (bn + 1)), .int (nI ln)]))] := hD
  refine lv_aload_n hx hb dX4_addBenchmark_10 rfl (lv_at hl 0 rfl) ?_
  refine va_get (D := D) (ci := 4) (v := .int (nI (bn + 1))) (C := RX4) (T := TX4) (N := 9) hx hb hts gv_in_X4_addBenchmark_X4 hown hK hP 0 rfl rfl 7 (by decide) (hts (.fieldLink RX4 33 "Gravimere$Survey" "benchmarks" "I") (by decide +kernel)) (fun _ h9 => h9) rfl dX4_addBenchmark_11 ?_
  refine lv_iconst (v := nI 1) hx hb dX4_addBenchmark_14 (by decide) ?_
  refine lv_isub hx hb dX4_addBenchmark_15 ?_
  refine gv_wi (nI_pred bn) ?_
  have hpo : (nI bn) = nI bn := by
    rfl
  have hP9 : va_P D vwCl [(s0, .inr (4, [.ref s1, .ref s2, .ref s3, .ref s4, .ref s5, .ref s6, .ref s7, .int (nI (bn + 1)), .int (nI ln)]))] H := hP
  have hD9 : va_D A [(s0, .inr (4, [.ref s1, .ref s2, .ref s3, .ref s4, .ref s5, .ref s6, .ref s7, .int (nI (bn + 1)), .int (nI ln)]))] := hD
  exact W.iret (v := nI bn) hx hb hr (fun t9 ht9 hW9 => ⟨⟨(nI bn), (), rfl, hpo, by rw [ht9]; exact hP9, hD9⟩, hS.F ht9⟩) hS.2.2 dX4_addBenchmark_16
set_option maxHeartbeats 4000000 in
set_option maxRecDepth 100000 in
theorem ct_X4_addLine (l : Launch) (D : va_G) (cI cJ : ClassId) (sz : Nat) (s0 s1 s2 s3 s4 s5 s6 s7 bn ln : Nat) (sa sb su : Nat → Nat) (sr : Nat → Int32) (f t u : Nat) (h : Int32) (hln : ln < 24) : Met l yX4_addLine wsX4_addLine ({ frames := 0, cells := 0, slots := 0, locals := 0 }) (va_Pc [.ref s0, .int (nI f), .int (nI t), .int h, .int (nI u)] (gv_B D cI cJ [(s0, .inr (4, [.ref s1, .ref s2, .ref s3, .ref s4, .ref s5, .ref s6, .ref s7, .int (nI bn), .int (nI ln)])), (s1, .inl (cI, 24, .inl (fun j => nI (sa j)))), (s2, .inl (cI, 24, .inl (fun j => nI (sb j)))), (s3, .inl (cI, 24, .inl sr)), (s4, .inl (cI, 24, .inl (fun j => nI (su j))))] sz)) (va_Qi (fun (r9 : Int32) (u9 : Unit) => r9 = nI ln) (fun (u9 : Unit) t9 => gv_W D (va_A [(s0, .inr (4, [.ref s1, .ref s2, .ref s3, .ref s4, .ref s5, .ref s6, .ref s7, .int (nI bn), .int (nI ln)])), (s1, .inl (cI, 24, .inl (fun j => nI (sa j)))), (s2, .inl (cI, 24, .inl (fun j => nI (sb j)))), (s3, .inl (cI, 24, .inl sr)), (s4, .inl (cI, 24, .inl (fun j => nI (su j))))] sz) [(s0, .inr (4, [.ref s1, .ref s2, .ref s3, .ref s4, .ref s5, .ref s6, .ref s7, .int (nI bn), .int (nI (ln + 1))])), (s1, .inl (cI, 24, .inl (fun j => nI (gv_un sa ln f j)))), (s2, .inl (cI, 24, .inl (fun j => nI (gv_un sb ln t j)))), (s3, .inl (cI, 24, .inl (upd sr ln h))), (s4, .inl (cI, 24, .inl (fun j => nI (gv_un su ln u j))))] t9) (va_A [(s0, .inr (4, [.ref s1, .ref s2, .ref s3, .ref s4, .ref s5, .ref s6, .ref s7, .int (nI bn), .int (nI ln)])), (s1, .inl (cI, 24, .inl (fun j => nI (sa j)))), (s2, .inl (cI, 24, .inl (fun j => nI (sb j)))), (s3, .inl (cI, 24, .inl sr)), (s4, .inl (cI, 24, .inl (fun j => nI (su j))))] sz)) 0 0 (va_A [(s0, .inr (4, [.ref s1, .ref s2, .ref s3, .ref s4, .ref s5, .ref s6, .ref s7, .int (nI bn), .int (nI ln)])), (s1, .inl (cI, 24, .inl (fun j => nI (sa j)))), (s2, .inl (cI, 24, .inl (fun j => nI (sb j)))), (s3, .inl (cI, 24, .inl sr)), (s4, .inl (cI, 24, .inl (fun j => nI (su j))))] sz) := by
  refine Met.ofW (cc := cX4_addLine) (maxL := 5) (ret := (some .int)) (by decide) rfl ?_
  intro p e s m args below meth c s₁ B hml hv
  obtain ⟨rfl, hsz, hP, hK, hD0, hG⟩ := hv
  have hx := B.exec
  have hb := B.bytes
  have hr := B.returns
  have hts := atoms_spec (ws := wsX4_addLine) B.pre
  have hown : s.vm.findClass RX4 = some m.cls := findClass_of_methodNamed B.named
  have hlocks := B.notSynchronized
  subst hsz
  have hD := hD0.self (sz := s.heap.size)
  generalize hAe : va_A [(s0, .inr (4, [.ref s1, .ref s2, .ref s3, .ref s4, .ref s5, .ref s6, .ref s7, .int (nI bn), .int (nI ln)])), (s1, .inl (cI, 24, .inl (fun j => nI (sa j)))), (s2, .inl (cI, 24, .inl (fun j => nI (sb j)))), (s3, .inl (cI, 24, .inl sr)), (s4, .inl (cI, 24, .inl (fun j => nI (su j))))] s.heap.size = A at hD ⊢
  have hA : ∀ q : Nat, s.heap.size ≤ q → A q := fun q h => by rw [← hAe]; exact Or.inr h
  have hS : va_S A s.heap s.heap [] := va_S.rf
  have hP : va_P D vwCl [(s0, .inr (4, [.ref s1, .ref s2, .ref s3, .ref s4, .ref s5, .ref s6, .ref s7, .int (nI bn), .int (nI ln)])), (s1, .inl (cI, 24, .inl (fun j => nI (sa j)))), (s2, .inl (cI, 24, .inl (fun j => nI (sb j)))), (s3, .inl (cI, 24, .inl sr)), (s4, .inl (cI, 24, .inl (fun j => nI (su j))))] s.heap := hP
  have hl := lv_entry ([.ref s0, .int (nI f), .int (nI t), .int h, .int (nI u)]) (n := 5) (Nat.le_of_ble_eq_true rfl)
  rw [lg_entry_eq]
  generalize (lg_sl ([.ref s0, .int (nI f), .int (nI t), .int h, .int (nI u)]) ++ List.replicate (5 - (lg_sl ([.ref s0, .int (nI f), .int (nI t), .int h, .int (nI u)])).length) Slot.unset).toArray = ls at hl ⊢
  have hl : lv_has ls 5 [(0, .ref s0), (1, .int (nI f)), (2, .int (nI t)), (3, .int h), (4, .int (nI u))] := hl
  refine lv_aload_n hx hb dX4_addLine_0 rfl (lv_at hl 0 rfl) ?_
  refine va_get (D := D) (ci := 4) (v := .ref s1) (C := RX4) (T := TX4) (N := 9) hx hb hts gv_in_X4_addLine_X4 hown hK hP 0 rfl rfl 0 (by decide) (hts (.fieldLink RX4 9 "Gravimere$Survey" "starts" "[I") (by decide +kernel)) (fun _ h9 => h9) rfl dX4_addLine_1 ?_
  refine lv_aload_n hx hb dX4_addLine_4 rfl (lv_at hl 0 rfl) ?_
  refine va_get (D := D) (ci := 4) (v := .int (nI ln)) (C := RX4) (T := TX4) (N := 9) hx hb hts gv_in_X4_addLine_X4 hown hK hP 0 rfl rfl 8 (by decide) (hts (.fieldLink RX4 37 "Gravimere$Survey" "lines" "I") (by decide +kernel)) (fun _ h9 => h9) rfl dX4_addLine_5 ?_
  refine lv_iload_n hx hb dX4_addLine_8 rfl (lv_at hl 1 rfl) ?_
  refine gv_is hx hb hK hP hD hS 1 (k := ln) rfl (by omega) (by decide) dX4_addLine_9 (fun H locs hP hD hS => ?_)
  have hP : va_P D vwCl [(s0, .inr (4, [.ref s1, .ref s2, .ref s3, .ref s4, .ref s5, .ref s6, .ref s7, .int (nI bn), .int (nI ln)])), (s1, .inl (cI, 24, .inl (upd (fun j => nI (sa j)) ln (nI f)))), (s2, .inl (cI, 24, .inl (fun j => nI (sb j)))), (s3, .inl (cI, 24, .inl sr)), (s4, .inl (cI, 24, .inl (fun j => nI (su j))))] H := hP
  have hD : va_D A [(s0, .inr (4, [.ref s1, .ref s2, .ref s3, .ref s4, .ref s5, .ref s6, .ref s7, .int (nI bn), .int (nI ln)])), (s1, .inl (cI, 24, .inl (upd (fun j => nI (sa j)) ln (nI f)))), (s2, .inl (cI, 24, .inl (fun j => nI (sb j)))), (s3, .inl (cI, 24, .inl sr)), (s4, .inl (cI, 24, .inl (fun j => nI (su j))))] := hD
  have hRW : upd (fun j => nI (sa j)) ln (nI f) = fun j => nI (gv_un sa ln f j) := gv_upd_n sa ln f
  rw [hRW] at hP hD
  have hP : va_P D vwCl [(s0, .inr (4, [.ref s1, .ref s2, .ref s3, .ref s4, .ref s5, .ref s6, .ref s7, .int (nI bn), .int (nI ln)])), (s1, .inl (cI, 24, .inl (fun j => nI (gv_un sa ln f j)))), (s2, .inl (cI, 24, .inl (fun j => nI (sb j)))), (s3, .inl (cI, 24, .inl sr)), (s4, .inl (cI, 24, .inl (fun j => nI (su j))))] H := hP
  have hD : va_D A [(s0, .inr (4, [.ref s1, .ref s2, .ref s3, .ref s4, .ref s5, .ref s6, .ref s7, .int (nI bn), .int (nI ln)])), (s1, .inl (cI, 24, .inl (fun j => nI (gv_un sa ln f j)))), (s2, .inl (cI, 24, .inl (fun j => nI (sb j)))), (s3, .inl (cI, 24, .inl sr)), (s4, .inl (cI, 24, .inl (fun j => nI (su j))))] := hD
  refine lv_aload_n hx hb dX4_addLine_10 rfl (lv_at hl 0 rfl) ?_
  refine va_get (D := D) (ci := 4) (v := .ref s2) (C := RX4) (T := TX4) (N := 9) hx hb hts gv_in_X4_addLine_X4 hown hK hP 0 rfl rfl 1 (by decide) (hts (.fieldLink RX4 15 "Gravimere$Survey" "ends" "[I") (by decide +kernel)) (fun _ h9 => h9) rfl dX4_addLine_11 ?_
  refine lv_aload_n hx hb dX4_addLine_14 rfl (lv_at hl 0 rfl) ?_
  refine va_get (D := D) (ci := 4) (v := .int (nI ln)) (C := RX4) (T := TX4) (N := 9) hx hb hts gv_in_X4_addLine_X4 hown hK hP 0 rfl rfl 8 (by decide) (hts (.fieldLink RX4 37 "Gravimere$Survey" "lines" "I") (by decide +kernel)) (fun _ h9 => h9) rfl dX4_addLine_15 ?_
  refine lv_iload_n hx hb dX4_addLine_18 rfl (lv_at hl 2 rfl) ?_
  refine gv_is hx hb hK hP hD hS 2 (k := ln) rfl (by omega) (by decide) dX4_addLine_19 (fun H locs hP hD hS => ?_)
  have hP : va_P D vwCl [(s0, .inr (4, [.ref s1, .ref s2, .ref s3, .ref s4, .ref s5, .ref s6, .ref s7, .int (nI bn), .int (nI ln)])), (s1, .inl (cI, 24, .inl (fun j => nI (gv_un sa ln f j)))), (s2, .inl (cI, 24, .inl (upd (fun j => nI (sb j)) ln (nI t)))), (s3, .inl (cI, 24, .inl sr)), (s4, .inl (cI, 24, .inl (fun j => nI (su j))))] H := hP
  have hD : va_D A [(s0, .inr (4, [.ref s1, .ref s2, .ref s3, .ref s4, .ref s5, .ref s6, .ref s7, .int (nI bn), .int (nI ln)])), (s1, .inl (cI, 24, .inl (fun j => nI (gv_un sa ln f j)))), (s2, .inl (cI, 24, .inl (upd (fun j => nI (sb j)) ln (nI t)))), (s3, .inl (cI, 24, .inl sr)), (s4, .inl (cI, 24, .inl (fun j => nI (su j))))] := hD
  have hRW : upd (fun j => nI (sb j)) ln (nI t) = fun j => nI (gv_un sb ln t j) := gv_upd_n sb ln t
  rw [hRW] at hP hD
  have hP : va_P D vwCl [(s0, .inr (4, [.ref s1, .ref s2, .ref s3, .ref s4, .ref s5, .ref s6, .ref s7, .int (nI bn), .int (nI ln)])), (s1, .inl (cI, 24, .inl (fun j => nI (gv_un sa ln f j)))), (s2, .inl (cI, 24, .inl (fun j => nI (gv_un sb ln t j)))), (s3, .inl (cI, 24, .inl sr)), (s4, .inl (cI, 24, .inl (fun j => nI (su j))))] H := hP
  have hD : va_D A [(s0, .inr (4, [.ref s1, .ref s2, .ref s3, .ref s4, .ref s5, .ref s6, .ref s7, .int (nI bn), .int (nI ln)])), (s1, .inl (cI, 24, .inl (fun j => nI (gv_un sa ln f j)))), (s2, .inl (cI, 24, .inl (fun j => nI (gv_un sb ln t j)))), (s3, .inl (cI, 24, .inl sr)), (s4, .inl (cI, 24, .inl (fun j => nI (su j))))] := hD
  refine lv_aload_n hx hb dX4_addLine_20 rfl (lv_at hl 0 rfl) ?_
  refine va_get (D := D) (ci := 4) (v := .ref s3) (C := RX4) (T := TX4) (N := 9) hx hb hts gv_in_X4_addLine_X4 hown hK hP 0 rfl rfl 2 (by decide) (hts (.fieldLink RX4 18 "Gravimere$Survey" "rises" "[I") (by decide +kernel)) (fun _ h9 => h9) rfl dX4_addLine_21 ?_
  refine lv_aload_n hx hb dX4_addLine_24 rfl (lv_at hl 0 rfl) ?_
  refine va_get (D := D) (ci := 4) (v := .int (nI ln)) (C := RX4) (T := TX4) (N := 9) hx hb hts gv_in_X4_addLine_X4 hown hK hP 0 rfl rfl 8 (by decide) (hts (.fieldLink RX4 37 "Gravimere$Survey" "lines" "I") (by decide +kernel)) (fun _ h9 => h9) rfl dX4_addLine_25 ?_
  refine lv_iload_n hx hb dX4_addLine_28 rfl (lv_at hl 3 rfl) ?_
  refine gv_is hx hb hK hP hD hS 3 (k := ln) rfl (by omega) (by decide) dX4_addLine_29 (fun H locs hP hD hS => ?_)
  have hP : va_P D vwCl [(s0, .inr (4, [.ref s1, .ref s2, .ref s3, .ref s4, .ref s5, .ref s6, .ref s7, .int (nI bn), .int (nI ln)])), (s1, .inl (cI, 24, .inl (fun j => nI (gv_un sa ln f j)))), (s2, .inl (cI, 24, .inl (fun j => nI (gv_un sb ln t j)))), (s3, .inl (cI, 24, .inl (upd sr ln h))), (s4, .inl (cI, 24, .inl (fun j => nI (su j))))] H := hP
  have hD : va_D A [(s0, .inr (4, [.ref s1, .ref s2, .ref s3, .ref s4, .ref s5, .ref s6, .ref s7, .int (nI bn), .int (nI ln)])), (s1, .inl (cI, 24, .inl (fun j => nI (gv_un sa ln f j)))), (s2, .inl (cI, 24, .inl (fun j => nI (gv_un sb ln t j)))), (s3, .inl (cI, 24, .inl (upd sr ln h))), (s4, .inl (cI, 24, .inl (fun j => nI (su j))))] := hD
  refine lv_aload_n hx hb dX4_addLine_30 rfl (lv_at hl 0 rfl) ?_
  refine va_get (D := D) (ci := 4) (v := .ref s4) (C := RX4) (T := TX4) (N := 9) hx hb hts gv_in_X4_addLine_X4 hown hK hP 0 rfl rfl 3 (by decide) (hts (.fieldLink RX4 21 "Gravimere$Survey" "lineDoubts" "[I") (by decide +kernel)) (fun _ h9 => h9) rfl dX4_addLine_31 ?_
  refine lv_aload_n hx hb dX4_addLine_34 rfl (lv_at hl 0 rfl) ?_
  refine va_get (D := D) (ci := 4) (v := .int (nI ln)) (C := RX4) (T := TX4) (N := 9) hx hb hts gv_in_X4_addLine_X4 hown hK hP 0 rfl rfl 8 (by decide) (hts (.fieldLink RX4 37 "Gravimere$Survey" "lines" "I") (by decide +kernel)) (fun _ h9 => h9) rfl dX4_addLine_35 ?_
  refine lv_iload hx hb dX4_addLine_38 (lv_at hl 4 rfl) ?_
  refine gv_is hx hb hK hP hD hS 4 (k := ln) rfl (by omega) (by decide) dX4_addLine_40 (fun H locs hP hD hS => ?_)
  have hP : va_P D vwCl [(s0, .inr (4, [.ref s1, .ref s2, .ref s3, .ref s4, .ref s5, .ref s6, .ref s7, .int (nI bn), .int (nI ln)])), (s1, .inl (cI, 24, .inl (fun j => nI (gv_un sa ln f j)))), (s2, .inl (cI, 24, .inl (fun j => nI (gv_un sb ln t j)))), (s3, .inl (cI, 24, .inl (upd sr ln h))), (s4, .inl (cI, 24, .inl (upd (fun j => nI (su j)) ln (nI u))))] H := hP
  have hD : va_D A [(s0, .inr (4, [.ref s1, .ref s2, .ref s3, .ref s4, .ref s5, .ref s6, .ref s7, .int (nI bn), .int (nI ln)])), (s1, .inl (cI, 24, .inl (fun j => nI (gv_un sa ln f j)))), (s2, .inl (cI, 24, .inl (fun j => nI (gv_un sb ln t j)))), (s3, .inl (cI, 24, .inl (upd sr ln h))), (s4, .inl (cI, 24, .inl (upd (fun j => nI (su j)) ln (nI u))))] := hD
  have hRW : upd (fun j => nI (su j)) ln (nI u) = fun j => nI (gv_un su ln u j) := gv_upd_n su ln u
  rw [hRW] at hP hD
  have hP : va_P D vwCl [(s0, .inr (4, [.ref s1, .ref s2, .ref s3, .ref s4, .ref s5, .ref s6, .ref s7, .int (nI bn), .int (nI ln)])), (s1, .inl (cI, 24, .inl (fun j => nI (gv_un sa ln f j)))), (s2, .inl (cI, 24, .inl (fun j => nI (gv_un sb ln t j)))), (s3, .inl (cI, 24, .inl (upd sr ln h))), (s4, .inl (cI, 24, .inl (fun j => nI (gv_un su ln u j))))] H := hP
  have hD : va_D A [(s0, .inr (4, [.ref s1, .ref s2, .ref s3, .ref s4, .ref s5, .ref s6, .ref s7, .int (nI bn), .int (nI ln)])), (s1, .inl (cI, 24, .inl (fun j => nI (gv_un sa ln f j)))), (s2, .inl (cI, 24, .inl (fun j => nI (gv_un sb ln t j)))), (s3, .inl (cI, 24, .inl (upd sr ln h))), (s4, .inl (cI, 24, .inl (fun j => nI (gv_un su ln u j))))] := hD
  refine lv_aload_n hx hb dX4_addLine_41 rfl (lv_at hl 0 rfl) ?_
  refine lv_dup hx hb dX4_addLine_42 rfl ?_
  refine va_get (D := D) (ci := 4) (v := .int (nI ln)) (C := RX4) (T := TX4) (N := 9) hx hb hts gv_in_X4_addLine_X4 hown hK hP 0 rfl rfl 8 (by decide) (hts (.fieldLink RX4 37 "Gravimere$Survey" "lines" "I") (by decide +kernel)) (fun _ h9 => h9) rfl dX4_addLine_43 ?_
  refine lv_iconst (v := nI 1) hx hb dX4_addLine_46 (by decide) ?_
  refine lv_iadd hx hb dX4_addLine_47 ?_
  refine gv_wi (nI_add ln 1) ?_
  refine va_put (D := D) (ci := 4) (v := .int (nI (ln + 1))) (ty := .int) (C := RX4) (T := TX4) (N := 9) hx hb hts gv_in_X4_addLine_X4 tyX4 tyX4_ok nmX4 hown hK hP hD hS 0 rfl rfl 8 (by decide) (hts (.fieldLink RX4 37 "Gravimere$Survey" "lines" "I") (by decide +kernel)) (fun _ h9 => h9) rfl (by decide +kernel) rfl rfl (Nat.le_of_ble_eq_true rfl) dX4_addLine_48 (fun H locs hP hD hS => ?_)
  have hP : va_P D vwCl [(s0, .inr (4, [.ref s1, .ref s2, .ref s3, .ref s4, .ref s5, .ref s6, .ref s7, .int (nI bn), .int (nI (ln + 1))])), (s1, .inl (cI, 24, .inl (fun j => nI (gv_un sa ln f j)))), (s2, .inl (cI, 24, .inl (fun j => nI (gv_un sb ln t j)))), (s3, .inl (cI, 24, .inl (upd sr ln h))), (s4, .inl (cI, 24, .inl (fun j => nI (gv_un su ln u j))))] H := hP
  have hD : va_D A [(s0, .inr (4, [.ref s1, .ref s2, .ref s3, .ref s4, .ref s5, .ref s6, .ref s7, .int (nI bn), .int (nI (ln + 1))])), (s1, .inl (cI, 24, .inl (fun j => nI (gv_un sa ln f j)))), (s2, .inl (cI, 24, .inl (fun j => nI (gv_un sb ln t j)))), (s3, .inl (cI, 24, .inl (upd sr ln h))), (s4, .inl (cI, 24, .inl (fun j => nI (gv_un su ln u j))))] := hD
  refine lv_aload_n hx hb dX4_addLine_51 rfl (lv_at hl 0 rfl) ?_
  refine va_get (D := D) (ci := 4) (v := .int (nI (ln + 1))) (C := RX4) (T := TX4) (N := 9) hx hb hts gv_in_X4_addLine_X4 hown hK hP 0 rfl rfl 8 (by decide) (hts (.fieldLink RX4 37 "Gravimere$Survey" "lines" "I") (by decide +kernel)) (fun _ h9 => h9) rfl dX4_addLine_52 ?_
  refine lv_iconst (v := nI 1) hx hb dX4_addLine_55 (by decide) ?_
  refine lv_isub hx hb dX4_addLine_56 ?_
  refine gv_wi (nI_pred ln) ?_
  have hpo : (nI ln) = nI ln := by
    rfl
  have hP9 : va_P D vwCl [(s0, .inr (4, [.ref s1, .ref s2, .ref s3, .ref s4, .ref s5, .ref s6, .ref s7, .int (nI bn), .int (nI (ln + 1))])), (s1, .inl (cI, 24, .inl (fun j => nI (gv_un sa ln f j)))), (s2, .inl (cI, 24, .inl (fun j => nI (gv_un sb ln t j)))), (s3, .inl (cI, 24, .inl (upd sr ln h))), (s4, .inl (cI, 24, .inl (fun j => nI (gv_un su ln u j))))] H := hP
  have hD9 : va_D A [(s0, .inr (4, [.ref s1, .ref s2, .ref s3, .ref s4, .ref s5, .ref s6, .ref s7, .int (nI bn), .int (nI (ln + 1))])), (s1, .inl (cI, 24, .inl (fun j => nI (gv_un sa ln f j)))), (s2, .inl (cI, 24, .inl (fun j => nI (gv_un sb ln t j)))), (s3, .inl (cI, 24, .inl (upd sr ln h))), (s4, .inl (cI, 24, .inl (fun j => nI (gv_un su ln u j))))] := hD
  exact W.iret (v := nI ln) hx hb hr (fun t9 ht9 hW9 => ⟨⟨(nI ln), (), rfl, hpo, by rw [ht9]; exact hP9, hD9⟩, hS.F ht9⟩) hS.2.2 dX4_addLine_57
set_option maxHeartbeats 4000000 in
set_option maxRecDepth 100000 in
theorem ct_X4_knowOnlyFirst (l : Launch) (D : va_G) (cI cJ : ClassId) (sz : Nat) (s6 : Nat) (dd : Nat → Int32)  : Met l yX4_knowOnlyFirst wsX4_knowOnlyFirst ({ frames := 0, cells := 0, slots := 0, locals := 0 }) (va_Pc [.ref s6] (gv_B D cI cJ [(s6, .inl (cI, 10, .inl dd))] sz)) (va_Qv (fun (u9 : Unit) => True) (fun (u9 : Unit) t9 => gv_W D (va_A [(s6, .inl (cI, 10, .inl dd))] sz) [(s6, .inl (cI, 10, .inl (gv_ko dd)))] t9) (va_A [(s6, .inl (cI, 10, .inl dd))] sz)) 0 0 (va_A [(s6, .inl (cI, 10, .inl dd))] sz) := by
  refine Met.ofW (cc := cX4_knowOnlyFirst) (maxL := 2) (ret := none) (by decide) rfl ?_
  intro p e s m args below meth c s₁ B hml hv
  obtain ⟨rfl, hsz, hP, hK, hD0, hG⟩ := hv
  have hx := B.exec
  have hb := B.bytes
  have hr := B.returns
  have hts := atoms_spec (ws := wsX4_knowOnlyFirst) B.pre
  have hown : s.vm.findClass RX4 = some m.cls := findClass_of_methodNamed B.named
  have hlocks := B.notSynchronized
  subst hsz
  have hD := hD0.self (sz := s.heap.size)
  generalize hAe : va_A [(s6, .inl (cI, 10, .inl dd))] s.heap.size = A at hD ⊢
  have hA : ∀ q : Nat, s.heap.size ≤ q → A q := fun q h => by rw [← hAe]; exact Or.inr h
  have hS : va_S A s.heap s.heap [] := va_S.rf
  have hP : va_P D vwCl [(s6, .inl (cI, 10, .inl dd))] s.heap := hP
  have hl := lv_entry ([.ref s6]) (n := 2) (Nat.le_of_ble_eq_true rfl)
  rw [lg_entry_eq]
  generalize (lg_sl ([.ref s6]) ++ List.replicate (2 - (lg_sl ([.ref s6])).length) Slot.unset).toArray = ls at hl ⊢
  have hl : lv_has ls 2 [(0, .ref s6)] := hl
  refine lv_aload_n hx hb dX4_knowOnlyFirst_0 rfl (lv_at hl 0 rfl) ?_
  refine lv_iconst (v := nI 0) hx hb dX4_knowOnlyFirst_1 (by decide) ?_
  refine lv_iconst (v := nI 0) hx hb dX4_knowOnlyFirst_2 (by decide) ?_
  refine gv_is hx hb hK hP hD hS 0 (k := 0) rfl (by omega) (by decide) dX4_knowOnlyFirst_3 (fun H locs hP hD hS => ?_)
  have hP : va_P D vwCl [(s6, .inl (cI, 10, .inl (upd dd 0 (nI 0))))] H := hP
  have hD : va_D A [(s6, .inl (cI, 10, .inl (upd dd 0 (nI 0))))] := hD
  have hRW : upd dd 0 (nI 0) = gv_kn dd 1 := gv_kn_1 dd
  rw [hRW] at hP hD
  have hP : va_P D vwCl [(s6, .inl (cI, 10, .inl (gv_kn dd 1)))] H := hP
  have hD : va_D A [(s6, .inl (cI, 10, .inl (gv_kn dd 1)))] := hD
  refine lv_iconst (v := nI 1) hx hb dX4_knowOnlyFirst_4 (by decide) ?_
  refine lv_istore_n (lv' := [(1, .int (nI 1)), (0, .ref s6)]) hx hb dX4_knowOnlyFirst_5 rfl hl (by decide) rfl (fun ls hl => ?_)
  refine gv_lm (σ := Nat) (fun zq H locs ls => match zq with | i => 1 ≤ i ∧ i ≤ 10 ∧ va_P D vwCl [(s6, .inl (cI, 10, .inl (gv_kn dd i)))] H ∧ va_D A [(s6, .inl (cI, 10, .inl (gv_kn dd i)))] ∧ va_S A s.heap H locs ∧ lv_has ls 2 [(0, .ref s6), (1, .int (nI i))]) (fun zq => match zq with | i => 10 - i) 1 ⟨by omega, by omega, hP, hD, hS, lv_sub hl [1, 0] rfl⟩ (fun i H locs ls hI ih_6 => ?_)
  obtain ⟨hi1, hi2, hP, hD, hS, hl⟩ := hI
  refine lv_iload_n hx hb dX4_knowOnlyFirst_6 rfl (lv_at hl 1 rfl) ?_
  refine lv_bipush (v := nI 10) hx hb dX4_knowOnlyFirst_7 (by decide) ?_
  refine lv_icmp_ge (tgt := 22) hx hb dX4_knowOnlyFirst_9 (by decide) (fun c_9 => ?_) (fun c_9 => ?_)
  · skip
    have c_9 := (nI_leI (a := 10) (b := i) (by omega) (by omega)).mp c_9
    have hpo : True := by
      trivial
    have hP9 : va_P D vwCl [(s6, .inl (cI, 10, .inl (gv_ko dd)))] H := by rw [show i = 10 by omega] at hP; exact hP
    have hD9 : va_D A [(s6, .inl (cI, 10, .inl (gv_ko dd)))] := by rw [show i = 10 by omega] at hD; exact hD
    exact W.vret hx hb hr (fun t9 ht9 hW9 => ⟨⟨(), rfl, hpo, by rw [ht9]; exact hP9, hD9⟩, hS.F ht9⟩) hS.2.2 dX4_knowOnlyFirst_22
  · skip
    have c_9 := (not_congr (nI_leI (a := 10) (b := i) (by omega) (by omega))).mp c_9
    refine lv_aload_n hx hb dX4_knowOnlyFirst_12 rfl (lv_at hl 0 rfl) ?_
    refine lv_iload_n hx hb dX4_knowOnlyFirst_13 rfl (lv_at hl 1 rfl) ?_
    refine lv_iconst (v := -1) hx hb dX4_knowOnlyFirst_14 (by decide) ?_
    refine gv_is hx hb hK hP hD hS 0 (k := i) rfl (by omega) (by decide) dX4_knowOnlyFirst_15 (fun H locs hP hD hS => ?_)
    have hP : va_P D vwCl [(s6, .inl (cI, 10, .inl (upd (gv_kn dd i) i (-1))))] H := hP
    have hD : va_D A [(s6, .inl (cI, 10, .inl (upd (gv_kn dd i) i (-1))))] := hD
    refine lv_iinc (v := nI (i + 1)) (lv' := [(1, .int (nI (i + 1))), (0, .ref s6)]) hx hb dX4_knowOnlyFirst_16 hl (k := 1) rfl (nI_add i 1) (by decide) rfl (fun ls hl => ?_)
    refine lv_goto (tgt := 6) hx hb dX4_knowOnlyFirst_19 (by decide) ?_
    have hRW : upd (gv_kn dd i) i (-1) = gv_kn dd (i + 1) := gv_kn_s hi1
    rw [hRW] at hP hD
    have hP : va_P D vwCl [(s6, .inl (cI, 10, .inl (gv_kn dd (i + 1))))] H := hP
    have hD : va_D A [(s6, .inl (cI, 10, .inl (gv_kn dd (i + 1))))] := hD
    exact ih_6 (i + 1) _ _ _ ⟨by omega, by omega, hP, hD, hS, lv_sub hl [1, 0] rfl⟩ (by simp only; omega)
set_option maxHeartbeats 4000000 in
set_option maxRecDepth 100000 in
theorem ct_X4_doubtBeyond (l : Launch) (D : va_G) (cI cJ : ClassId) (sz : Nat) (s0 s1 s2 s3 s4 s5 s6 s7 bn ln : Nat) (sa sb su : Nat → Nat) (dd : Nat → Int32) (k : Nat) (hsa : ∀ j, sa j < 10) (hsb : ∀ j, sb j < 10) (hk : k < 24) : Met l yX4_doubtBeyond wsX4_doubtBeyond ({ frames := 0, cells := 0, slots := 0, locals := 0 }) (va_Pc [.ref s0, .int (nI k)] (gv_B D cI cJ [(s0, .inr (4, [.ref s1, .ref s2, .ref s3, .ref s4, .ref s5, .ref s6, .ref s7, .int (nI bn), .int (nI ln)])), (s1, .inl (cI, 24, .inl (fun j => nI (sa j)))), (s2, .inl (cI, 24, .inl (fun j => nI (sb j)))), (s4, .inl (cI, 24, .inl (fun j => nI (su j)))), (s6, .inl (cI, 10, .inl dd))] sz)) (vp_Si (fun r9 : Int32 => r9 = gv_db sa sb su dd k)) 0 0 (fun _ => False) := by
  refine Met.ofW (cc := cX4_doubtBeyond) (maxL := 4) (ret := (some .int)) (by decide) rfl ?_
  intro p e s m args below meth c s₁ B hml hv
  obtain ⟨rfl, hsz, hP, hK, hD0, hG⟩ := hv
  have hx := B.exec
  have hb := B.bytes
  have hr := B.returns
  have hts := atoms_spec (ws := wsX4_doubtBeyond) B.pre
  have hown : s.vm.findClass RX4 = some m.cls := findClass_of_methodNamed B.named
  have hlocks := B.notSynchronized
  subst hsz
  have hD := hD0
  have hP : va_P D vwCl [(s0, .inr (4, [.ref s1, .ref s2, .ref s3, .ref s4, .ref s5, .ref s6, .ref s7, .int (nI bn), .int (nI ln)])), (s1, .inl (cI, 24, .inl (fun j => nI (sa j)))), (s2, .inl (cI, 24, .inl (fun j => nI (sb j)))), (s4, .inl (cI, 24, .inl (fun j => nI (su j)))), (s6, .inl (cI, 10, .inl dd))] s.heap := hP
  have hl := lv_entry ([.ref s0, .int (nI k)]) (n := 4) (Nat.le_of_ble_eq_true rfl)
  rw [lg_entry_eq]
  generalize (lg_sl ([.ref s0, .int (nI k)]) ++ List.replicate (4 - (lg_sl ([.ref s0, .int (nI k)])).length) Slot.unset).toArray = ls at hl ⊢
  have hl : lv_has ls 4 [(0, .ref s0), (1, .int (nI k))] := hl
  refine lv_aload_n hx hb dX4_doubtBeyond_0 rfl (lv_at hl 0 rfl) ?_
  refine va_get (D := D) (ci := 4) (v := .ref s6) (C := RX4) (T := TX4) (N := 9) hx hb hts gv_in_X4_doubtBeyond_X4 hown hK hP 0 rfl rfl 5 (by decide) (hts (.fieldLink RX4 27 "Gravimere$Survey" "doubts" "[I") (by decide +kernel)) (fun _ h9 => h9) rfl dX4_doubtBeyond_1 ?_
  refine lv_aload_n hx hb dX4_doubtBeyond_4 rfl (lv_at hl 0 rfl) ?_
  refine va_get (D := D) (ci := 4) (v := .ref s1) (C := RX4) (T := TX4) (N := 9) hx hb hts gv_in_X4_doubtBeyond_X4 hown hK hP 0 rfl rfl 0 (by decide) (hts (.fieldLink RX4 9 "Gravimere$Survey" "starts" "[I") (by decide +kernel)) (fun _ h9 => h9) rfl dX4_doubtBeyond_5 ?_
  refine lv_iload_n hx hb dX4_doubtBeyond_8 rfl (lv_at hl 1 rfl) ?_
  refine gv_il hx hb hK hP 1 (k := k) rfl (by first | exact hsa _ | exact hsb _ | omega) (by decide) dX4_doubtBeyond_9 ?_
  refine gv_wi (rfl) ?_
  refine gv_il hx hb hK hP 4 (k := sa k) rfl (by first | exact hsa _ | exact hsb _ | omega) (by decide) dX4_doubtBeyond_10 ?_
  refine lv_istore_n (lv' := [(2, .int (dd (sa k))), (0, .ref s0), (1, .int (nI k))]) hx hb dX4_doubtBeyond_11 rfl hl (by decide) rfl (fun ls hl => ?_)
  refine lv_aload_n hx hb dX4_doubtBeyond_12 rfl (lv_at hl 1 rfl) ?_
  refine va_get (D := D) (ci := 4) (v := .ref s6) (C := RX4) (T := TX4) (N := 9) hx hb hts gv_in_X4_doubtBeyond_X4 hown hK hP 0 rfl rfl 5 (by decide) (hts (.fieldLink RX4 27 "Gravimere$Survey" "doubts" "[I") (by decide +kernel)) (fun _ h9 => h9) rfl dX4_doubtBeyond_13 ?_
  refine lv_aload_n hx hb dX4_doubtBeyond_16 rfl (lv_at hl 1 rfl) ?_
  refine va_get (D := D) (ci := 4) (v := .ref s2) (C := RX4) (T := TX4) (N := 9) hx hb hts gv_in_X4_doubtBeyond_X4 hown hK hP 0 rfl rfl 1 (by decide) (hts (.fieldLink RX4 15 "Gravimere$Survey" "ends" "[I") (by decide +kernel)) (fun _ h9 => h9) rfl dX4_doubtBeyond_17 ?_
  refine lv_iload_n hx hb dX4_doubtBeyond_20 rfl (lv_at hl 2 rfl) ?_
  refine gv_il hx hb hK hP 2 (k := k) rfl (by first | exact hsa _ | exact hsb _ | omega) (by decide) dX4_doubtBeyond_21 ?_
  refine gv_wi (rfl) ?_
  refine gv_il hx hb hK hP 4 (k := sb k) rfl (by first | exact hsa _ | exact hsb _ | omega) (by decide) dX4_doubtBeyond_22 ?_
  refine lv_istore_n (lv' := [(3, .int (dd (sb k))), (2, .int (dd (sa k))), (0, .ref s0), (1, .int (nI k))]) hx hb dX4_doubtBeyond_23 rfl hl (by decide) rfl (fun ls hl => ?_)
  refine gv_mg (fun v : Int32 => v = if dd (sa k) = -1 then nI 1 else nI 0) 34 [] (fun v1 hv_v1 => ?_) (fun K_1 => ?_)
  · skip
    refine gv_mg (fun v : Int32 => v = if dd (sb k) = -1 then nI 1 else nI 0) 44 [.int v1] (fun v2 hv_v2 => ?_) (fun K_2 => ?_)
    · skip
      refine lv_icmp_ne (tgt := 49) hx hb dX4_doubtBeyond_44 (by decide) (fun c_44 => ?_) (fun c_44 => ?_)
      · skip
        refine lv_iload_n hx hb dX4_doubtBeyond_49 rfl (lv_at hl 1 rfl) ?_
        refine lv_iconst (v := -1) hx hb dX4_doubtBeyond_50 (by decide) ?_
        refine lv_icmp_ne (tgt := 58) hx hb dX4_doubtBeyond_51 (by decide) (fun c_51 => ?_) (fun c_51 => ?_)
        · skip
          refine lv_iload_n hx hb dX4_doubtBeyond_58 rfl (lv_at hl 1 rfl) ?_
          refine lv_aload_n hx hb dX4_doubtBeyond_59 rfl (lv_at hl 2 rfl) ?_
          refine va_get (D := D) (ci := 4) (v := .ref s4) (C := RX4) (T := TX4) (N := 9) hx hb hts gv_in_X4_doubtBeyond_X4 hown hK hP 0 rfl rfl 3 (by decide) (hts (.fieldLink RX4 21 "Gravimere$Survey" "lineDoubts" "[I") (by decide +kernel)) (fun _ h9 => h9) rfl dX4_doubtBeyond_60 ?_
          refine lv_iload_n hx hb dX4_doubtBeyond_63 rfl (lv_at hl 3 rfl) ?_
          refine gv_il hx hb hK hP 3 (k := k) rfl (by first | exact hsa _ | exact hsb _ | omega) (by decide) dX4_doubtBeyond_64 ?_
          refine gv_wi (rfl) ?_
          refine lv_iadd hx hb dX4_doubtBeyond_65 ?_
          have hpo : ((dd (sa k)) + (nI (su k))) = gv_db sa sb su dd k := by
            first | exact gv_db_2 hv_v1 hv_v2 c_44 c_51 | exact gv_db_3 hv_v1 hv_v2 c_44 c_51
          exact W.iret (v := (dd (sa k)) + (nI (su k))) hx hb hr (fun t9 ht9 hW9 => ⟨((dd (sa k)) + (nI (su k))), rfl, hpo, ht9⟩) t_nil dX4_doubtBeyond_66
        · skip
          refine lv_iload_n hx hb dX4_doubtBeyond_54 rfl (lv_at hl 0 rfl) ?_
          refine lv_goto (tgt := 59) hx hb dX4_doubtBeyond_55 (by decide) ?_
          refine lv_aload_n hx hb dX4_doubtBeyond_59 rfl (lv_at hl 2 rfl) ?_
          refine va_get (D := D) (ci := 4) (v := .ref s4) (C := RX4) (T := TX4) (N := 9) hx hb hts gv_in_X4_doubtBeyond_X4 hown hK hP 0 rfl rfl 3 (by decide) (hts (.fieldLink RX4 21 "Gravimere$Survey" "lineDoubts" "[I") (by decide +kernel)) (fun _ h9 => h9) rfl dX4_doubtBeyond_60 ?_
          refine lv_iload_n hx hb dX4_doubtBeyond_63 rfl (lv_at hl 3 rfl) ?_
          refine gv_il hx hb hK hP 3 (k := k) rfl (by first | exact hsa _ | exact hsb _ | omega) (by decide) dX4_doubtBeyond_64 ?_
          refine gv_wi (rfl) ?_
          refine lv_iadd hx hb dX4_doubtBeyond_65 ?_
          have hpo : ((dd (sb k)) + (nI (su k))) = gv_db sa sb su dd k := by
            first | exact gv_db_2 hv_v1 hv_v2 c_44 c_51 | exact gv_db_3 hv_v1 hv_v2 c_44 c_51
          exact W.iret (v := (dd (sb k)) + (nI (su k))) hx hb hr (fun t9 ht9 hW9 => ⟨((dd (sb k)) + (nI (su k))), rfl, hpo, ht9⟩) t_nil dX4_doubtBeyond_66
      · skip
        refine lv_iconst (v := -1) hx hb dX4_doubtBeyond_47 (by decide) ?_
        have hpo : (-1) = gv_db sa sb su dd k := by
          exact gv_db_1 hv_v1 hv_v2 c_44
        exact W.iret (v := -1) hx hb hr (fun t9 ht9 hW9 => ⟨(-1), rfl, hpo, ht9⟩) t_nil dX4_doubtBeyond_48
    · skip
      refine lv_iload_n hx hb dX4_doubtBeyond_34 rfl (lv_at hl 0 rfl) ?_
      refine lv_iconst (v := -1) hx hb dX4_doubtBeyond_35 (by decide) ?_
      refine lv_icmp_ne (tgt := 43) hx hb dX4_doubtBeyond_36 (by decide) (fun c_36 => ?_) (fun c_36 => ?_)
      · skip
        refine lv_iconst (v := nI 0) hx hb dX4_doubtBeyond_43 (by decide) ?_
        exact K_2 _ (by first | exact (if_pos c_36).symm | exact (if_neg c_36).symm)
      · skip
        refine lv_iconst (v := nI 1) hx hb dX4_doubtBeyond_39 (by decide) ?_
        refine lv_goto (tgt := 44) hx hb dX4_doubtBeyond_40 (by decide) ?_
        exact K_2 _ (by first | exact (if_pos c_36).symm | exact (if_neg c_36).symm)
  · skip
    refine lv_iload_n hx hb dX4_doubtBeyond_24 rfl (lv_at hl 1 rfl) ?_
    refine lv_iconst (v := -1) hx hb dX4_doubtBeyond_25 (by decide) ?_
    refine lv_icmp_ne (tgt := 33) hx hb dX4_doubtBeyond_26 (by decide) (fun c_26 => ?_) (fun c_26 => ?_)
    · skip
      refine lv_iconst (v := nI 0) hx hb dX4_doubtBeyond_33 (by decide) ?_
      exact K_1 _ (by first | exact (if_pos c_26).symm | exact (if_neg c_26).symm)
    · skip
      refine lv_iconst (v := nI 1) hx hb dX4_doubtBeyond_29 (by decide) ?_
      refine lv_goto (tgt := 34) hx hb dX4_doubtBeyond_30 (by decide) ?_
      exact K_1 _ (by first | exact (if_pos c_26).symm | exact (if_neg c_26).symm)
set_option maxHeartbeats 4000000 in
set_option maxRecDepth 100000 in
theorem ct_X4_surestLine (l : Launch) (D : va_G) (cI cJ : ClassId) (sz : Nat) (s0 s1 s2 s3 s4 s5 s6 s7 bn ln : Nat) (sa sb su : Nat → Nat) (dd : Nat → Int32) (hsa : ∀ j, sa j < 10) (hsb : ∀ j, sb j < 10) (hln : ln ≤ 24) : Met l yX4_surestLine wsX4_surestLine ({ frames := 1, cells := 0, slots := 0, locals := 23 }) (va_Pc [.ref s0] (gv_B D cI cJ [(s0, .inr (4, [.ref s1, .ref s2, .ref s3, .ref s4, .ref s5, .ref s6, .ref s7, .int (nI bn), .int (nI ln)])), (s1, .inl (cI, 24, .inl (fun j => nI (sa j)))), (s2, .inl (cI, 24, .inl (fun j => nI (sb j)))), (s4, .inl (cI, 24, .inl (fun j => nI (su j)))), (s6, .inl (cI, 10, .inl dd))] sz)) (vp_Si (fun r9 : Int32 => r9 = (gv_srl sa sb su dd ln).1)) 0 0 (fun _ => False) := by
  refine Met.ofW (cc := cX4_surestLine) (maxL := 5) (ret := (some .int)) (by decide) rfl ?_
  intro p e s m args below meth c s₁ B hml hv
  obtain ⟨rfl, hsz, hP, hK, hD0, hG⟩ := hv
  have hx := B.exec
  have hb := B.bytes
  have hr := B.returns
  have hts := atoms_spec (ws := wsX4_surestLine) B.pre
  have hown : s.vm.findClass RX4 = some m.cls := findClass_of_methodNamed B.named
  have hlocks := B.notSynchronized
  subst hsz
  have hD := hD0
  have hP : va_P D vwCl [(s0, .inr (4, [.ref s1, .ref s2, .ref s3, .ref s4, .ref s5, .ref s6, .ref s7, .int (nI bn), .int (nI ln)])), (s1, .inl (cI, 24, .inl (fun j => nI (sa j)))), (s2, .inl (cI, 24, .inl (fun j => nI (sb j)))), (s4, .inl (cI, 24, .inl (fun j => nI (su j)))), (s6, .inl (cI, 10, .inl dd))] s.heap := hP
  have hl := lv_entry ([.ref s0]) (n := 5) (Nat.le_of_ble_eq_true rfl)
  rw [lg_entry_eq]
  generalize (lg_sl ([.ref s0]) ++ List.replicate (5 - (lg_sl ([.ref s0])).length) Slot.unset).toArray = ls at hl ⊢
  have hl : lv_has ls 5 [(0, .ref s0)] := hl
  refine lv_iconst (v := -1) hx hb dX4_surestLine_0 (by decide) ?_
  refine lv_istore_n (lv' := [(1, .int (-1)), (0, .ref s0)]) hx hb dX4_surestLine_1 rfl hl (by decide) rfl (fun ls hl => ?_)
  refine lv_iconst (v := -1) hx hb dX4_surestLine_2 (by decide) ?_
  refine lv_istore_n (lv' := [(2, .int (-1)), (1, .int (-1)), (0, .ref s0)]) hx hb dX4_surestLine_3 rfl hl (by decide) rfl (fun ls hl => ?_)
  refine lv_iconst (v := nI 0) hx hb dX4_surestLine_4 (by decide) ?_
  refine lv_istore_n (lv' := [(3, .int (nI 0)), (2, .int (-1)), (1, .int (-1)), (0, .ref s0)]) hx hb dX4_surestLine_5 rfl hl (by decide) rfl (fun ls hl => ?_)
  refine gv_lp (σ := Nat × Int32 × Int32) (fun zq ls => match zq with | (i, a, b) => i ≤ ln ∧ a = (gv_srl sa sb su dd i).1 ∧ b = (gv_srl sa sb su dd i).2 ∧ lv_has ls 5 [(0, .ref s0), (1, .int a), (2, .int b), (3, .int (nI i))]) (fun zq => match zq with | (i, a, b) => ln - i) (0, -1, -1) ⟨by omega, rfl, rfl, lv_sub hl [3, 2, 1, 0] rfl⟩ (fun zq ls hI ih_6 => ?_)
  obtain ⟨i, a, b⟩ := zq
  obtain ⟨hi, ha, hb2, hl⟩ := hI
  refine lv_iload_n hx hb dX4_surestLine_6 rfl (lv_at hl 3 rfl) ?_
  refine lv_aload_n hx hb dX4_surestLine_7 rfl (lv_at hl 0 rfl) ?_
  refine va_get (D := D) (ci := 4) (v := .int (nI ln)) (C := RX4) (T := TX4) (N := 9) hx hb hts gv_in_X4_surestLine_X4 hown hK hP 0 rfl rfl 8 (by decide) (hts (.fieldLink RX4 37 "Gravimere$Survey" "lines" "I") (by decide +kernel)) (fun _ h9 => h9) rfl dX4_surestLine_8 ?_
  refine lv_icmp_ge (tgt := 49) hx hb dX4_surestLine_11 (by decide) (fun c_11 => ?_) (fun c_11 => ?_)
  · skip
    have c_11 := (nI_leI (a := ln) (b := i) (by omega) (by omega)).mp c_11
    refine lv_iload_n hx hb dX4_surestLine_49 rfl (lv_at hl 1 rfl) ?_
    have hpo : a = (gv_srl sa sb su dd ln).1 := by
      rw [ha, show i = ln by omega]
    exact W.iret (v := a) hx hb hr (fun t9 ht9 hW9 => ⟨a, rfl, hpo, ht9⟩) t_nil dX4_surestLine_50
  · skip
    have c_11 := (not_congr (nI_leI (a := ln) (b := i) (by omega) (by omega))).mp c_11
    refine lv_aload_n hx hb dX4_surestLine_14 rfl (lv_at hl 0 rfl) ?_
    refine lv_iload_n hx hb dX4_surestLine_15 rfl (lv_at hl 3 rfl) ?_
    refine gv_pi (va_runV (As := [.int (nI i)]) (rest := []) ⟨hx, hb, hml, hown, hts⟩ (ct_X4_doubtBeyond l D cI cJ s.heap.size s0 s1 s2 s3 s4 s5 s6 s7 bn ln sa sb su dd i hsa hsb (by omega)) (cwV 1 hts gX4_surestLine_X4_doubtBeyond rfl rfl rfl (by decide +kernel) ⟨Nat.le_of_ble_eq_true rfl, Nat.le_of_ble_eq_true rfl⟩) (gv_pV (wc := [(s0, .inr (4, [.ref s1, .ref s2, .ref s3, .ref s4, .ref s5, .ref s6, .ref s7, .int (nI bn), .int (nI ln)])), (s1, .inl (cI, 24, .inl (fun j => nI (sa j)))), (s2, .inl (cI, 24, .inl (fun j => nI (sb j)))), (s4, .inl (cI, 24, .inl (fun j => nI (su j)))), (s6, .inl (cI, 10, .inl dd))]) hP hK hD hG [0, 1, 2, 3, 4] rfl (by decide) 0 rfl rfl rfl) rfl rfl hl.1 rfl (lv_room (Nat.le_of_ble_eq_true rfl)) dX4_surestLine_16 ⟨Nat.le_of_ble_eq_true rfl, Nat.le_of_ble_eq_true rfl⟩) (fun rd hrd => ?_)
    refine lv_istore (lv' := [(4, .int rd), (0, .ref s0), (1, .int a), (2, .int b), (3, .int (nI i))]) hx hb dX4_surestLine_19 hl (by decide) rfl (fun ls hl => ?_)
    refine lv_iload hx hb dX4_surestLine_21 (lv_at hl 0 rfl) ?_
    refine lv_iconst (v := -1) hx hb dX4_surestLine_23 (by decide) ?_
    refine lv_icmp_eq (tgt := 43) hx hb dX4_surestLine_24 (by decide) (fun c_24 => ?_) (fun c_24 => ?_)
    · skip
      refine lv_iinc (v := nI (i + 1)) (lv' := [(3, .int (nI (i + 1))), (4, .int rd), (0, .ref s0), (1, .int a), (2, .int b)]) hx hb dX4_surestLine_43 hl (k := 4) rfl (nI_add i 1) (by decide) rfl (fun ls hl => ?_)
      refine lv_goto (tgt := 6) hx hb dX4_surestLine_46 (by decide) ?_
      exact ih_6 (i + 1, a, b) _ ⟨by omega, by rw [gv_srl, if_neg (fun z => by first | exact z.1 (hrd.symm.trans c_24) | exact z.2.elim (fun w => c_29 (ha.trans w)) (fun w => gv_len32 c_35 (by rw [hrd, hb2]; exact w)))]; exact ha, by rw [gv_srl, if_neg (fun z => by first | exact z.1 (hrd.symm.trans c_24) | exact z.2.elim (fun w => c_29 (ha.trans w)) (fun w => gv_len32 c_35 (by rw [hrd, hb2]; exact w)))]; exact hb2, lv_sub hl [2, 3, 4, 0] rfl⟩ (by simp only; omega)
    · skip
      refine lv_iload_n hx hb dX4_surestLine_27 rfl (lv_at hl 2 rfl) ?_
      refine lv_iconst (v := -1) hx hb dX4_surestLine_28 (by decide) ?_
      refine lv_icmp_eq (tgt := 38) hx hb dX4_surestLine_29 (by decide) (fun c_29 => ?_) (fun c_29 => ?_)
      · skip
        refine lv_iload_n hx hb dX4_surestLine_38 rfl (lv_at hl 4 rfl) ?_
        refine lv_istore_n (lv' := [(1, .int (nI i)), (4, .int rd), (0, .ref s0), (2, .int b), (3, .int (nI i))]) hx hb dX4_surestLine_39 rfl hl (by decide) rfl (fun ls hl => ?_)
        refine lv_iload hx hb dX4_surestLine_40 (lv_at hl 1 rfl) ?_
        refine lv_istore_n (lv' := [(2, .int rd), (1, .int (nI i)), (4, .int rd), (0, .ref s0), (3, .int (nI i))]) hx hb dX4_surestLine_42 rfl hl (by decide) rfl (fun ls hl => ?_)
        refine lv_iinc (v := nI (i + 1)) (lv' := [(3, .int (nI (i + 1))), (2, .int rd), (1, .int (nI i)), (4, .int rd), (0, .ref s0)]) hx hb dX4_surestLine_43 hl (k := 4) rfl (nI_add i 1) (by decide) rfl (fun ls hl => ?_)
        refine lv_goto (tgt := 6) hx hb dX4_surestLine_46 (by decide) ?_
        exact ih_6 (i + 1, nI i, rd) _ ⟨by omega, by rw [gv_srl, if_pos ⟨fun z => c_24 (hrd.trans z), by first | exact Or.inl (ha.symm.trans c_29) | exact Or.inr (by rw [← hrd, ← hb2]; exact gv_nle32 c_35)⟩], by rw [gv_srl, if_pos ⟨fun z => c_24 (hrd.trans z), by first | exact Or.inl (ha.symm.trans c_29) | exact Or.inr (by rw [← hrd, ← hb2]; exact gv_nle32 c_35)⟩]; exact hrd, lv_sub hl [4, 2, 1, 0] rfl⟩ (by simp only; omega)
      · skip
        refine lv_iload hx hb dX4_surestLine_32 (lv_at hl 0 rfl) ?_
        refine lv_iload_n hx hb dX4_surestLine_34 rfl (lv_at hl 3 rfl) ?_
        refine lv_icmp_ge (tgt := 43) hx hb dX4_surestLine_35 (by decide) (fun c_35 => ?_) (fun c_35 => ?_)
        · skip
          refine lv_iinc (v := nI (i + 1)) (lv' := [(3, .int (nI (i + 1))), (4, .int rd), (0, .ref s0), (1, .int a), (2, .int b)]) hx hb dX4_surestLine_43 hl (k := 4) rfl (nI_add i 1) (by decide) rfl (fun ls hl => ?_)
          refine lv_goto (tgt := 6) hx hb dX4_surestLine_46 (by decide) ?_
          exact ih_6 (i + 1, a, b) _ ⟨by omega, by rw [gv_srl, if_neg (fun z => by first | exact z.1 (hrd.symm.trans c_24) | exact z.2.elim (fun w => c_29 (ha.trans w)) (fun w => gv_len32 c_35 (by rw [hrd, hb2]; exact w)))]; exact ha, by rw [gv_srl, if_neg (fun z => by first | exact z.1 (hrd.symm.trans c_24) | exact z.2.elim (fun w => c_29 (ha.trans w)) (fun w => gv_len32 c_35 (by rw [hrd, hb2]; exact w)))]; exact hb2, lv_sub hl [2, 3, 4, 0] rfl⟩ (by simp only; omega)
        · skip
          refine lv_iload_n hx hb dX4_surestLine_38 rfl (lv_at hl 4 rfl) ?_
          refine lv_istore_n (lv' := [(1, .int (nI i)), (4, .int rd), (0, .ref s0), (2, .int b), (3, .int (nI i))]) hx hb dX4_surestLine_39 rfl hl (by decide) rfl (fun ls hl => ?_)
          refine lv_iload hx hb dX4_surestLine_40 (lv_at hl 1 rfl) ?_
          refine lv_istore_n (lv' := [(2, .int rd), (1, .int (nI i)), (4, .int rd), (0, .ref s0), (3, .int (nI i))]) hx hb dX4_surestLine_42 rfl hl (by decide) rfl (fun ls hl => ?_)
          refine lv_iinc (v := nI (i + 1)) (lv' := [(3, .int (nI (i + 1))), (2, .int rd), (1, .int (nI i)), (4, .int rd), (0, .ref s0)]) hx hb dX4_surestLine_43 hl (k := 4) rfl (nI_add i 1) (by decide) rfl (fun ls hl => ?_)
          refine lv_goto (tgt := 6) hx hb dX4_surestLine_46 (by decide) ?_
          exact ih_6 (i + 1, nI i, rd) _ ⟨by omega, by rw [gv_srl, if_pos ⟨fun z => c_24 (hrd.trans z), by first | exact Or.inl (ha.symm.trans c_29) | exact Or.inr (by rw [← hrd, ← hb2]; exact gv_nle32 c_35)⟩], by rw [gv_srl, if_pos ⟨fun z => c_24 (hrd.trans z), by first | exact Or.inl (ha.symm.trans c_29) | exact Or.inr (by rw [← hrd, ← hb2]; exact gv_nle32 c_35)⟩]; exact hrd, lv_sub hl [4, 2, 1, 0] rfl⟩ (by simp only; omega)
set_option maxHeartbeats 4000000 in
set_option maxRecDepth 100000 in
theorem ct_X4_goAlong (l : Launch) (D : va_G) (cI cJ : ClassId) (sz : Nat) (s0 s1 s2 s3 s4 s5 s6 s7 bn ln : Nat) (sa sb su : Nat → Nat) (sr dd hh : Nat → Int32) (k : Nat) (hsa : ∀ j, sa j < 10) (hsb : ∀ j, sb j < 10) (hk : k < 24) : Met l yX4_goAlong wsX4_goAlong ({ frames := 0, cells := 0, slots := 0, locals := 0 }) (va_Pc [.ref s0, .int (nI k)] (gv_B D cI cJ [(s0, .inr (4, [.ref s1, .ref s2, .ref s3, .ref s4, .ref s5, .ref s6, .ref s7, .int (nI bn), .int (nI ln)])), (s1, .inl (cI, 24, .inl (fun j => nI (sa j)))), (s2, .inl (cI, 24, .inl (fun j => nI (sb j)))), (s3, .inl (cI, 24, .inl sr)), (s4, .inl (cI, 24, .inl (fun j => nI (su j)))), (s5, .inl (cI, 10, .inl hh)), (s6, .inl (cI, 10, .inl dd))] sz)) (va_Qv (fun (u9 : Unit) => True) (fun (u9 : Unit) t9 => gv_W D (va_A [(s0, .inr (4, [.ref s1, .ref s2, .ref s3, .ref s4, .ref s5, .ref s6, .ref s7, .int (nI bn), .int (nI ln)])), (s1, .inl (cI, 24, .inl (fun j => nI (sa j)))), (s2, .inl (cI, 24, .inl (fun j => nI (sb j)))), (s3, .inl (cI, 24, .inl sr)), (s4, .inl (cI, 24, .inl (fun j => nI (su j)))), (s5, .inl (cI, 10, .inl hh)), (s6, .inl (cI, 10, .inl dd))] sz) [(s0, .inr (4, [.ref s1, .ref s2, .ref s3, .ref s4, .ref s5, .ref s6, .ref s7, .int (nI bn), .int (nI ln)])), (s1, .inl (cI, 24, .inl (fun j => nI (sa j)))), (s2, .inl (cI, 24, .inl (fun j => nI (sb j)))), (s3, .inl (cI, 24, .inl sr)), (s4, .inl (cI, 24, .inl (fun j => nI (su j)))), (s5, .inl (cI, 10, .inl ((gv_stp sa sb su sr (dd, hh) k).2))), (s6, .inl (cI, 10, .inl ((gv_stp sa sb su sr (dd, hh) k).1)))] t9) (va_A [(s0, .inr (4, [.ref s1, .ref s2, .ref s3, .ref s4, .ref s5, .ref s6, .ref s7, .int (nI bn), .int (nI ln)])), (s1, .inl (cI, 24, .inl (fun j => nI (sa j)))), (s2, .inl (cI, 24, .inl (fun j => nI (sb j)))), (s3, .inl (cI, 24, .inl sr)), (s4, .inl (cI, 24, .inl (fun j => nI (su j)))), (s5, .inl (cI, 10, .inl hh)), (s6, .inl (cI, 10, .inl dd))] sz)) 0 0 (va_A [(s0, .inr (4, [.ref s1, .ref s2, .ref s3, .ref s4, .ref s5, .ref s6, .ref s7, .int (nI bn), .int (nI ln)])), (s1, .inl (cI, 24, .inl (fun j => nI (sa j)))), (s2, .inl (cI, 24, .inl (fun j => nI (sb j)))), (s3, .inl (cI, 24, .inl sr)), (s4, .inl (cI, 24, .inl (fun j => nI (su j)))), (s5, .inl (cI, 10, .inl hh)), (s6, .inl (cI, 10, .inl dd))] sz) := by
  refine Met.ofW (cc := cX4_goAlong) (maxL := 4) (ret := none) (by decide) rfl ?_
  intro p e s m args below meth c s₁ B hml hv
  obtain ⟨rfl, hsz, hP, hK, hD0, hG⟩ := hv
  have hx := B.exec
  have hb := B.bytes
  have hr := B.returns
  have hts := atoms_spec (ws := wsX4_goAlong) B.pre
  have hown : s.vm.findClass RX4 = some m.cls := findClass_of_methodNamed B.named
  have hlocks := B.notSynchronized
  subst hsz
  have hD := hD0.self (sz := s.heap.size)
  generalize hAe : va_A [(s0, .inr (4, [.ref s1, .ref s2, .ref s3, .ref s4, .ref s5, .ref s6, .ref s7, .int (nI bn), .int (nI ln)])), (s1, .inl (cI, 24, .inl (fun j => nI (sa j)))), (s2, .inl (cI, 24, .inl (fun j => nI (sb j)))), (s3, .inl (cI, 24, .inl sr)), (s4, .inl (cI, 24, .inl (fun j => nI (su j)))), (s5, .inl (cI, 10, .inl hh)), (s6, .inl (cI, 10, .inl dd))] s.heap.size = A at hD ⊢
  have hA : ∀ q : Nat, s.heap.size ≤ q → A q := fun q h => by rw [← hAe]; exact Or.inr h
  have hS : va_S A s.heap s.heap [] := va_S.rf
  have hP : va_P D vwCl [(s0, .inr (4, [.ref s1, .ref s2, .ref s3, .ref s4, .ref s5, .ref s6, .ref s7, .int (nI bn), .int (nI ln)])), (s1, .inl (cI, 24, .inl (fun j => nI (sa j)))), (s2, .inl (cI, 24, .inl (fun j => nI (sb j)))), (s3, .inl (cI, 24, .inl sr)), (s4, .inl (cI, 24, .inl (fun j => nI (su j)))), (s5, .inl (cI, 10, .inl hh)), (s6, .inl (cI, 10, .inl dd))] s.heap := hP
  have hl := lv_entry ([.ref s0, .int (nI k)]) (n := 4) (Nat.le_of_ble_eq_true rfl)
  rw [lg_entry_eq]
  generalize (lg_sl ([.ref s0, .int (nI k)]) ++ List.replicate (4 - (lg_sl ([.ref s0, .int (nI k)])).length) Slot.unset).toArray = ls at hl ⊢
  have hl : lv_has ls 4 [(0, .ref s0), (1, .int (nI k))] := hl
  refine lv_aload_n hx hb dX4_goAlong_0 rfl (lv_at hl 0 rfl) ?_
  refine va_get (D := D) (ci := 4) (v := .ref s1) (C := RX4) (T := TX4) (N := 9) hx hb hts gv_in_X4_goAlong_X4 hown hK hP 0 rfl rfl 0 (by decide) (hts (.fieldLink RX4 9 "Gravimere$Survey" "starts" "[I") (by decide +kernel)) (fun _ h9 => h9) rfl dX4_goAlong_1 ?_
  refine lv_iload_n hx hb dX4_goAlong_4 rfl (lv_at hl 1 rfl) ?_
  refine gv_il hx hb hK hP 1 (k := k) rfl (by first | exact hsa _ | exact hsb _ | omega) (by decide) dX4_goAlong_5 ?_
  refine gv_wi (rfl) ?_
  refine lv_istore_n (lv' := [(2, .int (nI (sa k))), (0, .ref s0), (1, .int (nI k))]) hx hb dX4_goAlong_6 rfl hl (by decide) rfl (fun ls hl => ?_)
  refine lv_aload_n hx hb dX4_goAlong_7 rfl (lv_at hl 1 rfl) ?_
  refine va_get (D := D) (ci := 4) (v := .ref s2) (C := RX4) (T := TX4) (N := 9) hx hb hts gv_in_X4_goAlong_X4 hown hK hP 0 rfl rfl 1 (by decide) (hts (.fieldLink RX4 15 "Gravimere$Survey" "ends" "[I") (by decide +kernel)) (fun _ h9 => h9) rfl dX4_goAlong_8 ?_
  refine lv_iload_n hx hb dX4_goAlong_11 rfl (lv_at hl 2 rfl) ?_
  refine gv_il hx hb hK hP 2 (k := k) rfl (by first | exact hsa _ | exact hsb _ | omega) (by decide) dX4_goAlong_12 ?_
  refine gv_wi (rfl) ?_
  refine lv_istore_n (lv' := [(3, .int (nI (sb k))), (2, .int (nI (sa k))), (0, .ref s0), (1, .int (nI k))]) hx hb dX4_goAlong_13 rfl hl (by decide) rfl (fun ls hl => ?_)
  refine lv_aload_n hx hb dX4_goAlong_14 rfl (lv_at hl 2 rfl) ?_
  refine va_get (D := D) (ci := 4) (v := .ref s6) (C := RX4) (T := TX4) (N := 9) hx hb hts gv_in_X4_goAlong_X4 hown hK hP 0 rfl rfl 5 (by decide) (hts (.fieldLink RX4 27 "Gravimere$Survey" "doubts" "[I") (by decide +kernel)) (fun _ h9 => h9) rfl dX4_goAlong_15 ?_
  refine lv_iload_n hx hb dX4_goAlong_18 rfl (lv_at hl 0 rfl) ?_
  refine gv_il hx hb hK hP 6 (k := sb k) rfl (by first | exact hsa _ | exact hsb _ | omega) (by decide) dX4_goAlong_19 ?_
  refine lv_iconst (v := -1) hx hb dX4_goAlong_20 (by decide) ?_
  refine lv_icmp_ne (tgt := 65) hx hb dX4_goAlong_21 (by decide) (fun c_21 => ?_) (fun c_21 => ?_)
  · skip
    refine lv_aload_n hx hb dX4_goAlong_65 rfl (lv_at hl 2 rfl) ?_
    refine va_get (D := D) (ci := 4) (v := .ref s6) (C := RX4) (T := TX4) (N := 9) hx hb hts gv_in_X4_goAlong_X4 hown hK hP 0 rfl rfl 5 (by decide) (hts (.fieldLink RX4 27 "Gravimere$Survey" "doubts" "[I") (by decide +kernel)) (fun _ h9 => h9) rfl dX4_goAlong_66 ?_
    refine lv_iload_n hx hb dX4_goAlong_69 rfl (lv_at hl 1 rfl) ?_
    refine lv_aload_n hx hb dX4_goAlong_70 rfl (lv_at hl 2 rfl) ?_
    refine va_get (D := D) (ci := 4) (v := .ref s6) (C := RX4) (T := TX4) (N := 9) hx hb hts gv_in_X4_goAlong_X4 hown hK hP 0 rfl rfl 5 (by decide) (hts (.fieldLink RX4 27 "Gravimere$Survey" "doubts" "[I") (by decide +kernel)) (fun _ h9 => h9) rfl dX4_goAlong_71 ?_
    refine lv_iload_n hx hb dX4_goAlong_74 rfl (lv_at hl 0 rfl) ?_
    refine gv_il hx hb hK hP 6 (k := sb k) rfl (by first | exact hsa _ | exact hsb _ | omega) (by decide) dX4_goAlong_75 ?_
    refine lv_aload_n hx hb dX4_goAlong_76 rfl (lv_at hl 2 rfl) ?_
    refine va_get (D := D) (ci := 4) (v := .ref s4) (C := RX4) (T := TX4) (N := 9) hx hb hts gv_in_X4_goAlong_X4 hown hK hP 0 rfl rfl 3 (by decide) (hts (.fieldLink RX4 21 "Gravimere$Survey" "lineDoubts" "[I") (by decide +kernel)) (fun _ h9 => h9) rfl dX4_goAlong_77 ?_
    refine lv_iload_n hx hb dX4_goAlong_80 rfl (lv_at hl 3 rfl) ?_
    refine gv_il hx hb hK hP 4 (k := k) rfl (by first | exact hsa _ | exact hsb _ | omega) (by decide) dX4_goAlong_81 ?_
    refine gv_wi (rfl) ?_
    refine lv_iadd hx hb dX4_goAlong_82 ?_
    refine gv_is hx hb hK hP hD hS 6 (k := sa k) rfl (by first | exact hsa _ | exact hsb _ | omega) (by decide) dX4_goAlong_83 (fun H locs hP hD hS => ?_)
    have hP : va_P D vwCl [(s0, .inr (4, [.ref s1, .ref s2, .ref s3, .ref s4, .ref s5, .ref s6, .ref s7, .int (nI bn), .int (nI ln)])), (s1, .inl (cI, 24, .inl (fun j => nI (sa j)))), (s2, .inl (cI, 24, .inl (fun j => nI (sb j)))), (s3, .inl (cI, 24, .inl sr)), (s4, .inl (cI, 24, .inl (fun j => nI (su j)))), (s5, .inl (cI, 10, .inl hh)), (s6, .inl (cI, 10, .inl (upd dd (sa k) ((dd (sb k)) + (nI (su k))))))] H := hP
    have hD : va_D A [(s0, .inr (4, [.ref s1, .ref s2, .ref s3, .ref s4, .ref s5, .ref s6, .ref s7, .int (nI bn), .int (nI ln)])), (s1, .inl (cI, 24, .inl (fun j => nI (sa j)))), (s2, .inl (cI, 24, .inl (fun j => nI (sb j)))), (s3, .inl (cI, 24, .inl sr)), (s4, .inl (cI, 24, .inl (fun j => nI (su j)))), (s5, .inl (cI, 10, .inl hh)), (s6, .inl (cI, 10, .inl (upd dd (sa k) ((dd (sb k)) + (nI (su k))))))] := hD
    refine lv_aload_n hx hb dX4_goAlong_84 rfl (lv_at hl 2 rfl) ?_
    refine va_get (D := D) (ci := 4) (v := .ref s5) (C := RX4) (T := TX4) (N := 9) hx hb hts gv_in_X4_goAlong_X4 hown hK hP 0 rfl rfl 4 (by decide) (hts (.fieldLink RX4 24 "Gravimere$Survey" "heights" "[I") (by decide +kernel)) (fun _ h9 => h9) rfl dX4_goAlong_85 ?_
    refine lv_iload_n hx hb dX4_goAlong_88 rfl (lv_at hl 1 rfl) ?_
    refine lv_aload_n hx hb dX4_goAlong_89 rfl (lv_at hl 2 rfl) ?_
    refine va_get (D := D) (ci := 4) (v := .ref s5) (C := RX4) (T := TX4) (N := 9) hx hb hts gv_in_X4_goAlong_X4 hown hK hP 0 rfl rfl 4 (by decide) (hts (.fieldLink RX4 24 "Gravimere$Survey" "heights" "[I") (by decide +kernel)) (fun _ h9 => h9) rfl dX4_goAlong_90 ?_
    refine lv_iload_n hx hb dX4_goAlong_93 rfl (lv_at hl 0 rfl) ?_
    refine gv_il hx hb hK hP 5 (k := sb k) rfl (by first | exact hsa _ | exact hsb _ | omega) (by decide) dX4_goAlong_94 ?_
    refine lv_aload_n hx hb dX4_goAlong_95 rfl (lv_at hl 2 rfl) ?_
    refine va_get (D := D) (ci := 4) (v := .ref s3) (C := RX4) (T := TX4) (N := 9) hx hb hts gv_in_X4_goAlong_X4 hown hK hP 0 rfl rfl 2 (by decide) (hts (.fieldLink RX4 18 "Gravimere$Survey" "rises" "[I") (by decide +kernel)) (fun _ h9 => h9) rfl dX4_goAlong_96 ?_
    refine lv_iload_n hx hb dX4_goAlong_99 rfl (lv_at hl 3 rfl) ?_
    refine gv_il hx hb hK hP 3 (k := k) rfl (by first | exact hsa _ | exact hsb _ | omega) (by decide) dX4_goAlong_100 ?_
    refine lv_isub hx hb dX4_goAlong_101 ?_
    refine gv_is hx hb hK hP hD hS 5 (k := sa k) rfl (by first | exact hsa _ | exact hsb _ | omega) (by decide) dX4_goAlong_102 (fun H locs hP hD hS => ?_)
    have hP : va_P D vwCl [(s0, .inr (4, [.ref s1, .ref s2, .ref s3, .ref s4, .ref s5, .ref s6, .ref s7, .int (nI bn), .int (nI ln)])), (s1, .inl (cI, 24, .inl (fun j => nI (sa j)))), (s2, .inl (cI, 24, .inl (fun j => nI (sb j)))), (s3, .inl (cI, 24, .inl sr)), (s4, .inl (cI, 24, .inl (fun j => nI (su j)))), (s5, .inl (cI, 10, .inl (upd hh (sa k) ((hh (sb k)) - (sr k))))), (s6, .inl (cI, 10, .inl (upd dd (sa k) ((dd (sb k)) + (nI (su k))))))] H := hP
    have hD : va_D A [(s0, .inr (4, [.ref s1, .ref s2, .ref s3, .ref s4, .ref s5, .ref s6, .ref s7, .int (nI bn), .int (nI ln)])), (s1, .inl (cI, 24, .inl (fun j => nI (sa j)))), (s2, .inl (cI, 24, .inl (fun j => nI (sb j)))), (s3, .inl (cI, 24, .inl sr)), (s4, .inl (cI, 24, .inl (fun j => nI (su j)))), (s5, .inl (cI, 10, .inl (upd hh (sa k) ((hh (sb k)) - (sr k))))), (s6, .inl (cI, 10, .inl (upd dd (sa k) ((dd (sb k)) + (nI (su k))))))] := hD
    have hpo : True := by
      trivial
    have hP9 : va_P D vwCl [(s0, .inr (4, [.ref s1, .ref s2, .ref s3, .ref s4, .ref s5, .ref s6, .ref s7, .int (nI bn), .int (nI ln)])), (s1, .inl (cI, 24, .inl (fun j => nI (sa j)))), (s2, .inl (cI, 24, .inl (fun j => nI (sb j)))), (s3, .inl (cI, 24, .inl sr)), (s4, .inl (cI, 24, .inl (fun j => nI (su j)))), (s5, .inl (cI, 10, .inl ((gv_stp sa sb su sr (dd, hh) k).2))), (s6, .inl (cI, 10, .inl ((gv_stp sa sb su sr (dd, hh) k).1)))] H := by unfold gv_stp; first | (rw [if_pos c_21]; exact hP) | (rw [if_neg c_21]; exact hP)
    have hD9 : va_D A [(s0, .inr (4, [.ref s1, .ref s2, .ref s3, .ref s4, .ref s5, .ref s6, .ref s7, .int (nI bn), .int (nI ln)])), (s1, .inl (cI, 24, .inl (fun j => nI (sa j)))), (s2, .inl (cI, 24, .inl (fun j => nI (sb j)))), (s3, .inl (cI, 24, .inl sr)), (s4, .inl (cI, 24, .inl (fun j => nI (su j)))), (s5, .inl (cI, 10, .inl ((gv_stp sa sb su sr (dd, hh) k).2))), (s6, .inl (cI, 10, .inl ((gv_stp sa sb su sr (dd, hh) k).1)))] := by unfold gv_stp; first | (rw [if_pos c_21]; exact hD) | (rw [if_neg c_21]; exact hD)
    exact W.vret hx hb hr (fun t9 ht9 hW9 => ⟨⟨(), rfl, hpo, by rw [ht9]; exact hP9, hD9⟩, hS.F ht9⟩) hS.2.2 dX4_goAlong_103
  · skip
    refine lv_aload_n hx hb dX4_goAlong_24 rfl (lv_at hl 2 rfl) ?_
    refine va_get (D := D) (ci := 4) (v := .ref s6) (C := RX4) (T := TX4) (N := 9) hx hb hts gv_in_X4_goAlong_X4 hown hK hP 0 rfl rfl 5 (by decide) (hts (.fieldLink RX4 27 "Gravimere$Survey" "doubts" "[I") (by decide +kernel)) (fun _ h9 => h9) rfl dX4_goAlong_25 ?_
    refine lv_iload_n hx hb dX4_goAlong_28 rfl (lv_at hl 0 rfl) ?_
    refine lv_aload_n hx hb dX4_goAlong_29 rfl (lv_at hl 2 rfl) ?_
    refine va_get (D := D) (ci := 4) (v := .ref s6) (C := RX4) (T := TX4) (N := 9) hx hb hts gv_in_X4_goAlong_X4 hown hK hP 0 rfl rfl 5 (by decide) (hts (.fieldLink RX4 27 "Gravimere$Survey" "doubts" "[I") (by decide +kernel)) (fun _ h9 => h9) rfl dX4_goAlong_30 ?_
    refine lv_iload_n hx hb dX4_goAlong_33 rfl (lv_at hl 1 rfl) ?_
    refine gv_il hx hb hK hP 6 (k := sa k) rfl (by first | exact hsa _ | exact hsb _ | omega) (by decide) dX4_goAlong_34 ?_
    refine lv_aload_n hx hb dX4_goAlong_35 rfl (lv_at hl 2 rfl) ?_
    refine va_get (D := D) (ci := 4) (v := .ref s4) (C := RX4) (T := TX4) (N := 9) hx hb hts gv_in_X4_goAlong_X4 hown hK hP 0 rfl rfl 3 (by decide) (hts (.fieldLink RX4 21 "Gravimere$Survey" "lineDoubts" "[I") (by decide +kernel)) (fun _ h9 => h9) rfl dX4_goAlong_36 ?_
    refine lv_iload_n hx hb dX4_goAlong_39 rfl (lv_at hl 3 rfl) ?_
    refine gv_il hx hb hK hP 4 (k := k) rfl (by first | exact hsa _ | exact hsb _ | omega) (by decide) dX4_goAlong_40 ?_
    refine gv_wi (rfl) ?_
    refine lv_iadd hx hb dX4_goAlong_41 ?_
    refine gv_is hx hb hK hP hD hS 6 (k := sb k) rfl (by first | exact hsa _ | exact hsb _ | omega) (by decide) dX4_goAlong_42 (fun H locs hP hD hS => ?_)
    have hP : va_P D vwCl [(s0, .inr (4, [.ref s1, .ref s2, .ref s3, .ref s4, .ref s5, .ref s6, .ref s7, .int (nI bn), .int (nI ln)])), (s1, .inl (cI, 24, .inl (fun j => nI (sa j)))), (s2, .inl (cI, 24, .inl (fun j => nI (sb j)))), (s3, .inl (cI, 24, .inl sr)), (s4, .inl (cI, 24, .inl (fun j => nI (su j)))), (s5, .inl (cI, 10, .inl hh)), (s6, .inl (cI, 10, .inl (upd dd (sb k) ((dd (sa k)) + (nI (su k))))))] H := hP
    have hD : va_D A [(s0, .inr (4, [.ref s1, .ref s2, .ref s3, .ref s4, .ref s5, .ref s6, .ref s7, .int (nI bn), .int (nI ln)])), (s1, .inl (cI, 24, .inl (fun j => nI (sa j)))), (s2, .inl (cI, 24, .inl (fun j => nI (sb j)))), (s3, .inl (cI, 24, .inl sr)), (s4, .inl (cI, 24, .inl (fun j => nI (su j)))), (s5, .inl (cI, 10, .inl hh)), (s6, .inl (cI, 10, .inl (upd dd (sb k) ((dd (sa k)) + (nI (su k))))))] := hD
    refine lv_aload_n hx hb dX4_goAlong_43 rfl (lv_at hl 2 rfl) ?_
    refine va_get (D := D) (ci := 4) (v := .ref s5) (C := RX4) (T := TX4) (N := 9) hx hb hts gv_in_X4_goAlong_X4 hown hK hP 0 rfl rfl 4 (by decide) (hts (.fieldLink RX4 24 "Gravimere$Survey" "heights" "[I") (by decide +kernel)) (fun _ h9 => h9) rfl dX4_goAlong_44 ?_
    refine lv_iload_n hx hb dX4_goAlong_47 rfl (lv_at hl 0 rfl) ?_
    refine lv_aload_n hx hb dX4_goAlong_48 rfl (lv_at hl 2 rfl) ?_
    refine va_get (D := D) (ci := 4) (v := .ref s5) (C := RX4) (T := TX4) (N := 9) hx hb hts gv_in_X4_goAlong_X4 hown hK hP 0 rfl rfl 4 (by decide) (hts (.fieldLink RX4 24 "Gravimere$Survey" "heights" "[I") (by decide +kernel)) (fun _ h9 => h9) rfl dX4_goAlong_49 ?_
    refine lv_iload_n hx hb dX4_goAlong_52 rfl (lv_at hl 1 rfl) ?_
    refine gv_il hx hb hK hP 5 (k := sa k) rfl (by first | exact hsa _ | exact hsb _ | omega) (by decide) dX4_goAlong_53 ?_
    refine lv_aload_n hx hb dX4_goAlong_54 rfl (lv_at hl 2 rfl) ?_
    refine va_get (D := D) (ci := 4) (v := .ref s3) (C := RX4) (T := TX4) (N := 9) hx hb hts gv_in_X4_goAlong_X4 hown hK hP 0 rfl rfl 2 (by decide) (hts (.fieldLink RX4 18 "Gravimere$Survey" "rises" "[I") (by decide +kernel)) (fun _ h9 => h9) rfl dX4_goAlong_55 ?_
    refine lv_iload_n hx hb dX4_goAlong_58 rfl (lv_at hl 3 rfl) ?_
    refine gv_il hx hb hK hP 3 (k := k) rfl (by first | exact hsa _ | exact hsb _ | omega) (by decide) dX4_goAlong_59 ?_
    refine lv_iadd hx hb dX4_goAlong_60 ?_
    refine gv_is hx hb hK hP hD hS 5 (k := sb k) rfl (by first | exact hsa _ | exact hsb _ | omega) (by decide) dX4_goAlong_61 (fun H locs hP hD hS => ?_)
    have hP : va_P D vwCl [(s0, .inr (4, [.ref s1, .ref s2, .ref s3, .ref s4, .ref s5, .ref s6, .ref s7, .int (nI bn), .int (nI ln)])), (s1, .inl (cI, 24, .inl (fun j => nI (sa j)))), (s2, .inl (cI, 24, .inl (fun j => nI (sb j)))), (s3, .inl (cI, 24, .inl sr)), (s4, .inl (cI, 24, .inl (fun j => nI (su j)))), (s5, .inl (cI, 10, .inl (upd hh (sb k) ((hh (sa k)) + (sr k))))), (s6, .inl (cI, 10, .inl (upd dd (sb k) ((dd (sa k)) + (nI (su k))))))] H := hP
    have hD : va_D A [(s0, .inr (4, [.ref s1, .ref s2, .ref s3, .ref s4, .ref s5, .ref s6, .ref s7, .int (nI bn), .int (nI ln)])), (s1, .inl (cI, 24, .inl (fun j => nI (sa j)))), (s2, .inl (cI, 24, .inl (fun j => nI (sb j)))), (s3, .inl (cI, 24, .inl sr)), (s4, .inl (cI, 24, .inl (fun j => nI (su j)))), (s5, .inl (cI, 10, .inl (upd hh (sb k) ((hh (sa k)) + (sr k))))), (s6, .inl (cI, 10, .inl (upd dd (sb k) ((dd (sa k)) + (nI (su k))))))] := hD
    refine lv_goto (tgt := 103) hx hb dX4_goAlong_62 (by decide) ?_
    have hpo : True := by
      trivial
    have hP9 : va_P D vwCl [(s0, .inr (4, [.ref s1, .ref s2, .ref s3, .ref s4, .ref s5, .ref s6, .ref s7, .int (nI bn), .int (nI ln)])), (s1, .inl (cI, 24, .inl (fun j => nI (sa j)))), (s2, .inl (cI, 24, .inl (fun j => nI (sb j)))), (s3, .inl (cI, 24, .inl sr)), (s4, .inl (cI, 24, .inl (fun j => nI (su j)))), (s5, .inl (cI, 10, .inl ((gv_stp sa sb su sr (dd, hh) k).2))), (s6, .inl (cI, 10, .inl ((gv_stp sa sb su sr (dd, hh) k).1)))] H := by unfold gv_stp; first | (rw [if_pos c_21]; exact hP) | (rw [if_neg c_21]; exact hP)
    have hD9 : va_D A [(s0, .inr (4, [.ref s1, .ref s2, .ref s3, .ref s4, .ref s5, .ref s6, .ref s7, .int (nI bn), .int (nI ln)])), (s1, .inl (cI, 24, .inl (fun j => nI (sa j)))), (s2, .inl (cI, 24, .inl (fun j => nI (sb j)))), (s3, .inl (cI, 24, .inl sr)), (s4, .inl (cI, 24, .inl (fun j => nI (su j)))), (s5, .inl (cI, 10, .inl ((gv_stp sa sb su sr (dd, hh) k).2))), (s6, .inl (cI, 10, .inl ((gv_stp sa sb su sr (dd, hh) k).1)))] := by unfold gv_stp; first | (rw [if_pos c_21]; exact hD) | (rw [if_neg c_21]; exact hD)
    exact W.vret hx hb hr (fun t9 ht9 hW9 => ⟨⟨(), rfl, hpo, by rw [ht9]; exact hP9, hD9⟩, hS.F ht9⟩) hS.2.2 dX4_goAlong_103
